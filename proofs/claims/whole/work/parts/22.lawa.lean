set_option maxRecDepth 100000 in
set_option maxHeartbeats 4000000 in
theorem la_0 {X : KX} {g : KG} {b L a1 : Nat} {q : Nat → Nat} {xs : Nat → Int32} {j : Nat} (C : kC X g cL_law "MarkChainsLaw" room_1 4) (hs : kScr X b L xs) (hj : 6 * j + 6 ≤ L) (hL : L ≤ 3072) {RL : XS → MS → Prop} (hop : ∀ (T : XS) (M : MS) (a1 : Int32) (a2 : Int32) (a3 : Int32) (a4 : Int32) (a5 : Int32), RL T M → ∃ (r : Int32) (T' : XS) (M' : MS), fo_feed T a1 a2 a3 a4 a5 = some (r, T') ∧ fm_feed M a1 a2 a3 a4 a5 = some (r, M') ∧ RL T' M') (tl : ∀ (T' : XS) (M' : MS) (w1 : va_W), RL T' M' → cF g a1 T' w1 → jJ X g () (w1 ++ mw g q M') (100 + 30 * (j + 1)) (22000 + 677 * (j + 1)) 1834 [(0, .ref b), (1, .ref a1), (2, .ref (q 0)), (3, .int (nI (6 * j)))] [] (some ())) (T : XS) (M : MS) (w : va_W) (hRL : RL T M) (hT : cF g a1 T w) : jJ X g () (w ++ mw g q M) (100 + 30 * j) (22000 + 677 * j) 240 [(0, .ref b), (1, .ref a1), (2, .ref (q 0)), (3, .int (nI (6 * j)))] [] (some ()) := by
  obtain ⟨r, T', M', h1, h2, h3⟩ := hop T M (xs (nI (6 * j) + 1).toNatClampNeg) (xs (nI (6 * j) + 2).toNatClampNeg) (xs (nI (6 * j) + 3).toNatClampNeg) (xs (nI (6 * j) + 4).toNatClampNeg) (xs (nI (6 * j) + 5).toNatClampNeg) hRL
  obtain ⟨fs, he⟩ := cF_head hT
  refine r_aload_n (pc := 240) C dL_law_240 1 rfl ?_
  refine r_aload_n (pc := 241) C dL_law_241 0 rfl ?_
  refine r_iload_n (pc := 242) C dL_law_242 3 rfl ?_
  refine r_iconst (pc := 243) C dL_law_243 (v := 1) (by decide) ?_
  refine r_iadd (pc := 244) C dL_law_244 ?_
  refine r_sld (pc := 245) C hs (vin_k (k := 1) hj hL (by decide)) dL_law_245 ?_
  refine r_aload_n (pc := 246) C dL_law_246 0 rfl ?_
  refine r_iload_n (pc := 247) C dL_law_247 3 rfl ?_
  refine r_iconst (pc := 248) C dL_law_248 (v := 2) (by decide) ?_
  refine r_iadd (pc := 249) C dL_law_249 ?_
  refine r_sld (pc := 250) C hs (vin_k (k := 2) hj hL (by decide)) dL_law_250 ?_
  refine r_aload_n (pc := 251) C dL_law_251 0 rfl ?_
  refine r_iload_n (pc := 252) C dL_law_252 3 rfl ?_
  refine r_iconst (pc := 253) C dL_law_253 (v := 3) (by decide) ?_
  refine r_iadd (pc := 254) C dL_law_254 ?_
  refine r_sld (pc := 255) C hs (vin_k (k := 3) hj hL (by decide)) dL_law_255 ?_
  refine r_aload_n (pc := 256) C dL_law_256 0 rfl ?_
  refine r_iload_n (pc := 257) C dL_law_257 3 rfl ?_
  refine r_iconst (pc := 258) C dL_law_258 (v := 4) (by decide) ?_
  refine r_iadd (pc := 259) C dL_law_259 ?_
  refine r_sld (pc := 260) C hs (vin_k (k := 4) hj hL (by decide)) dL_law_260 ?_
  refine r_aload_n (pc := 261) C dL_law_261 0 rfl ?_
  refine r_iload_n (pc := 262) C dL_law_262 3 rfl ?_
  refine r_iconst (pc := 263) C dL_law_263 (v := 5) (by decide) ?_
  refine r_iadd (pc := 264) C dL_law_264 ?_
  refine r_sld (pc := 265) C hs (vin_k (k := 5) hj hL (by decide)) dL_law_265 ?_
  refine (?_ : jJ X g () _ _ _ _ _ _ (bp (some ()) (fun _ => some ())))
  refine r_cVx (α := Unit) (fN := some ()) (Φ := fun _ o w => o = some (.int r) ∧ cF g a1 T' w) (wc := w) (wr := mw g q M) (As := [.int (xs (nI (6 * j) + 1).toNatClampNeg), .int (xs (nI (6 * j) + 2).toNatClampNeg), .int (xs (nI (6 * j) + 3).toNatClampNeg), .int (xs (nI (6 * j) + 4).toNatClampNeg), .int (xs (nI (6 * j) + 5).toNatClampNeg)]) (st := []) (mc := 0) (ms := 0) (pc := 266) C (fun _ _ => o_feed hT h1) kY_X11_feed kw_2_115 kw_2_116 kw_2_114 rfl ⟨Nat.le_of_ble_eq_true rfl, Nat.le_of_ble_eq_true rfl⟩ rfl rfl ⟨by show 100 + 30 * j + 0 ≤ 600000; omega, by show 22000 + 677 * j + 0 ≤ 7302250; omega⟩ rfl 0 he rfl rfl (Nat.le_of_ble_eq_true rfl) dL_law_266 (fun _ o w1 hw => ?_)
  obtain ⟨rfl, hw⟩ := hw
  refine r_aload_n (pc := 269) C dL_law_269 2 rfl ?_
  refine r_aload_n (pc := 270) C dL_law_270 0 rfl ?_
  refine r_iload_n (pc := 271) C dL_law_271 3 rfl ?_
  refine r_iconst (pc := 272) C dL_law_272 (v := 1) (by decide) ?_
  refine r_iadd (pc := 273) C dL_law_273 ?_
  refine r_sld (pc := 274) C hs (vin_k (k := 1) hj hL (by decide)) dL_law_274 ?_
  refine r_aload_n (pc := 275) C dL_law_275 0 rfl ?_
  refine r_iload_n (pc := 276) C dL_law_276 3 rfl ?_
  refine r_iconst (pc := 277) C dL_law_277 (v := 2) (by decide) ?_
  refine r_iadd (pc := 278) C dL_law_278 ?_
  refine r_sld (pc := 279) C hs (vin_k (k := 2) hj hL (by decide)) dL_law_279 ?_
  refine r_aload_n (pc := 280) C dL_law_280 0 rfl ?_
  refine r_iload_n (pc := 281) C dL_law_281 3 rfl ?_
  refine r_iconst (pc := 282) C dL_law_282 (v := 3) (by decide) ?_
  refine r_iadd (pc := 283) C dL_law_283 ?_
  refine r_sld (pc := 284) C hs (vin_k (k := 3) hj hL (by decide)) dL_law_284 ?_
  refine r_aload_n (pc := 285) C dL_law_285 0 rfl ?_
  refine r_iload_n (pc := 286) C dL_law_286 3 rfl ?_
  refine r_iconst (pc := 287) C dL_law_287 (v := 4) (by decide) ?_
  refine r_iadd (pc := 288) C dL_law_288 ?_
  refine r_sld (pc := 289) C hs (vin_k (k := 4) hj hL (by decide)) dL_law_289 ?_
  refine r_aload_n (pc := 290) C dL_law_290 0 rfl ?_
  refine r_iload_n (pc := 291) C dL_law_291 3 rfl ?_
  refine r_iconst (pc := 292) C dL_law_292 (v := 5) (by decide) ?_
  refine r_iadd (pc := 293) C dL_law_293 ?_
  refine r_sld (pc := 294) C hs (vin_k (k := 5) hj hL (by decide)) dL_law_294 ?_
  refine r_perm (ws' := mw g q M ++ w1) k_p2 ?_
  refine (?_ : jJ X g () _ _ _ _ _ _ (bp (some ()) (fun _ => some ())))
  refine r_cVx (α := Unit) (fN := some ()) (Φ := fun _ o w => o = some (.int r) ∧ w = mw g q M') (wc := mw g q M) (wr := w1) (As := [.int (xs (nI (6 * j) + 1).toNatClampNeg), .int (xs (nI (6 * j) + 2).toNatClampNeg), .int (xs (nI (6 * j) + 3).toNatClampNeg), .int (xs (nI (6 * j) + 4).toNatClampNeg), .int (xs (nI (6 * j) + 5).toNatClampNeg)]) (st := [.int r]) (mc := 0) (ms := 0) (pc := 295) C (fun _ _ l => (p_feed h2 l).x ⟨rfl, rfl⟩) kY_X12_feed kw_6_112 kw_6_113 kw_6_111 rfl ⟨Nat.le_of_ble_eq_true rfl, Nat.le_of_ble_eq_true rfl⟩ rfl rfl ⟨by show 100 + 30 * j + 0 + 0 ≤ 600000; omega, by show 22000 + 677 * j + 0 + 0 ≤ 7302250; omega⟩ rfl 0 rfl rfl rfl (Nat.le_of_ble_eq_true rfl) dL_law_295 (fun _ o w2 hw2 => ?_)
  obtain ⟨rfl, rfl⟩ := hw2
  refine r_perm (ws' := w1 ++ mw g q M') k_p2 ?_
  refine r_eqT 1834 (pc := 298) C dL_law_298 (by decide) ?_
  refine r_widen (a' := 100 + 30 * (j + 1)) (b' := 22000 + 677 * (j + 1)) (by show 100 + 30 * j + 0 + 0 ≤ _; omega) (by show 22000 + 677 * j + 0 + 0 ≤ _; omega) ?_
  exact tl T' M' w1 h3 hw
set_option maxRecDepth 100000 in
set_option maxHeartbeats 4000000 in
theorem la_1 {X : KX} {g : KG} {b L a1 : Nat} {q : Nat → Nat} {xs : Nat → Int32} {j : Nat} (C : kC X g cL_law "MarkChainsLaw" room_1 4) (hs : kScr X b L xs) (hj : 6 * j + 6 ≤ L) (hL : L ≤ 3072) {RL : XS → MS → Prop} (hop : ∀ (T : XS) (M : MS) (a1 : Int32), RL T M → ∃ (r : Int32) (T' : XS) (M' : MS), fo_end T a1 = some (r, T') ∧ fm_end M a1 = some (r, M') ∧ RL T' M') (tl : ∀ (T' : XS) (M' : MS) (w1 : va_W), RL T' M' → cF g a1 T' w1 → jJ X g () (w1 ++ mw g q M') (100 + 30 * (j + 1)) (22000 + 677 * (j + 1)) 1834 [(0, .ref b), (1, .ref a1), (2, .ref (q 0)), (3, .int (nI (6 * j)))] [] (some ())) (T : XS) (M : MS) (w : va_W) (hRL : RL T M) (hT : cF g a1 T w) : jJ X g () (w ++ mw g q M) (100 + 30 * j) (22000 + 677 * j) 303 [(0, .ref b), (1, .ref a1), (2, .ref (q 0)), (3, .int (nI (6 * j)))] [] (some ()) := by
  obtain ⟨r, T', M', h1, h2, h3⟩ := hop T M (xs (nI (6 * j) + 1).toNatClampNeg) hRL
  obtain ⟨fs, he⟩ := cF_head hT
  refine r_aload_n (pc := 303) C dL_law_303 1 rfl ?_
  refine r_aload_n (pc := 304) C dL_law_304 0 rfl ?_
  refine r_iload_n (pc := 305) C dL_law_305 3 rfl ?_
  refine r_iconst (pc := 306) C dL_law_306 (v := 1) (by decide) ?_
  refine r_iadd (pc := 307) C dL_law_307 ?_
  refine r_sld (pc := 308) C hs (vin_k (k := 1) hj hL (by decide)) dL_law_308 ?_
  refine (?_ : jJ X g () _ _ _ _ _ _ (bp (some ()) (fun _ => some ())))
  refine r_cVx (α := Unit) (fN := some ()) (Φ := fun _ o w => o = some (.int r) ∧ cF g a1 T' w) (wc := w) (wr := mw g q M) (As := [.int (xs (nI (6 * j) + 1).toNatClampNeg)]) (st := []) (mc := 0) (ms := 0) (pc := 309) C (fun _ _ => o_end hT h1) kY_X11_end kw_2_123 kw_2_124 kw_2_122 rfl ⟨Nat.le_of_ble_eq_true rfl, Nat.le_of_ble_eq_true rfl⟩ rfl rfl ⟨by show 100 + 30 * j + 0 ≤ 600000; omega, by show 22000 + 677 * j + 0 ≤ 7302250; omega⟩ rfl 0 he rfl rfl (Nat.le_of_ble_eq_true rfl) dL_law_309 (fun _ o w1 hw => ?_)
  obtain ⟨rfl, hw⟩ := hw
  refine r_aload_n (pc := 312) C dL_law_312 2 rfl ?_
  refine r_aload_n (pc := 313) C dL_law_313 0 rfl ?_
  refine r_iload_n (pc := 314) C dL_law_314 3 rfl ?_
  refine r_iconst (pc := 315) C dL_law_315 (v := 1) (by decide) ?_
  refine r_iadd (pc := 316) C dL_law_316 ?_
  refine r_sld (pc := 317) C hs (vin_k (k := 1) hj hL (by decide)) dL_law_317 ?_
  refine r_perm (ws' := mw g q M ++ w1) k_p2 ?_
  refine (?_ : jJ X g () _ _ _ _ _ _ (bp (some ()) (fun _ => some ())))
  refine r_cVx (α := Unit) (fN := some ()) (Φ := fun _ o w => o = some (.int r) ∧ w = mw g q M') (wc := mw g q M) (wr := w1) (As := [.int (xs (nI (6 * j) + 1).toNatClampNeg)]) (st := [.int r]) (mc := 0) (ms := 0) (pc := 318) C (fun _ _ l => (p_end h2 l).x ⟨rfl, rfl⟩) kY_X12_end kw_6_120 kw_6_121 kw_6_119 rfl ⟨Nat.le_of_ble_eq_true rfl, Nat.le_of_ble_eq_true rfl⟩ rfl rfl ⟨by show 100 + 30 * j + 0 + 0 ≤ 600000; omega, by show 22000 + 677 * j + 0 + 0 ≤ 7302250; omega⟩ rfl 0 rfl rfl rfl (Nat.le_of_ble_eq_true rfl) dL_law_318 (fun _ o w2 hw2 => ?_)
  obtain ⟨rfl, rfl⟩ := hw2
  refine r_perm (ws' := w1 ++ mw g q M') k_p2 ?_
  refine r_eqT 1834 (pc := 321) C dL_law_321 (by decide) ?_
  refine r_widen (a' := 100 + 30 * (j + 1)) (b' := 22000 + 677 * (j + 1)) (by show 100 + 30 * j + 0 + 0 ≤ _; omega) (by show 22000 + 677 * j + 0 + 0 ≤ _; omega) ?_
  exact tl T' M' w1 h3 hw
set_option maxRecDepth 100000 in
set_option maxHeartbeats 4000000 in
theorem la_2 {X : KX} {g : KG} {b L a1 : Nat} {q : Nat → Nat} {xs : Nat → Int32} {j : Nat} (C : kC X g cL_law "MarkChainsLaw" room_1 4) (hs : kScr X b L xs) (hj : 6 * j + 6 ≤ L) (hL : L ≤ 3072) {RL : XS → MS → Prop} (hop : ∀ (T : XS) (M : MS), RL T M → ∃ (r : Int32) (T' : XS) (M' : MS), fo_text T = some (r, T') ∧ fm_text M = some (r, M') ∧ RL T' M') (tl : ∀ (T' : XS) (M' : MS) (w1 : va_W), RL T' M' → cF g a1 T' w1 → jJ X g () (w1 ++ mw g q M') (100 + 30 * (j + 1)) (22000 + 677 * (j + 1)) 1834 [(0, .ref b), (1, .ref a1), (2, .ref (q 0)), (3, .int (nI (6 * j)))] [] (some ())) (T : XS) (M : MS) (w : va_W) (hRL : RL T M) (hT : cF g a1 T w) : jJ X g () (w ++ mw g q M) (100 + 30 * j) (22000 + 677 * j) 326 [(0, .ref b), (1, .ref a1), (2, .ref (q 0)), (3, .int (nI (6 * j)))] [] (some ()) := by
  obtain ⟨r, T', M', h1, h2, h3⟩ := hop T M hRL
  obtain ⟨fs, he⟩ := cF_head hT
  refine r_aload_n (pc := 326) C dL_law_326 1 rfl ?_
  refine (?_ : jJ X g () _ _ _ _ _ _ (bp (some ()) (fun _ => some ())))
  refine r_cVx (α := Unit) (fN := some ()) (Φ := fun _ o w => o = some (.int r) ∧ cF g a1 T' w) (wc := w) (wr := mw g q M) (As := []) (st := []) (mc := 1) (ms := 5) (pc := 327) C (fun _ _ => o_text hT h1) kY_X11_text kw_2_127 kw_2_128 kw_2_126 rfl ⟨Nat.le_of_ble_eq_true rfl, Nat.le_of_ble_eq_true rfl⟩ rfl rfl ⟨by show 100 + 30 * j + 1 ≤ 600000; omega, by show 22000 + 677 * j + 5 ≤ 7302250; omega⟩ rfl 0 he rfl rfl (Nat.le_of_ble_eq_true rfl) dL_law_327 (fun _ o w1 hw => ?_)
  obtain ⟨rfl, hw⟩ := hw
  refine r_aload_n (pc := 330) C dL_law_330 2 rfl ?_
  refine r_perm (ws' := mw g q M ++ w1) k_p2 ?_
  refine (?_ : jJ X g () _ _ _ _ _ _ (bp (some ()) (fun _ => some ())))
  refine r_cVx (α := Unit) (fN := some ()) (Φ := fun _ o w => o = some (.int r) ∧ w = mw g q M') (wc := mw g q M) (wr := w1) (As := []) (st := [.int r]) (mc := 0) (ms := 0) (pc := 331) C (fun _ _ l => (p_text h2 l).x ⟨rfl, rfl⟩) kY_X12_text kw_6_131 kw_6_132 kw_6_130 rfl ⟨Nat.le_of_ble_eq_true rfl, Nat.le_of_ble_eq_true rfl⟩ rfl rfl ⟨by show 100 + 30 * j + 1 + 0 ≤ 600000; omega, by show 22000 + 677 * j + 5 + 0 ≤ 7302250; omega⟩ rfl 0 rfl rfl rfl (Nat.le_of_ble_eq_true rfl) dL_law_331 (fun _ o w2 hw2 => ?_)
  obtain ⟨rfl, rfl⟩ := hw2
  refine r_perm (ws' := w1 ++ mw g q M') k_p2 ?_
  refine r_eqT 1834 (pc := 334) C dL_law_334 (by decide) ?_
  refine r_widen (a' := 100 + 30 * (j + 1)) (b' := 22000 + 677 * (j + 1)) (by show 100 + 30 * j + 1 + 0 ≤ _; omega) (by show 22000 + 677 * j + 5 + 0 ≤ _; omega) ?_
  exact tl T' M' w1 h3 hw
set_option maxRecDepth 100000 in
set_option maxHeartbeats 4000000 in
theorem la_3 {X : KX} {g : KG} {b L a1 : Nat} {q : Nat → Nat} {xs : Nat → Int32} {j : Nat} (C : kC X g cL_law "MarkChainsLaw" room_1 4) (hs : kScr X b L xs) (hj : 6 * j + 6 ≤ L) (hL : L ≤ 3072) {RL : XS → MS → Prop} (hop : ∀ (T : XS) (M : MS), RL T M → ∃ (r : Int32) (T' : XS) (M' : MS), fo_needs T = some (r, T') ∧ fm_needs M = some (r, M') ∧ RL T' M') (tl : ∀ (T' : XS) (M' : MS) (w1 : va_W), RL T' M' → cF g a1 T' w1 → jJ X g () (w1 ++ mw g q M') (100 + 30 * (j + 1)) (22000 + 677 * (j + 1)) 1834 [(0, .ref b), (1, .ref a1), (2, .ref (q 0)), (3, .int (nI (6 * j)))] [] (some ())) (T : XS) (M : MS) (w : va_W) (hRL : RL T M) (hT : cF g a1 T w) : jJ X g () (w ++ mw g q M) (100 + 30 * j) (22000 + 677 * j) 339 [(0, .ref b), (1, .ref a1), (2, .ref (q 0)), (3, .int (nI (6 * j)))] [] (some ()) := by
  obtain ⟨r, T', M', h1, h2, h3⟩ := hop T M hRL
  obtain ⟨fs, he⟩ := cF_head hT
  refine r_aload_n (pc := 339) C dL_law_339 1 rfl ?_
  refine (?_ : jJ X g () _ _ _ _ _ _ (bp (some ()) (fun _ => some ())))
  refine r_cVx (α := Unit) (fN := some ()) (Φ := fun _ o w => o = some (.int r) ∧ cF g a1 T' w) (wc := w) (wr := mw g q M) (As := []) (st := []) (mc := 5) (ms := 677) (pc := 340) C (fun _ _ => o_needs hT h1) kY_X11_needs kw_3_126 kw_3_127 kw_3_125 rfl ⟨Nat.le_of_ble_eq_true rfl, Nat.le_of_ble_eq_true rfl⟩ rfl rfl ⟨by show 100 + 30 * j + 5 ≤ 600000; omega, by show 22000 + 677 * j + 677 ≤ 7302250; omega⟩ rfl 0 he rfl rfl (Nat.le_of_ble_eq_true rfl) dL_law_340 (fun _ o w1 hw => ?_)
  obtain ⟨rfl, hw⟩ := hw
  refine r_aload_n (pc := 343) C dL_law_343 2 rfl ?_
  refine r_perm (ws' := mw g q M ++ w1) k_p2 ?_
  refine (?_ : jJ X g () _ _ _ _ _ _ (bp (some ()) (fun _ => some ())))
  refine r_cVx (α := Unit) (fN := some ()) (Φ := fun _ o w => o = some (.int r) ∧ w = mw g q M') (wc := mw g q M) (wr := w1) (As := []) (st := [.int r]) (mc := 0) (ms := 0) (pc := 344) C (fun _ _ l => (p_needs h2 l).x ⟨rfl, rfl⟩) kY_X12_needs kw_6_194 kw_6_195 kw_6_193 rfl ⟨Nat.le_of_ble_eq_true rfl, Nat.le_of_ble_eq_true rfl⟩ rfl rfl ⟨by show 100 + 30 * j + 5 + 0 ≤ 600000; omega, by show 22000 + 677 * j + 677 + 0 ≤ 7302250; omega⟩ rfl 0 rfl rfl rfl (Nat.le_of_ble_eq_true rfl) dL_law_344 (fun _ o w2 hw2 => ?_)
  obtain ⟨rfl, rfl⟩ := hw2
  refine r_perm (ws' := w1 ++ mw g q M') k_p2 ?_
  refine r_eqT 1834 (pc := 347) C dL_law_347 (by decide) ?_
  refine r_widen (a' := 100 + 30 * (j + 1)) (b' := 22000 + 677 * (j + 1)) (by show 100 + 30 * j + 5 + 0 ≤ _; omega) (by show 22000 + 677 * j + 677 + 0 ≤ _; omega) ?_
  exact tl T' M' w1 h3 hw
set_option maxRecDepth 100000 in
set_option maxHeartbeats 4000000 in
theorem la_4 {X : KX} {g : KG} {b L a1 : Nat} {q : Nat → Nat} {xs : Nat → Int32} {j : Nat} (C : kC X g cL_law "MarkChainsLaw" room_1 4) (hs : kScr X b L xs) (hj : 6 * j + 6 ≤ L) (hL : L ≤ 3072) {RL : XS → MS → Prop} (hop : ∀ (T : XS) (M : MS), RL T M → ∃ (r : Int32) (T' : XS) (M' : MS), fo_fault T = some (r, T') ∧ fm_fault M = some (r, M') ∧ RL T' M') (tl : ∀ (T' : XS) (M' : MS) (w1 : va_W), RL T' M' → cF g a1 T' w1 → jJ X g () (w1 ++ mw g q M') (100 + 30 * (j + 1)) (22000 + 677 * (j + 1)) 1834 [(0, .ref b), (1, .ref a1), (2, .ref (q 0)), (3, .int (nI (6 * j)))] [] (some ())) (T : XS) (M : MS) (w : va_W) (hRL : RL T M) (hT : cF g a1 T w) : jJ X g () (w ++ mw g q M) (100 + 30 * j) (22000 + 677 * j) 352 [(0, .ref b), (1, .ref a1), (2, .ref (q 0)), (3, .int (nI (6 * j)))] [] (some ()) := by
  obtain ⟨r, T', M', h1, h2, h3⟩ := hop T M hRL
  obtain ⟨fs, he⟩ := cF_head hT
  refine r_aload_n (pc := 352) C dL_law_352 1 rfl ?_
  refine (?_ : jJ X g () _ _ _ _ _ _ (bp (some ()) (fun _ => some ())))
  refine r_cVx (α := Unit) (fN := some ()) (Φ := fun _ o w => o = some (.int r) ∧ cF g a1 T' w) (wc := w) (wr := mw g q M) (As := []) (st := []) (mc := 0) (ms := 0) (pc := 353) C (fun _ _ => o_fault hT h1) kY_X11_fault kw_3_221 kw_3_222 kw_3_220 rfl ⟨Nat.le_of_ble_eq_true rfl, Nat.le_of_ble_eq_true rfl⟩ rfl rfl ⟨by show 100 + 30 * j + 0 ≤ 600000; omega, by show 22000 + 677 * j + 0 ≤ 7302250; omega⟩ rfl 0 he rfl rfl (Nat.le_of_ble_eq_true rfl) dL_law_353 (fun _ o w1 hw => ?_)
  obtain ⟨rfl, hw⟩ := hw
  refine r_aload_n (pc := 356) C dL_law_356 2 rfl ?_
  refine r_perm (ws' := mw g q M ++ w1) k_p2 ?_
  refine (?_ : jJ X g () _ _ _ _ _ _ (bp (some ()) (fun _ => some ())))
  refine r_cVx (α := Unit) (fN := some ()) (Φ := fun _ o w => o = some (.int r) ∧ w = mw g q M') (wc := mw g q M) (wr := w1) (As := []) (st := [.int r]) (mc := 0) (ms := 0) (pc := 357) C (fun _ _ l => (p_fault h2 l).x ⟨rfl, rfl⟩) kY_X12_fault kw_6_127 kw_6_128 kw_6_126 rfl ⟨Nat.le_of_ble_eq_true rfl, Nat.le_of_ble_eq_true rfl⟩ rfl rfl ⟨by show 100 + 30 * j + 0 + 0 ≤ 600000; omega, by show 22000 + 677 * j + 0 + 0 ≤ 7302250; omega⟩ rfl 0 rfl rfl rfl (Nat.le_of_ble_eq_true rfl) dL_law_357 (fun _ o w2 hw2 => ?_)
  obtain ⟨rfl, rfl⟩ := hw2
  refine r_perm (ws' := w1 ++ mw g q M') k_p2 ?_
  refine r_eqT 1834 (pc := 360) C dL_law_360 (by decide) ?_
  refine r_widen (a' := 100 + 30 * (j + 1)) (b' := 22000 + 677 * (j + 1)) (by show 100 + 30 * j + 0 + 0 ≤ _; omega) (by show 22000 + 677 * j + 0 + 0 ≤ _; omega) ?_
  exact tl T' M' w1 h3 hw
set_option maxRecDepth 100000 in
set_option maxHeartbeats 4000000 in
theorem la_5 {X : KX} {g : KG} {b L a1 : Nat} {q : Nat → Nat} {xs : Nat → Int32} {j : Nat} (C : kC X g cL_law "MarkChainsLaw" room_1 4) (hs : kScr X b L xs) (hj : 6 * j + 6 ≤ L) (hL : L ≤ 3072) {RL : XS → MS → Prop} (hop : ∀ (T : XS) (M : MS) (a1 : Int32), RL T M → ∃ (r : Int32) (T' : XS) (M' : MS), fo_is T a1 = some (r, T') ∧ fm_is M a1 = some (r, M') ∧ RL T' M') (tl : ∀ (T' : XS) (M' : MS) (w1 : va_W), RL T' M' → cF g a1 T' w1 → jJ X g () (w1 ++ mw g q M') (100 + 30 * (j + 1)) (22000 + 677 * (j + 1)) 1834 [(0, .ref b), (1, .ref a1), (2, .ref (q 0)), (3, .int (nI (6 * j)))] [] (some ())) (T : XS) (M : MS) (w : va_W) (hRL : RL T M) (hT : cF g a1 T w) : jJ X g () (w ++ mw g q M) (100 + 30 * j) (22000 + 677 * j) 365 [(0, .ref b), (1, .ref a1), (2, .ref (q 0)), (3, .int (nI (6 * j)))] [] (some ()) := by
  obtain ⟨r, T', M', h1, h2, h3⟩ := hop T M (xs (nI (6 * j) + 1).toNatClampNeg) hRL
  obtain ⟨fs, he⟩ := cF_head hT
  refine r_aload_n (pc := 365) C dL_law_365 1 rfl ?_
  refine r_aload_n (pc := 366) C dL_law_366 0 rfl ?_
  refine r_iload_n (pc := 367) C dL_law_367 3 rfl ?_
  refine r_iconst (pc := 368) C dL_law_368 (v := 1) (by decide) ?_
  refine r_iadd (pc := 369) C dL_law_369 ?_
  refine r_sld (pc := 370) C hs (vin_k (k := 1) hj hL (by decide)) dL_law_370 ?_
  refine (?_ : jJ X g () _ _ _ _ _ _ (bp (some ()) (fun _ => some ())))
  refine r_cVx (α := Unit) (fN := some ()) (Φ := fun _ o w => o = some (.int r) ∧ cF g a1 T' w) (wc := w) (wr := mw g q M) (As := [.int (xs (nI (6 * j) + 1).toNatClampNeg)]) (st := []) (mc := 0) (ms := 0) (pc := 371) C (fun _ _ => o_is hT h1) kY_X11_is kw_3_225 kw_3_226 kw_3_224 rfl ⟨Nat.le_of_ble_eq_true rfl, Nat.le_of_ble_eq_true rfl⟩ rfl rfl ⟨by show 100 + 30 * j + 0 ≤ 600000; omega, by show 22000 + 677 * j + 0 ≤ 7302250; omega⟩ rfl 0 he rfl rfl (Nat.le_of_ble_eq_true rfl) dL_law_371 (fun _ o w1 hw => ?_)
  obtain ⟨rfl, hw⟩ := hw
  refine r_aload_n (pc := 374) C dL_law_374 2 rfl ?_
  refine r_aload_n (pc := 375) C dL_law_375 0 rfl ?_
  refine r_iload_n (pc := 376) C dL_law_376 3 rfl ?_
  refine r_iconst (pc := 377) C dL_law_377 (v := 1) (by decide) ?_
  refine r_iadd (pc := 378) C dL_law_378 ?_
  refine r_sld (pc := 379) C hs (vin_k (k := 1) hj hL (by decide)) dL_law_379 ?_
  refine r_perm (ws' := mw g q M ++ w1) k_p2 ?_
  refine (?_ : jJ X g () _ _ _ _ _ _ (bp (some ()) (fun _ => some ())))
  refine r_cVx (α := Unit) (fN := some ()) (Φ := fun _ o w => o = some (.int r) ∧ w = mw g q M') (wc := mw g q M) (wr := w1) (As := [.int (xs (nI (6 * j) + 1).toNatClampNeg)]) (st := [.int r]) (mc := 0) (ms := 0) (pc := 380) C (fun _ _ l => (p_is h2 l).x ⟨rfl, rfl⟩) kY_X12_is kw_7_50 kw_7_51 kw_7_49 rfl ⟨Nat.le_of_ble_eq_true rfl, Nat.le_of_ble_eq_true rfl⟩ rfl rfl ⟨by show 100 + 30 * j + 0 + 0 ≤ 600000; omega, by show 22000 + 677 * j + 0 + 0 ≤ 7302250; omega⟩ rfl 0 rfl rfl rfl (Nat.le_of_ble_eq_true rfl) dL_law_380 (fun _ o w2 hw2 => ?_)
  obtain ⟨rfl, rfl⟩ := hw2
  refine r_perm (ws' := w1 ++ mw g q M') k_p2 ?_
  refine r_eqT 1834 (pc := 383) C dL_law_383 (by decide) ?_
  refine r_widen (a' := 100 + 30 * (j + 1)) (b' := 22000 + 677 * (j + 1)) (by show 100 + 30 * j + 0 + 0 ≤ _; omega) (by show 22000 + 677 * j + 0 + 0 ≤ _; omega) ?_
  exact tl T' M' w1 h3 hw
set_option maxRecDepth 100000 in
set_option maxHeartbeats 4000000 in
theorem la_6 {X : KX} {g : KG} {b L a1 : Nat} {q : Nat → Nat} {xs : Nat → Int32} {j : Nat} (C : kC X g cL_law "MarkChainsLaw" room_1 4) (hs : kScr X b L xs) (hj : 6 * j + 6 ≤ L) (hL : L ≤ 3072) {RL : XS → MS → Prop} (hop : ∀ (T : XS) (M : MS) (a1 : Int32) (a2 : Int32), RL T M → ∃ (r : Int32) (T' : XS) (M' : MS), fo_mark T a1 a2 = some (r, T') ∧ fm_mark M a1 a2 = some (r, M') ∧ RL T' M') (tl : ∀ (T' : XS) (M' : MS) (w1 : va_W), RL T' M' → cF g a1 T' w1 → jJ X g () (w1 ++ mw g q M') (100 + 30 * (j + 1)) (22000 + 677 * (j + 1)) 1834 [(0, .ref b), (1, .ref a1), (2, .ref (q 0)), (3, .int (nI (6 * j)))] [] (some ())) (T : XS) (M : MS) (w : va_W) (hRL : RL T M) (hT : cF g a1 T w) : jJ X g () (w ++ mw g q M) (100 + 30 * j) (22000 + 677 * j) 388 [(0, .ref b), (1, .ref a1), (2, .ref (q 0)), (3, .int (nI (6 * j)))] [] (some ()) := by
  obtain ⟨r, T', M', h1, h2, h3⟩ := hop T M (xs (nI (6 * j) + 1).toNatClampNeg) (xs (nI (6 * j) + 2).toNatClampNeg) hRL
  obtain ⟨fs, he⟩ := cF_head hT
  refine r_aload_n (pc := 388) C dL_law_388 1 rfl ?_
  refine r_aload_n (pc := 389) C dL_law_389 0 rfl ?_
  refine r_iload_n (pc := 390) C dL_law_390 3 rfl ?_
  refine r_iconst (pc := 391) C dL_law_391 (v := 1) (by decide) ?_
  refine r_iadd (pc := 392) C dL_law_392 ?_
  refine r_sld (pc := 393) C hs (vin_k (k := 1) hj hL (by decide)) dL_law_393 ?_
  refine r_aload_n (pc := 394) C dL_law_394 0 rfl ?_
  refine r_iload_n (pc := 395) C dL_law_395 3 rfl ?_
  refine r_iconst (pc := 396) C dL_law_396 (v := 2) (by decide) ?_
  refine r_iadd (pc := 397) C dL_law_397 ?_
  refine r_sld (pc := 398) C hs (vin_k (k := 2) hj hL (by decide)) dL_law_398 ?_
  refine (?_ : jJ X g () _ _ _ _ _ _ (bp (some ()) (fun _ => some ())))
  refine r_cVx (α := Unit) (fN := some ()) (Φ := fun _ o w => o = some (.int r) ∧ cF g a1 T' w) (wc := w) (wr := mw g q M) (As := [.int (xs (nI (6 * j) + 1).toNatClampNeg), .int (xs (nI (6 * j) + 2).toNatClampNeg)]) (st := []) (mc := 0) (ms := 0) (pc := 399) C (fun _ _ => o_mark hT h1) kY_X11_mark kw_4_40 kw_4_41 kw_4_39 rfl ⟨Nat.le_of_ble_eq_true rfl, Nat.le_of_ble_eq_true rfl⟩ rfl rfl ⟨by show 100 + 30 * j + 0 ≤ 600000; omega, by show 22000 + 677 * j + 0 ≤ 7302250; omega⟩ rfl 0 he rfl rfl (Nat.le_of_ble_eq_true rfl) dL_law_399 (fun _ o w1 hw => ?_)
  obtain ⟨rfl, hw⟩ := hw
  refine r_aload_n (pc := 402) C dL_law_402 2 rfl ?_
  refine r_aload_n (pc := 403) C dL_law_403 0 rfl ?_
  refine r_iload_n (pc := 404) C dL_law_404 3 rfl ?_
  refine r_iconst (pc := 405) C dL_law_405 (v := 1) (by decide) ?_
  refine r_iadd (pc := 406) C dL_law_406 ?_
  refine r_sld (pc := 407) C hs (vin_k (k := 1) hj hL (by decide)) dL_law_407 ?_
  refine r_aload_n (pc := 408) C dL_law_408 0 rfl ?_
  refine r_iload_n (pc := 409) C dL_law_409 3 rfl ?_
  refine r_iconst (pc := 410) C dL_law_410 (v := 2) (by decide) ?_
  refine r_iadd (pc := 411) C dL_law_411 ?_
  refine r_sld (pc := 412) C hs (vin_k (k := 2) hj hL (by decide)) dL_law_412 ?_
  refine r_perm (ws' := mw g q M ++ w1) k_p2 ?_
  refine (?_ : jJ X g () _ _ _ _ _ _ (bp (some ()) (fun _ => some ())))
  refine r_cVx (α := Unit) (fN := some ()) (Φ := fun _ o w => o = some (.int r) ∧ w = mw g q M') (wc := mw g q M) (wr := w1) (As := [.int (xs (nI (6 * j) + 1).toNatClampNeg), .int (xs (nI (6 * j) + 2).toNatClampNeg)]) (st := [.int r]) (mc := 0) (ms := 0) (pc := 413) C (fun _ _ l => (p_mark h2 l).x ⟨rfl, rfl⟩) kY_X12_mark kw_7_41 kw_7_42 kw_7_40 rfl ⟨Nat.le_of_ble_eq_true rfl, Nat.le_of_ble_eq_true rfl⟩ rfl rfl ⟨by show 100 + 30 * j + 0 + 0 ≤ 600000; omega, by show 22000 + 677 * j + 0 + 0 ≤ 7302250; omega⟩ rfl 0 rfl rfl rfl (Nat.le_of_ble_eq_true rfl) dL_law_413 (fun _ o w2 hw2 => ?_)
  obtain ⟨rfl, rfl⟩ := hw2
  refine r_perm (ws' := w1 ++ mw g q M') k_p2 ?_
  refine r_eqT 1834 (pc := 416) C dL_law_416 (by decide) ?_
  refine r_widen (a' := 100 + 30 * (j + 1)) (b' := 22000 + 677 * (j + 1)) (by show 100 + 30 * j + 0 + 0 ≤ _; omega) (by show 22000 + 677 * j + 0 + 0 ≤ _; omega) ?_
  exact tl T' M' w1 h3 hw
set_option maxRecDepth 100000 in
set_option maxHeartbeats 4000000 in
theorem la_7 {X : KX} {g : KG} {b L a1 : Nat} {q : Nat → Nat} {xs : Nat → Int32} {j : Nat} (C : kC X g cL_law "MarkChainsLaw" room_1 4) (hs : kScr X b L xs) (hj : 6 * j + 6 ≤ L) (hL : L ≤ 3072) {RL : XS → MS → Prop} (hop : ∀ (T : XS) (M : MS) (a1 : Int32) (a2 : Int32) (a3 : Int32), RL T M → ∃ (r : Int32) (T' : XS) (M' : MS), fo_told T a1 a2 a3 = some (r, T') ∧ fm_told M a1 a2 a3 = some (r, M') ∧ RL T' M') (tl : ∀ (T' : XS) (M' : MS) (w1 : va_W), RL T' M' → cF g a1 T' w1 → jJ X g () (w1 ++ mw g q M') (100 + 30 * (j + 1)) (22000 + 677 * (j + 1)) 1834 [(0, .ref b), (1, .ref a1), (2, .ref (q 0)), (3, .int (nI (6 * j)))] [] (some ())) (T : XS) (M : MS) (w : va_W) (hRL : RL T M) (hT : cF g a1 T w) : jJ X g () (w ++ mw g q M) (100 + 30 * j) (22000 + 677 * j) 421 [(0, .ref b), (1, .ref a1), (2, .ref (q 0)), (3, .int (nI (6 * j)))] [] (some ()) := by
  obtain ⟨r, T', M', h1, h2, h3⟩ := hop T M (xs (nI (6 * j) + 1).toNatClampNeg) (xs (nI (6 * j) + 2).toNatClampNeg) (xs (nI (6 * j) + 3).toNatClampNeg) hRL
  obtain ⟨fs, he⟩ := cF_head hT
  refine r_aload_n (pc := 421) C dL_law_421 1 rfl ?_
  refine r_aload_n (pc := 422) C dL_law_422 0 rfl ?_
  refine r_iload_n (pc := 423) C dL_law_423 3 rfl ?_
  refine r_iconst (pc := 424) C dL_law_424 (v := 1) (by decide) ?_
  refine r_iadd (pc := 425) C dL_law_425 ?_
  refine r_sld (pc := 426) C hs (vin_k (k := 1) hj hL (by decide)) dL_law_426 ?_
  refine r_aload_n (pc := 427) C dL_law_427 0 rfl ?_
  refine r_iload_n (pc := 428) C dL_law_428 3 rfl ?_
  refine r_iconst (pc := 429) C dL_law_429 (v := 2) (by decide) ?_
  refine r_iadd (pc := 430) C dL_law_430 ?_
  refine r_sld (pc := 431) C hs (vin_k (k := 2) hj hL (by decide)) dL_law_431 ?_
  refine r_aload_n (pc := 432) C dL_law_432 0 rfl ?_
  refine r_iload_n (pc := 433) C dL_law_433 3 rfl ?_
  refine r_iconst (pc := 434) C dL_law_434 (v := 3) (by decide) ?_
  refine r_iadd (pc := 435) C dL_law_435 ?_
  refine r_sld (pc := 436) C hs (vin_k (k := 3) hj hL (by decide)) dL_law_436 ?_
  refine (?_ : jJ X g () _ _ _ _ _ _ (bp (some ()) (fun _ => some ())))
  refine r_cVx (α := Unit) (fN := some ()) (Φ := fun _ o w => o = some (.int r) ∧ cF g a1 T' w) (wc := w) (wr := mw g q M) (As := [.int (xs (nI (6 * j) + 1).toNatClampNeg), .int (xs (nI (6 * j) + 2).toNatClampNeg), .int (xs (nI (6 * j) + 3).toNatClampNeg)]) (st := []) (mc := 0) (ms := 0) (pc := 437) C (fun _ _ => o_told hT h1) kY_X11_told kw_4_54 kw_4_55 kw_4_53 rfl ⟨Nat.le_of_ble_eq_true rfl, Nat.le_of_ble_eq_true rfl⟩ rfl rfl ⟨by show 100 + 30 * j + 0 ≤ 600000; omega, by show 22000 + 677 * j + 0 ≤ 7302250; omega⟩ rfl 0 he rfl rfl (Nat.le_of_ble_eq_true rfl) dL_law_437 (fun _ o w1 hw => ?_)
  obtain ⟨rfl, hw⟩ := hw
  refine r_aload_n (pc := 440) C dL_law_440 2 rfl ?_
  refine r_aload_n (pc := 441) C dL_law_441 0 rfl ?_
  refine r_iload_n (pc := 442) C dL_law_442 3 rfl ?_
  refine r_iconst (pc := 443) C dL_law_443 (v := 1) (by decide) ?_
  refine r_iadd (pc := 444) C dL_law_444 ?_
  refine r_sld (pc := 445) C hs (vin_k (k := 1) hj hL (by decide)) dL_law_445 ?_
  refine r_aload_n (pc := 446) C dL_law_446 0 rfl ?_
  refine r_iload_n (pc := 447) C dL_law_447 3 rfl ?_
  refine r_iconst (pc := 448) C dL_law_448 (v := 2) (by decide) ?_
  refine r_iadd (pc := 449) C dL_law_449 ?_
  refine r_sld (pc := 450) C hs (vin_k (k := 2) hj hL (by decide)) dL_law_450 ?_
  refine r_aload_n (pc := 451) C dL_law_451 0 rfl ?_
  refine r_iload_n (pc := 452) C dL_law_452 3 rfl ?_
  refine r_iconst (pc := 453) C dL_law_453 (v := 3) (by decide) ?_
  refine r_iadd (pc := 454) C dL_law_454 ?_
  refine r_sld (pc := 455) C hs (vin_k (k := 3) hj hL (by decide)) dL_law_455 ?_
  refine r_perm (ws' := mw g q M ++ w1) k_p2 ?_
  refine (?_ : jJ X g () _ _ _ _ _ _ (bp (some ()) (fun _ => some ())))
  refine r_cVx (α := Unit) (fN := some ()) (Φ := fun _ o w => o = some (.int r) ∧ w = mw g q M') (wc := mw g q M) (wr := w1) (As := [.int (xs (nI (6 * j) + 1).toNatClampNeg), .int (xs (nI (6 * j) + 2).toNatClampNeg), .int (xs (nI (6 * j) + 3).toNatClampNeg)]) (st := [.int r]) (mc := 0) (ms := 0) (pc := 456) C (fun _ _ l => (p_told h2 l).x ⟨rfl, rfl⟩) kY_X12_told kw_7_46 kw_7_47 kw_7_45 rfl ⟨Nat.le_of_ble_eq_true rfl, Nat.le_of_ble_eq_true rfl⟩ rfl rfl ⟨by show 100 + 30 * j + 0 + 0 ≤ 600000; omega, by show 22000 + 677 * j + 0 + 0 ≤ 7302250; omega⟩ rfl 0 rfl rfl rfl (Nat.le_of_ble_eq_true rfl) dL_law_456 (fun _ o w2 hw2 => ?_)
  obtain ⟨rfl, rfl⟩ := hw2
  refine r_perm (ws' := w1 ++ mw g q M') k_p2 ?_
  refine r_eqT 1834 (pc := 459) C dL_law_459 (by decide) ?_
  refine r_widen (a' := 100 + 30 * (j + 1)) (b' := 22000 + 677 * (j + 1)) (by show 100 + 30 * j + 0 + 0 ≤ _; omega) (by show 22000 + 677 * j + 0 + 0 ≤ _; omega) ?_
  exact tl T' M' w1 h3 hw
set_option maxRecDepth 100000 in
set_option maxHeartbeats 4000000 in
theorem la_8 {X : KX} {g : KG} {b L a1 : Nat} {q : Nat → Nat} {xs : Nat → Int32} {j : Nat} (C : kC X g cL_law "MarkChainsLaw" room_1 4) (hs : kScr X b L xs) (hj : 6 * j + 6 ≤ L) (hL : L ≤ 3072) {RL : XS → MS → Prop} (hop : ∀ (T : XS) (M : MS) (a1 : Int32), RL T M → ∃ (r : Int32) (T' : XS) (M' : MS), fo_good T a1 = some (r, T') ∧ fm_good M a1 = some (r, M') ∧ RL T' M') (tl : ∀ (T' : XS) (M' : MS) (w1 : va_W), RL T' M' → cF g a1 T' w1 → jJ X g () (w1 ++ mw g q M') (100 + 30 * (j + 1)) (22000 + 677 * (j + 1)) 1834 [(0, .ref b), (1, .ref a1), (2, .ref (q 0)), (3, .int (nI (6 * j)))] [] (some ())) (T : XS) (M : MS) (w : va_W) (hRL : RL T M) (hT : cF g a1 T w) : jJ X g () (w ++ mw g q M) (100 + 30 * j) (22000 + 677 * j) 464 [(0, .ref b), (1, .ref a1), (2, .ref (q 0)), (3, .int (nI (6 * j)))] [] (some ()) := by
  obtain ⟨r, T', M', h1, h2, h3⟩ := hop T M (xs (nI (6 * j) + 1).toNatClampNeg) hRL
  obtain ⟨fs, he⟩ := cF_head hT
  refine r_aload_n (pc := 464) C dL_law_464 1 rfl ?_
  refine r_aload_n (pc := 465) C dL_law_465 0 rfl ?_
  refine r_iload_n (pc := 466) C dL_law_466 3 rfl ?_
  refine r_iconst (pc := 467) C dL_law_467 (v := 1) (by decide) ?_
  refine r_iadd (pc := 468) C dL_law_468 ?_
  refine r_sld (pc := 469) C hs (vin_k (k := 1) hj hL (by decide)) dL_law_469 ?_
  refine (?_ : jJ X g () _ _ _ _ _ _ (bp (some ()) (fun _ => some ())))
  refine r_cVx (α := Unit) (fN := some ()) (Φ := fun _ o w => o = some (.int r) ∧ cF g a1 T' w) (wc := w) (wr := mw g q M) (As := [.int (xs (nI (6 * j) + 1).toNatClampNeg)]) (st := []) (mc := 0) (ms := 0) (pc := 470) C (fun _ _ => o_good hT h1) kY_X11_good kw_4_60 kw_4_61 kw_4_59 rfl ⟨Nat.le_of_ble_eq_true rfl, Nat.le_of_ble_eq_true rfl⟩ rfl rfl ⟨by show 100 + 30 * j + 0 ≤ 600000; omega, by show 22000 + 677 * j + 0 ≤ 7302250; omega⟩ rfl 0 he rfl rfl (Nat.le_of_ble_eq_true rfl) dL_law_470 (fun _ o w1 hw => ?_)
  obtain ⟨rfl, hw⟩ := hw
  refine r_aload_n (pc := 473) C dL_law_473 2 rfl ?_
  refine r_aload_n (pc := 474) C dL_law_474 0 rfl ?_
  refine r_iload_n (pc := 475) C dL_law_475 3 rfl ?_
  refine r_iconst (pc := 476) C dL_law_476 (v := 1) (by decide) ?_
  refine r_iadd (pc := 477) C dL_law_477 ?_
  refine r_sld (pc := 478) C hs (vin_k (k := 1) hj hL (by decide)) dL_law_478 ?_
  refine r_perm (ws' := mw g q M ++ w1) k_p2 ?_
  refine (?_ : jJ X g () _ _ _ _ _ _ (bp (some ()) (fun _ => some ())))
  refine r_cVx (α := Unit) (fN := some ()) (Φ := fun _ o w => o = some (.int r) ∧ w = mw g q M') (wc := mw g q M) (wr := w1) (As := [.int (xs (nI (6 * j) + 1).toNatClampNeg)]) (st := [.int r]) (mc := 0) (ms := 0) (pc := 479) C (fun _ _ l => (p_good h2 l).x ⟨rfl, rfl⟩) kY_X12_good kw_7_6 kw_7_7 kw_7_5 rfl ⟨Nat.le_of_ble_eq_true rfl, Nat.le_of_ble_eq_true rfl⟩ rfl rfl ⟨by show 100 + 30 * j + 0 + 0 ≤ 600000; omega, by show 22000 + 677 * j + 0 + 0 ≤ 7302250; omega⟩ rfl 0 rfl rfl rfl (Nat.le_of_ble_eq_true rfl) dL_law_479 (fun _ o w2 hw2 => ?_)
  obtain ⟨rfl, rfl⟩ := hw2
  refine r_perm (ws' := w1 ++ mw g q M') k_p2 ?_
  refine r_eqT 1834 (pc := 482) C dL_law_482 (by decide) ?_
  refine r_widen (a' := 100 + 30 * (j + 1)) (b' := 22000 + 677 * (j + 1)) (by show 100 + 30 * j + 0 + 0 ≤ _; omega) (by show 22000 + 677 * j + 0 + 0 ≤ _; omega) ?_
  exact tl T' M' w1 h3 hw
set_option maxRecDepth 100000 in
set_option maxHeartbeats 4000000 in
theorem la_9 {X : KX} {g : KG} {b L a1 : Nat} {q : Nat → Nat} {xs : Nat → Int32} {j : Nat} (C : kC X g cL_law "MarkChainsLaw" room_1 4) (hs : kScr X b L xs) (hj : 6 * j + 6 ≤ L) (hL : L ≤ 3072) {RL : XS → MS → Prop} (hop : ∀ (T : XS) (M : MS) (a1 : Int32), RL T M → ∃ (r : Int32) (T' : XS) (M' : MS), fo_ratify T a1 = some (r, T') ∧ fm_ratify M a1 = some (r, M') ∧ RL T' M') (tl : ∀ (T' : XS) (M' : MS) (w1 : va_W), RL T' M' → cF g a1 T' w1 → jJ X g () (w1 ++ mw g q M') (100 + 30 * (j + 1)) (22000 + 677 * (j + 1)) 1834 [(0, .ref b), (1, .ref a1), (2, .ref (q 0)), (3, .int (nI (6 * j)))] [] (some ())) (T : XS) (M : MS) (w : va_W) (hRL : RL T M) (hT : cF g a1 T w) : jJ X g () (w ++ mw g q M) (100 + 30 * j) (22000 + 677 * j) 487 [(0, .ref b), (1, .ref a1), (2, .ref (q 0)), (3, .int (nI (6 * j)))] [] (some ()) := by
  obtain ⟨r, T', M', h1, h2, h3⟩ := hop T M (xs (nI (6 * j) + 1).toNatClampNeg) hRL
  obtain ⟨fs, he⟩ := cF_head hT
  refine r_aload_n (pc := 487) C dL_law_487 1 rfl ?_
  refine r_aload_n (pc := 488) C dL_law_488 0 rfl ?_
  refine r_iload_n (pc := 489) C dL_law_489 3 rfl ?_
  refine r_iconst (pc := 490) C dL_law_490 (v := 1) (by decide) ?_
  refine r_iadd (pc := 491) C dL_law_491 ?_
  refine r_sld (pc := 492) C hs (vin_k (k := 1) hj hL (by decide)) dL_law_492 ?_
  refine (?_ : jJ X g () _ _ _ _ _ _ (bp (some ()) (fun _ => some ())))
  refine r_cVx (α := Unit) (fN := some ()) (Φ := fun _ o w => o = some (.int r) ∧ cF g a1 T' w) (wc := w) (wr := mw g q M) (As := [.int (xs (nI (6 * j) + 1).toNatClampNeg)]) (st := []) (mc := 1) (ms := 5) (pc := 493) C (fun _ _ => o_ratify hT h1) kY_X11_ratify kw_4_64 kw_4_65 kw_4_63 rfl ⟨Nat.le_of_ble_eq_true rfl, Nat.le_of_ble_eq_true rfl⟩ rfl rfl ⟨by show 100 + 30 * j + 1 ≤ 600000; omega, by show 22000 + 677 * j + 5 ≤ 7302250; omega⟩ rfl 0 he rfl rfl (Nat.le_of_ble_eq_true rfl) dL_law_493 (fun _ o w1 hw => ?_)
  obtain ⟨rfl, hw⟩ := hw
  refine r_aload_n (pc := 496) C dL_law_496 2 rfl ?_
  refine r_aload_n (pc := 497) C dL_law_497 0 rfl ?_
  refine r_iload_n (pc := 498) C dL_law_498 3 rfl ?_
  refine r_iconst (pc := 499) C dL_law_499 (v := 1) (by decide) ?_
  refine r_iadd (pc := 500) C dL_law_500 ?_
  refine r_sld (pc := 501) C hs (vin_k (k := 1) hj hL (by decide)) dL_law_501 ?_
  refine r_perm (ws' := mw g q M ++ w1) k_p2 ?_
  refine (?_ : jJ X g () _ _ _ _ _ _ (bp (some ()) (fun _ => some ())))
  refine r_cVx (α := Unit) (fN := some ()) (Φ := fun _ o w => o = some (.int r) ∧ w = mw g q M') (wc := mw g q M) (wr := w1) (As := [.int (xs (nI (6 * j) + 1).toNatClampNeg)]) (st := [.int r]) (mc := 0) (ms := 0) (pc := 502) C (fun _ _ l => (p_ratify h2 l).x ⟨rfl, rfl⟩) kY_X12_ratify kw_7_62 kw_7_63 kw_7_61 rfl ⟨Nat.le_of_ble_eq_true rfl, Nat.le_of_ble_eq_true rfl⟩ rfl rfl ⟨by show 100 + 30 * j + 1 + 0 ≤ 600000; omega, by show 22000 + 677 * j + 5 + 0 ≤ 7302250; omega⟩ rfl 0 rfl rfl rfl (Nat.le_of_ble_eq_true rfl) dL_law_502 (fun _ o w2 hw2 => ?_)
  obtain ⟨rfl, rfl⟩ := hw2
  refine r_perm (ws' := w1 ++ mw g q M') k_p2 ?_
  refine r_eqT 1834 (pc := 505) C dL_law_505 (by decide) ?_
  refine r_widen (a' := 100 + 30 * (j + 1)) (b' := 22000 + 677 * (j + 1)) (by show 100 + 30 * j + 1 + 0 ≤ _; omega) (by show 22000 + 677 * j + 5 + 0 ≤ _; omega) ?_
  exact tl T' M' w1 h3 hw
set_option maxRecDepth 100000 in
set_option maxHeartbeats 4000000 in
theorem la_10 {X : KX} {g : KG} {b L a1 : Nat} {q : Nat → Nat} {xs : Nat → Int32} {j : Nat} (C : kC X g cL_law "MarkChainsLaw" room_1 4) (hs : kScr X b L xs) (hj : 6 * j + 6 ≤ L) (hL : L ≤ 3072) {RL : XS → MS → Prop} (hop : ∀ (T : XS) (M : MS) (a1 : Int32), RL T M → ∃ (r : Int32) (T' : XS) (M' : MS), fo_strike T a1 = some (r, T') ∧ fm_strike M a1 = some (r, M') ∧ RL T' M') (tl : ∀ (T' : XS) (M' : MS) (w1 : va_W), RL T' M' → cF g a1 T' w1 → jJ X g () (w1 ++ mw g q M') (100 + 30 * (j + 1)) (22000 + 677 * (j + 1)) 1834 [(0, .ref b), (1, .ref a1), (2, .ref (q 0)), (3, .int (nI (6 * j)))] [] (some ())) (T : XS) (M : MS) (w : va_W) (hRL : RL T M) (hT : cF g a1 T w) : jJ X g () (w ++ mw g q M) (100 + 30 * j) (22000 + 677 * j) 510 [(0, .ref b), (1, .ref a1), (2, .ref (q 0)), (3, .int (nI (6 * j)))] [] (some ()) := by
  obtain ⟨r, T', M', h1, h2, h3⟩ := hop T M (xs (nI (6 * j) + 1).toNatClampNeg) hRL
  obtain ⟨fs, he⟩ := cF_head hT
  refine r_aload_n (pc := 510) C dL_law_510 1 rfl ?_
  refine r_aload_n (pc := 511) C dL_law_511 0 rfl ?_
  refine r_iload_n (pc := 512) C dL_law_512 3 rfl ?_
  refine r_iconst (pc := 513) C dL_law_513 (v := 1) (by decide) ?_
  refine r_iadd (pc := 514) C dL_law_514 ?_
  refine r_sld (pc := 515) C hs (vin_k (k := 1) hj hL (by decide)) dL_law_515 ?_
  refine (?_ : jJ X g () _ _ _ _ _ _ (bp (some ()) (fun _ => some ())))
  refine r_cVx (α := Unit) (fN := some ()) (Φ := fun _ o w => o = some (.int r) ∧ cF g a1 T' w) (wc := w) (wr := mw g q M) (As := [.int (xs (nI (6 * j) + 1).toNatClampNeg)]) (st := []) (mc := 1) (ms := 5) (pc := 516) C (fun _ _ => o_strike hT h1) kY_X11_strike kw_4_68 kw_4_69 kw_4_67 rfl ⟨Nat.le_of_ble_eq_true rfl, Nat.le_of_ble_eq_true rfl⟩ rfl rfl ⟨by show 100 + 30 * j + 1 ≤ 600000; omega, by show 22000 + 677 * j + 5 ≤ 7302250; omega⟩ rfl 0 he rfl rfl (Nat.le_of_ble_eq_true rfl) dL_law_516 (fun _ o w1 hw => ?_)
  obtain ⟨rfl, hw⟩ := hw
  refine r_aload_n (pc := 519) C dL_law_519 2 rfl ?_
  refine r_aload_n (pc := 520) C dL_law_520 0 rfl ?_
  refine r_iload_n (pc := 521) C dL_law_521 3 rfl ?_
  refine r_iconst (pc := 522) C dL_law_522 (v := 1) (by decide) ?_
  refine r_iadd (pc := 523) C dL_law_523 ?_
  refine r_sld (pc := 524) C hs (vin_k (k := 1) hj hL (by decide)) dL_law_524 ?_
  refine r_perm (ws' := mw g q M ++ w1) k_p2 ?_
  refine (?_ : jJ X g () _ _ _ _ _ _ (bp (some ()) (fun _ => some ())))
  refine r_cVx (α := Unit) (fN := some ()) (Φ := fun _ o w => o = some (.int r) ∧ w = mw g q M') (wc := mw g q M) (wr := w1) (As := [.int (xs (nI (6 * j) + 1).toNatClampNeg)]) (st := [.int r]) (mc := 0) (ms := 0) (pc := 525) C (fun _ _ l => (p_strike h2 l).x ⟨rfl, rfl⟩) kY_X12_strike kw_7_66 kw_7_67 kw_7_65 rfl ⟨Nat.le_of_ble_eq_true rfl, Nat.le_of_ble_eq_true rfl⟩ rfl rfl ⟨by show 100 + 30 * j + 1 + 0 ≤ 600000; omega, by show 22000 + 677 * j + 5 + 0 ≤ 7302250; omega⟩ rfl 0 rfl rfl rfl (Nat.le_of_ble_eq_true rfl) dL_law_525 (fun _ o w2 hw2 => ?_)
  obtain ⟨rfl, rfl⟩ := hw2
  refine r_perm (ws' := w1 ++ mw g q M') k_p2 ?_
  refine r_eqT 1834 (pc := 528) C dL_law_528 (by decide) ?_
  refine r_widen (a' := 100 + 30 * (j + 1)) (b' := 22000 + 677 * (j + 1)) (by show 100 + 30 * j + 1 + 0 ≤ _; omega) (by show 22000 + 677 * j + 5 + 0 ≤ _; omega) ?_
  exact tl T' M' w1 h3 hw
set_option maxRecDepth 100000 in
set_option maxHeartbeats 4000000 in
theorem la_11 {X : KX} {g : KG} {b L a1 : Nat} {q : Nat → Nat} {xs : Nat → Int32} {j : Nat} (C : kC X g cL_law "MarkChainsLaw" room_1 4) (hs : kScr X b L xs) (hj : 6 * j + 6 ≤ L) (hL : L ≤ 3072) {RL : XS → MS → Prop} (hop : ∀ (T : XS) (M : MS) (a1 : Int32) (a2 : Int32) (a3 : Int32), RL T M → ∃ (r : Int32) (T' : XS) (M' : MS), fo_ban T a1 a2 a3 = some (r, T') ∧ fm_ban M a1 a2 a3 = some (r, M') ∧ RL T' M') (tl : ∀ (T' : XS) (M' : MS) (w1 : va_W), RL T' M' → cF g a1 T' w1 → jJ X g () (w1 ++ mw g q M') (100 + 30 * (j + 1)) (22000 + 677 * (j + 1)) 1834 [(0, .ref b), (1, .ref a1), (2, .ref (q 0)), (3, .int (nI (6 * j)))] [] (some ())) (T : XS) (M : MS) (w : va_W) (hRL : RL T M) (hT : cF g a1 T w) : jJ X g () (w ++ mw g q M) (100 + 30 * j) (22000 + 677 * j) 533 [(0, .ref b), (1, .ref a1), (2, .ref (q 0)), (3, .int (nI (6 * j)))] [] (some ()) := by
  obtain ⟨r, T', M', h1, h2, h3⟩ := hop T M (xs (nI (6 * j) + 1).toNatClampNeg) (xs (nI (6 * j) + 2).toNatClampNeg) (xs (nI (6 * j) + 3).toNatClampNeg) hRL
  obtain ⟨fs, he⟩ := cF_head hT
  refine r_aload_n (pc := 533) C dL_law_533 1 rfl ?_
  refine r_aload_n (pc := 534) C dL_law_534 0 rfl ?_
  refine r_iload_n (pc := 535) C dL_law_535 3 rfl ?_
  refine r_iconst (pc := 536) C dL_law_536 (v := 1) (by decide) ?_
  refine r_iadd (pc := 537) C dL_law_537 ?_
  refine r_sld (pc := 538) C hs (vin_k (k := 1) hj hL (by decide)) dL_law_538 ?_
  refine r_aload_n (pc := 539) C dL_law_539 0 rfl ?_
  refine r_iload_n (pc := 540) C dL_law_540 3 rfl ?_
  refine r_iconst (pc := 541) C dL_law_541 (v := 2) (by decide) ?_
  refine r_iadd (pc := 542) C dL_law_542 ?_
  refine r_sld (pc := 543) C hs (vin_k (k := 2) hj hL (by decide)) dL_law_543 ?_
  refine r_aload_n (pc := 544) C dL_law_544 0 rfl ?_
  refine r_iload_n (pc := 545) C dL_law_545 3 rfl ?_
  refine r_iconst (pc := 546) C dL_law_546 (v := 3) (by decide) ?_
  refine r_iadd (pc := 547) C dL_law_547 ?_
  refine r_sld (pc := 548) C hs (vin_k (k := 3) hj hL (by decide)) dL_law_548 ?_
  refine (?_ : jJ X g () _ _ _ _ _ _ (bp (some ()) (fun _ => some ())))
  refine r_cVx (α := Unit) (fN := some ()) (Φ := fun _ o w => o = some (.int r) ∧ cF g a1 T' w) (wc := w) (wr := mw g q M) (As := [.int (xs (nI (6 * j) + 1).toNatClampNeg), .int (xs (nI (6 * j) + 2).toNatClampNeg), .int (xs (nI (6 * j) + 3).toNatClampNeg)]) (st := []) (mc := 1) (ms := 5) (pc := 549) C (fun _ _ => o_ban hT h1) kY_X11_ban kw_4_72 kw_4_73 kw_4_71 rfl ⟨Nat.le_of_ble_eq_true rfl, Nat.le_of_ble_eq_true rfl⟩ rfl rfl ⟨by show 100 + 30 * j + 1 ≤ 600000; omega, by show 22000 + 677 * j + 5 ≤ 7302250; omega⟩ rfl 0 he rfl rfl (Nat.le_of_ble_eq_true rfl) dL_law_549 (fun _ o w1 hw => ?_)
  obtain ⟨rfl, hw⟩ := hw
  refine r_aload_n (pc := 552) C dL_law_552 2 rfl ?_
  refine r_aload_n (pc := 553) C dL_law_553 0 rfl ?_
  refine r_iload_n (pc := 554) C dL_law_554 3 rfl ?_
  refine r_iconst (pc := 555) C dL_law_555 (v := 1) (by decide) ?_
  refine r_iadd (pc := 556) C dL_law_556 ?_
  refine r_sld (pc := 557) C hs (vin_k (k := 1) hj hL (by decide)) dL_law_557 ?_
  refine r_aload_n (pc := 558) C dL_law_558 0 rfl ?_
  refine r_iload_n (pc := 559) C dL_law_559 3 rfl ?_
  refine r_iconst (pc := 560) C dL_law_560 (v := 2) (by decide) ?_
  refine r_iadd (pc := 561) C dL_law_561 ?_
  refine r_sld (pc := 562) C hs (vin_k (k := 2) hj hL (by decide)) dL_law_562 ?_
  refine r_aload_n (pc := 563) C dL_law_563 0 rfl ?_
  refine r_iload_n (pc := 564) C dL_law_564 3 rfl ?_
  refine r_iconst (pc := 565) C dL_law_565 (v := 3) (by decide) ?_
  refine r_iadd (pc := 566) C dL_law_566 ?_
  refine r_sld (pc := 567) C hs (vin_k (k := 3) hj hL (by decide)) dL_law_567 ?_
  refine r_perm (ws' := mw g q M ++ w1) k_p2 ?_
  refine (?_ : jJ X g () _ _ _ _ _ _ (bp (some ()) (fun _ => some ())))
  refine r_cVx (α := Unit) (fN := some ()) (Φ := fun _ o w => o = some (.int r) ∧ w = mw g q M') (wc := mw g q M) (wr := w1) (As := [.int (xs (nI (6 * j) + 1).toNatClampNeg), .int (xs (nI (6 * j) + 2).toNatClampNeg), .int (xs (nI (6 * j) + 3).toNatClampNeg)]) (st := [.int r]) (mc := 0) (ms := 0) (pc := 568) C (fun _ _ l => (p_ban h2 l).x ⟨rfl, rfl⟩) kY_X12_ban kw_7_70 kw_7_71 kw_7_69 rfl ⟨Nat.le_of_ble_eq_true rfl, Nat.le_of_ble_eq_true rfl⟩ rfl rfl ⟨by show 100 + 30 * j + 1 + 0 ≤ 600000; omega, by show 22000 + 677 * j + 5 + 0 ≤ 7302250; omega⟩ rfl 0 rfl rfl rfl (Nat.le_of_ble_eq_true rfl) dL_law_568 (fun _ o w2 hw2 => ?_)
  obtain ⟨rfl, rfl⟩ := hw2
  refine r_perm (ws' := w1 ++ mw g q M') k_p2 ?_
  refine r_eqT 1834 (pc := 571) C dL_law_571 (by decide) ?_
  refine r_widen (a' := 100 + 30 * (j + 1)) (b' := 22000 + 677 * (j + 1)) (by show 100 + 30 * j + 1 + 0 ≤ _; omega) (by show 22000 + 677 * j + 5 + 0 ≤ _; omega) ?_
  exact tl T' M' w1 h3 hw
set_option maxRecDepth 100000 in
set_option maxHeartbeats 4000000 in
theorem la_12 {X : KX} {g : KG} {b L a1 : Nat} {q : Nat → Nat} {xs : Nat → Int32} {j : Nat} (C : kC X g cL_law "MarkChainsLaw" room_1 4) (hs : kScr X b L xs) (hj : 6 * j + 6 ≤ L) (hL : L ≤ 3072) {RL : XS → MS → Prop} (hop : ∀ (T : XS) (M : MS) (a1 : Int32) (a2 : Int32), RL T M → ∃ (r : Int32) (T' : XS) (M' : MS), fo_paper T a1 a2 = some (r, T') ∧ fm_paper M a1 a2 = some (r, M') ∧ RL T' M') (tl : ∀ (T' : XS) (M' : MS) (w1 : va_W), RL T' M' → cF g a1 T' w1 → jJ X g () (w1 ++ mw g q M') (100 + 30 * (j + 1)) (22000 + 677 * (j + 1)) 1834 [(0, .ref b), (1, .ref a1), (2, .ref (q 0)), (3, .int (nI (6 * j)))] [] (some ())) (T : XS) (M : MS) (w : va_W) (hRL : RL T M) (hT : cF g a1 T w) : jJ X g () (w ++ mw g q M) (100 + 30 * j) (22000 + 677 * j) 576 [(0, .ref b), (1, .ref a1), (2, .ref (q 0)), (3, .int (nI (6 * j)))] [] (some ()) := by
  obtain ⟨r, T', M', h1, h2, h3⟩ := hop T M (xs (nI (6 * j) + 1).toNatClampNeg) (xs (nI (6 * j) + 2).toNatClampNeg) hRL
  obtain ⟨fs, he⟩ := cF_head hT
  refine r_aload_n (pc := 576) C dL_law_576 1 rfl ?_
  refine r_aload_n (pc := 577) C dL_law_577 0 rfl ?_
  refine r_iload_n (pc := 578) C dL_law_578 3 rfl ?_
  refine r_iconst (pc := 579) C dL_law_579 (v := 1) (by decide) ?_
  refine r_iadd (pc := 580) C dL_law_580 ?_
  refine r_sld (pc := 581) C hs (vin_k (k := 1) hj hL (by decide)) dL_law_581 ?_
  refine r_aload_n (pc := 582) C dL_law_582 0 rfl ?_
  refine r_iload_n (pc := 583) C dL_law_583 3 rfl ?_
  refine r_iconst (pc := 584) C dL_law_584 (v := 2) (by decide) ?_
  refine r_iadd (pc := 585) C dL_law_585 ?_
  refine r_sld (pc := 586) C hs (vin_k (k := 2) hj hL (by decide)) dL_law_586 ?_
  refine (?_ : jJ X g () _ _ _ _ _ _ (bp (some ()) (fun _ => some ())))
  refine r_cVx (α := Unit) (fN := some ()) (Φ := fun _ o w => o = some (.int r) ∧ cF g a1 T' w) (wc := w) (wr := mw g q M) (As := [.int (xs (nI (6 * j) + 1).toNatClampNeg), .int (xs (nI (6 * j) + 2).toNatClampNeg)]) (st := []) (mc := 1) (ms := 5) (pc := 587) C (fun _ _ => o_paper hT h1) kY_X11_paper kw_4_76 kw_4_77 kw_4_75 rfl ⟨Nat.le_of_ble_eq_true rfl, Nat.le_of_ble_eq_true rfl⟩ rfl rfl ⟨by show 100 + 30 * j + 1 ≤ 600000; omega, by show 22000 + 677 * j + 5 ≤ 7302250; omega⟩ rfl 0 he rfl rfl (Nat.le_of_ble_eq_true rfl) dL_law_587 (fun _ o w1 hw => ?_)
  obtain ⟨rfl, hw⟩ := hw
  refine r_aload_n (pc := 590) C dL_law_590 2 rfl ?_
  refine r_aload_n (pc := 591) C dL_law_591 0 rfl ?_
  refine r_iload_n (pc := 592) C dL_law_592 3 rfl ?_
  refine r_iconst (pc := 593) C dL_law_593 (v := 1) (by decide) ?_
  refine r_iadd (pc := 594) C dL_law_594 ?_
  refine r_sld (pc := 595) C hs (vin_k (k := 1) hj hL (by decide)) dL_law_595 ?_
  refine r_aload_n (pc := 596) C dL_law_596 0 rfl ?_
  refine r_iload_n (pc := 597) C dL_law_597 3 rfl ?_
  refine r_iconst (pc := 598) C dL_law_598 (v := 2) (by decide) ?_
  refine r_iadd (pc := 599) C dL_law_599 ?_
  refine r_sld (pc := 600) C hs (vin_k (k := 2) hj hL (by decide)) dL_law_600 ?_
  refine r_perm (ws' := mw g q M ++ w1) k_p2 ?_
  refine (?_ : jJ X g () _ _ _ _ _ _ (bp (some ()) (fun _ => some ())))
  refine r_cVx (α := Unit) (fN := some ()) (Φ := fun _ o w => o = some (.int r) ∧ w = mw g q M') (wc := mw g q M) (wr := w1) (As := [.int (xs (nI (6 * j) + 1).toNatClampNeg), .int (xs (nI (6 * j) + 2).toNatClampNeg)]) (st := [.int r]) (mc := 0) (ms := 0) (pc := 601) C (fun _ _ l => (p_paper h2 l).x ⟨rfl, rfl⟩) kY_X12_paper kw_7_78 kw_7_79 kw_7_77 rfl ⟨Nat.le_of_ble_eq_true rfl, Nat.le_of_ble_eq_true rfl⟩ rfl rfl ⟨by show 100 + 30 * j + 1 + 0 ≤ 600000; omega, by show 22000 + 677 * j + 5 + 0 ≤ 7302250; omega⟩ rfl 0 rfl rfl rfl (Nat.le_of_ble_eq_true rfl) dL_law_601 (fun _ o w2 hw2 => ?_)
  obtain ⟨rfl, rfl⟩ := hw2
  refine r_perm (ws' := w1 ++ mw g q M') k_p2 ?_
  refine r_eqT 1834 (pc := 604) C dL_law_604 (by decide) ?_
  refine r_widen (a' := 100 + 30 * (j + 1)) (b' := 22000 + 677 * (j + 1)) (by show 100 + 30 * j + 1 + 0 ≤ _; omega) (by show 22000 + 677 * j + 5 + 0 ≤ _; omega) ?_
  exact tl T' M' w1 h3 hw
set_option maxRecDepth 100000 in
set_option maxHeartbeats 4000000 in
theorem la_13 {X : KX} {g : KG} {b L a1 : Nat} {q : Nat → Nat} {xs : Nat → Int32} {j : Nat} (C : kC X g cL_law "MarkChainsLaw" room_1 4) (hs : kScr X b L xs) (hj : 6 * j + 6 ≤ L) (hL : L ≤ 3072) {RL : XS → MS → Prop} (hop : ∀ (T : XS) (M : MS) (a1 : Int32), RL T M → ∃ (r : Int32) (T' : XS) (M' : MS), fo_days T a1 = some (r, T') ∧ fm_days M a1 = some (r, M') ∧ RL T' M') (tl : ∀ (T' : XS) (M' : MS) (w1 : va_W), RL T' M' → cF g a1 T' w1 → jJ X g () (w1 ++ mw g q M') (100 + 30 * (j + 1)) (22000 + 677 * (j + 1)) 1834 [(0, .ref b), (1, .ref a1), (2, .ref (q 0)), (3, .int (nI (6 * j)))] [] (some ())) (T : XS) (M : MS) (w : va_W) (hRL : RL T M) (hT : cF g a1 T w) : jJ X g () (w ++ mw g q M) (100 + 30 * j) (22000 + 677 * j) 609 [(0, .ref b), (1, .ref a1), (2, .ref (q 0)), (3, .int (nI (6 * j)))] [] (some ()) := by
  obtain ⟨r, T', M', h1, h2, h3⟩ := hop T M (xs (nI (6 * j) + 1).toNatClampNeg) hRL
  obtain ⟨fs, he⟩ := cF_head hT
  refine r_aload_n (pc := 609) C dL_law_609 1 rfl ?_
  refine r_aload_n (pc := 610) C dL_law_610 0 rfl ?_
  refine r_iload_n (pc := 611) C dL_law_611 3 rfl ?_
  refine r_iconst (pc := 612) C dL_law_612 (v := 1) (by decide) ?_
  refine r_iadd (pc := 613) C dL_law_613 ?_
  refine r_sld (pc := 614) C hs (vin_k (k := 1) hj hL (by decide)) dL_law_614 ?_
  refine (?_ : jJ X g () _ _ _ _ _ _ (bp (some ()) (fun _ => some ())))
  refine r_cVx (α := Unit) (fN := some ()) (Φ := fun _ o w => o = some (.int r) ∧ cF g a1 T' w) (wc := w) (wr := mw g q M) (As := [.int (xs (nI (6 * j) + 1).toNatClampNeg)]) (st := []) (mc := 1) (ms := 5) (pc := 615) C (fun _ _ => o_days hT h1) kY_X11_days kw_4_80 kw_4_81 kw_4_79 rfl ⟨Nat.le_of_ble_eq_true rfl, Nat.le_of_ble_eq_true rfl⟩ rfl rfl ⟨by show 100 + 30 * j + 1 ≤ 600000; omega, by show 22000 + 677 * j + 5 ≤ 7302250; omega⟩ rfl 0 he rfl rfl (Nat.le_of_ble_eq_true rfl) dL_law_615 (fun _ o w1 hw => ?_)
  obtain ⟨rfl, hw⟩ := hw
  refine r_aload_n (pc := 618) C dL_law_618 2 rfl ?_
  refine r_aload_n (pc := 619) C dL_law_619 0 rfl ?_
  refine r_iload_n (pc := 620) C dL_law_620 3 rfl ?_
  refine r_iconst (pc := 621) C dL_law_621 (v := 1) (by decide) ?_
  refine r_iadd (pc := 622) C dL_law_622 ?_
  refine r_sld (pc := 623) C hs (vin_k (k := 1) hj hL (by decide)) dL_law_623 ?_
  refine r_perm (ws' := mw g q M ++ w1) k_p2 ?_
  refine (?_ : jJ X g () _ _ _ _ _ _ (bp (some ()) (fun _ => some ())))
  refine r_cVx (α := Unit) (fN := some ()) (Φ := fun _ o w => o = some (.int r) ∧ w = mw g q M') (wc := mw g q M) (wr := w1) (As := [.int (xs (nI (6 * j) + 1).toNatClampNeg)]) (st := [.int r]) (mc := 0) (ms := 0) (pc := 624) C (fun _ _ l => (p_days h2 l).x ⟨rfl, rfl⟩) kY_X12_days kw_7_82 kw_7_83 kw_7_81 rfl ⟨Nat.le_of_ble_eq_true rfl, Nat.le_of_ble_eq_true rfl⟩ rfl rfl ⟨by show 100 + 30 * j + 1 + 0 ≤ 600000; omega, by show 22000 + 677 * j + 5 + 0 ≤ 7302250; omega⟩ rfl 0 rfl rfl rfl (Nat.le_of_ble_eq_true rfl) dL_law_624 (fun _ o w2 hw2 => ?_)
  obtain ⟨rfl, rfl⟩ := hw2
  refine r_perm (ws' := w1 ++ mw g q M') k_p2 ?_
  refine r_eqT 1834 (pc := 627) C dL_law_627 (by decide) ?_
  refine r_widen (a' := 100 + 30 * (j + 1)) (b' := 22000 + 677 * (j + 1)) (by show 100 + 30 * j + 1 + 0 ≤ _; omega) (by show 22000 + 677 * j + 5 + 0 ≤ _; omega) ?_
  exact tl T' M' w1 h3 hw
set_option maxRecDepth 100000 in
set_option maxHeartbeats 4000000 in
theorem la_14 {X : KX} {g : KG} {b L a1 : Nat} {q : Nat → Nat} {xs : Nat → Int32} {j : Nat} (C : kC X g cL_law "MarkChainsLaw" room_1 4) (hs : kScr X b L xs) (hj : 6 * j + 6 ≤ L) (hL : L ≤ 3072) {RL : XS → MS → Prop} (hop : ∀ (T : XS) (M : MS) (a1 : Int32) (a2 : Int32), RL T M → ∃ (r : Int32) (T' : XS) (M' : MS), fo_within T a1 a2 = some (r, T') ∧ fm_within M a1 a2 = some (r, M') ∧ RL T' M') (tl : ∀ (T' : XS) (M' : MS) (w1 : va_W), RL T' M' → cF g a1 T' w1 → jJ X g () (w1 ++ mw g q M') (100 + 30 * (j + 1)) (22000 + 677 * (j + 1)) 1834 [(0, .ref b), (1, .ref a1), (2, .ref (q 0)), (3, .int (nI (6 * j)))] [] (some ())) (T : XS) (M : MS) (w : va_W) (hRL : RL T M) (hT : cF g a1 T w) : jJ X g () (w ++ mw g q M) (100 + 30 * j) (22000 + 677 * j) 632 [(0, .ref b), (1, .ref a1), (2, .ref (q 0)), (3, .int (nI (6 * j)))] [] (some ()) := by
  obtain ⟨r, T', M', h1, h2, h3⟩ := hop T M (xs (nI (6 * j) + 1).toNatClampNeg) (xs (nI (6 * j) + 2).toNatClampNeg) hRL
  obtain ⟨fs, he⟩ := cF_head hT
  refine r_aload_n (pc := 632) C dL_law_632 1 rfl ?_
  refine r_aload_n (pc := 633) C dL_law_633 0 rfl ?_
  refine r_iload_n (pc := 634) C dL_law_634 3 rfl ?_
  refine r_iconst (pc := 635) C dL_law_635 (v := 1) (by decide) ?_
  refine r_iadd (pc := 636) C dL_law_636 ?_
  refine r_sld (pc := 637) C hs (vin_k (k := 1) hj hL (by decide)) dL_law_637 ?_
  refine r_aload_n (pc := 638) C dL_law_638 0 rfl ?_
  refine r_iload_n (pc := 639) C dL_law_639 3 rfl ?_
  refine r_iconst (pc := 640) C dL_law_640 (v := 2) (by decide) ?_
  refine r_iadd (pc := 641) C dL_law_641 ?_
  refine r_sld (pc := 642) C hs (vin_k (k := 2) hj hL (by decide)) dL_law_642 ?_
  refine (?_ : jJ X g () _ _ _ _ _ _ (bp (some ()) (fun _ => some ())))
  refine r_cVx (α := Unit) (fN := some ()) (Φ := fun _ o w => o = some (.int r) ∧ cF g a1 T' w) (wc := w) (wr := mw g q M) (As := [.int (xs (nI (6 * j) + 1).toNatClampNeg), .int (xs (nI (6 * j) + 2).toNatClampNeg)]) (st := []) (mc := 0) (ms := 0) (pc := 643) C (fun _ _ => o_within hT h1) kY_X11_within kw_4_85 kw_4_86 kw_4_84 rfl ⟨Nat.le_of_ble_eq_true rfl, Nat.le_of_ble_eq_true rfl⟩ rfl rfl ⟨by show 100 + 30 * j + 0 ≤ 600000; omega, by show 22000 + 677 * j + 0 ≤ 7302250; omega⟩ rfl 0 he rfl rfl (Nat.le_of_ble_eq_true rfl) dL_law_643 (fun _ o w1 hw => ?_)
  obtain ⟨rfl, hw⟩ := hw
  refine r_aload_n (pc := 646) C dL_law_646 2 rfl ?_
  refine r_aload_n (pc := 647) C dL_law_647 0 rfl ?_
  refine r_iload_n (pc := 648) C dL_law_648 3 rfl ?_
  refine r_iconst (pc := 649) C dL_law_649 (v := 1) (by decide) ?_
  refine r_iadd (pc := 650) C dL_law_650 ?_
  refine r_sld (pc := 651) C hs (vin_k (k := 1) hj hL (by decide)) dL_law_651 ?_
  refine r_aload_n (pc := 652) C dL_law_652 0 rfl ?_
  refine r_iload_n (pc := 653) C dL_law_653 3 rfl ?_
  refine r_iconst (pc := 654) C dL_law_654 (v := 2) (by decide) ?_
  refine r_iadd (pc := 655) C dL_law_655 ?_
  refine r_sld (pc := 656) C hs (vin_k (k := 2) hj hL (by decide)) dL_law_656 ?_
  refine r_perm (ws' := mw g q M ++ w1) k_p2 ?_
  refine (?_ : jJ X g () _ _ _ _ _ _ (bp (some ()) (fun _ => some ())))
  refine r_cVx (α := Unit) (fN := some ()) (Φ := fun _ o w => o = some (.int r) ∧ w = mw g q M') (wc := mw g q M) (wr := w1) (As := [.int (xs (nI (6 * j) + 1).toNatClampNeg), .int (xs (nI (6 * j) + 2).toNatClampNeg)]) (st := [.int r]) (mc := 0) (ms := 0) (pc := 657) C (fun _ _ l => (p_within h2 l).x ⟨rfl, rfl⟩) kY_X12_within kw_7_86 kw_7_87 kw_7_85 rfl ⟨Nat.le_of_ble_eq_true rfl, Nat.le_of_ble_eq_true rfl⟩ rfl rfl ⟨by show 100 + 30 * j + 0 + 0 ≤ 600000; omega, by show 22000 + 677 * j + 0 + 0 ≤ 7302250; omega⟩ rfl 0 rfl rfl rfl (Nat.le_of_ble_eq_true rfl) dL_law_657 (fun _ o w2 hw2 => ?_)
  obtain ⟨rfl, rfl⟩ := hw2
  refine r_perm (ws' := w1 ++ mw g q M') k_p2 ?_
  refine r_eqT 1834 (pc := 660) C dL_law_660 (by decide) ?_
  refine r_widen (a' := 100 + 30 * (j + 1)) (b' := 22000 + 677 * (j + 1)) (by show 100 + 30 * j + 0 + 0 ≤ _; omega) (by show 22000 + 677 * j + 0 + 0 ≤ _; omega) ?_
  exact tl T' M' w1 h3 hw
set_option maxRecDepth 100000 in
set_option maxHeartbeats 4000000 in
theorem la_15 {X : KX} {g : KG} {b L a1 : Nat} {q : Nat → Nat} {xs : Nat → Int32} {j : Nat} (C : kC X g cL_law "MarkChainsLaw" room_1 4) (hs : kScr X b L xs) (hj : 6 * j + 6 ≤ L) (hL : L ≤ 3072) {RL : XS → MS → Prop} (hop : ∀ (T : XS) (M : MS) (a1 : Int32) (a2 : Int32) (a3 : Int32) (a4 : Int32), RL T M → ∃ (r : Int32) (T' : XS) (M' : MS), fo_chain T a1 a2 a3 a4 = some (r, T') ∧ fm_chain M a1 a2 a3 a4 = some (r, M') ∧ RL T' M') (tl : ∀ (T' : XS) (M' : MS) (w1 : va_W), RL T' M' → cF g a1 T' w1 → jJ X g () (w1 ++ mw g q M') (100 + 30 * (j + 1)) (22000 + 677 * (j + 1)) 1834 [(0, .ref b), (1, .ref a1), (2, .ref (q 0)), (3, .int (nI (6 * j)))] [] (some ())) (T : XS) (M : MS) (w : va_W) (hRL : RL T M) (hT : cF g a1 T w) : jJ X g () (w ++ mw g q M) (100 + 30 * j) (22000 + 677 * j) 665 [(0, .ref b), (1, .ref a1), (2, .ref (q 0)), (3, .int (nI (6 * j)))] [] (some ()) := by
  obtain ⟨r, T', M', h1, h2, h3⟩ := hop T M (xs (nI (6 * j) + 1).toNatClampNeg) (xs (nI (6 * j) + 2).toNatClampNeg) (xs (nI (6 * j) + 3).toNatClampNeg) (xs (nI (6 * j) + 4).toNatClampNeg) hRL
  obtain ⟨fs, he⟩ := cF_head hT
  refine r_aload_n (pc := 665) C dL_law_665 1 rfl ?_
  refine r_aload_n (pc := 666) C dL_law_666 0 rfl ?_
  refine r_iload_n (pc := 667) C dL_law_667 3 rfl ?_
  refine r_iconst (pc := 668) C dL_law_668 (v := 1) (by decide) ?_
  refine r_iadd (pc := 669) C dL_law_669 ?_
  refine r_sld (pc := 670) C hs (vin_k (k := 1) hj hL (by decide)) dL_law_670 ?_
  refine r_aload_n (pc := 671) C dL_law_671 0 rfl ?_
  refine r_iload_n (pc := 672) C dL_law_672 3 rfl ?_
  refine r_iconst (pc := 673) C dL_law_673 (v := 2) (by decide) ?_
  refine r_iadd (pc := 674) C dL_law_674 ?_
  refine r_sld (pc := 675) C hs (vin_k (k := 2) hj hL (by decide)) dL_law_675 ?_
  refine r_aload_n (pc := 676) C dL_law_676 0 rfl ?_
  refine r_iload_n (pc := 677) C dL_law_677 3 rfl ?_
  refine r_iconst (pc := 678) C dL_law_678 (v := 3) (by decide) ?_
  refine r_iadd (pc := 679) C dL_law_679 ?_
  refine r_sld (pc := 680) C hs (vin_k (k := 3) hj hL (by decide)) dL_law_680 ?_
  refine r_aload_n (pc := 681) C dL_law_681 0 rfl ?_
  refine r_iload_n (pc := 682) C dL_law_682 3 rfl ?_
  refine r_iconst (pc := 683) C dL_law_683 (v := 4) (by decide) ?_
  refine r_iadd (pc := 684) C dL_law_684 ?_
  refine r_sld (pc := 685) C hs (vin_k (k := 4) hj hL (by decide)) dL_law_685 ?_
  refine (?_ : jJ X g () _ _ _ _ _ _ (bp (some ()) (fun _ => some ())))
  refine r_cVx (α := Unit) (fN := some ()) (Φ := fun _ o w => o = some (.int r) ∧ cF g a1 T' w) (wc := w) (wr := mw g q M) (As := [.int (xs (nI (6 * j) + 1).toNatClampNeg), .int (xs (nI (6 * j) + 2).toNatClampNeg), .int (xs (nI (6 * j) + 3).toNatClampNeg), .int (xs (nI (6 * j) + 4).toNatClampNeg)]) (st := []) (mc := 0) (ms := 0) (pc := 686) C (fun _ _ => o_chain hT h1) kY_X11_chain kw_4_102 kw_4_103 kw_4_101 rfl ⟨Nat.le_of_ble_eq_true rfl, Nat.le_of_ble_eq_true rfl⟩ rfl rfl ⟨by show 100 + 30 * j + 0 ≤ 600000; omega, by show 22000 + 677 * j + 0 ≤ 7302250; omega⟩ rfl 0 he rfl rfl (Nat.le_of_ble_eq_true rfl) dL_law_686 (fun _ o w1 hw => ?_)
  obtain ⟨rfl, hw⟩ := hw
  refine r_aload_n (pc := 689) C dL_law_689 2 rfl ?_
  refine r_aload_n (pc := 690) C dL_law_690 0 rfl ?_
  refine r_iload_n (pc := 691) C dL_law_691 3 rfl ?_
  refine r_iconst (pc := 692) C dL_law_692 (v := 1) (by decide) ?_
  refine r_iadd (pc := 693) C dL_law_693 ?_
  refine r_sld (pc := 694) C hs (vin_k (k := 1) hj hL (by decide)) dL_law_694 ?_
  refine r_aload_n (pc := 695) C dL_law_695 0 rfl ?_
  refine r_iload_n (pc := 696) C dL_law_696 3 rfl ?_
  refine r_iconst (pc := 697) C dL_law_697 (v := 2) (by decide) ?_
  refine r_iadd (pc := 698) C dL_law_698 ?_
  refine r_sld (pc := 699) C hs (vin_k (k := 2) hj hL (by decide)) dL_law_699 ?_
  refine r_aload_n (pc := 700) C dL_law_700 0 rfl ?_
  refine r_iload_n (pc := 701) C dL_law_701 3 rfl ?_
  refine r_iconst (pc := 702) C dL_law_702 (v := 3) (by decide) ?_
  refine r_iadd (pc := 703) C dL_law_703 ?_
  refine r_sld (pc := 704) C hs (vin_k (k := 3) hj hL (by decide)) dL_law_704 ?_
  refine r_aload_n (pc := 705) C dL_law_705 0 rfl ?_
  refine r_iload_n (pc := 706) C dL_law_706 3 rfl ?_
  refine r_iconst (pc := 707) C dL_law_707 (v := 4) (by decide) ?_
  refine r_iadd (pc := 708) C dL_law_708 ?_
  refine r_sld (pc := 709) C hs (vin_k (k := 4) hj hL (by decide)) dL_law_709 ?_
  refine r_perm (ws' := mw g q M ++ w1) k_p2 ?_
  refine (?_ : jJ X g () _ _ _ _ _ _ (bp (some ()) (fun _ => some ())))
  refine r_cVx (α := Unit) (fN := some ()) (Φ := fun _ o w => o = some (.int r) ∧ w = mw g q M') (wc := mw g q M) (wr := w1) (As := [.int (xs (nI (6 * j) + 1).toNatClampNeg), .int (xs (nI (6 * j) + 2).toNatClampNeg), .int (xs (nI (6 * j) + 3).toNatClampNeg), .int (xs (nI (6 * j) + 4).toNatClampNeg)]) (st := [.int r]) (mc := 0) (ms := 0) (pc := 710) C (fun _ _ l => (p_chain h2 l).x ⟨rfl, rfl⟩) kY_X12_chain kw_7_97 kw_7_98 kw_7_96 rfl ⟨Nat.le_of_ble_eq_true rfl, Nat.le_of_ble_eq_true rfl⟩ rfl rfl ⟨by show 100 + 30 * j + 0 + 0 ≤ 600000; omega, by show 22000 + 677 * j + 0 + 0 ≤ 7302250; omega⟩ rfl 0 rfl rfl rfl (Nat.le_of_ble_eq_true rfl) dL_law_710 (fun _ o w2 hw2 => ?_)
  obtain ⟨rfl, rfl⟩ := hw2
  refine r_perm (ws' := w1 ++ mw g q M') k_p2 ?_
  refine r_eqT 1834 (pc := 713) C dL_law_713 (by decide) ?_
  refine r_widen (a' := 100 + 30 * (j + 1)) (b' := 22000 + 677 * (j + 1)) (by show 100 + 30 * j + 0 + 0 ≤ _; omega) (by show 22000 + 677 * j + 0 + 0 ≤ _; omega) ?_
  exact tl T' M' w1 h3 hw
set_option maxRecDepth 100000 in
set_option maxHeartbeats 4000000 in
theorem la_16 {X : KX} {g : KG} {b L a1 : Nat} {q : Nat → Nat} {xs : Nat → Int32} {j : Nat} (C : kC X g cL_law "MarkChainsLaw" room_1 4) (hs : kScr X b L xs) (hj : 6 * j + 6 ≤ L) (hL : L ≤ 3072) {RL : XS → MS → Prop} (hop : ∀ (T : XS) (M : MS) (a1 : Int32) (a2 : Int32) (a3 : Int32), RL T M → ∃ (r : Int32) (T' : XS) (M' : MS), fo_record T a1 a2 a3 = some (r, T') ∧ fm_record M a1 a2 a3 = some (r, M') ∧ RL T' M') (tl : ∀ (T' : XS) (M' : MS) (w1 : va_W), RL T' M' → cF g a1 T' w1 → jJ X g () (w1 ++ mw g q M') (100 + 30 * (j + 1)) (22000 + 677 * (j + 1)) 1834 [(0, .ref b), (1, .ref a1), (2, .ref (q 0)), (3, .int (nI (6 * j)))] [] (some ())) (T : XS) (M : MS) (w : va_W) (hRL : RL T M) (hT : cF g a1 T w) : jJ X g () (w ++ mw g q M) (100 + 30 * j) (22000 + 677 * j) 718 [(0, .ref b), (1, .ref a1), (2, .ref (q 0)), (3, .int (nI (6 * j)))] [] (some ()) := by
  obtain ⟨r, T', M', h1, h2, h3⟩ := hop T M (xs (nI (6 * j) + 1).toNatClampNeg) (xs (nI (6 * j) + 2).toNatClampNeg) (xs (nI (6 * j) + 3).toNatClampNeg) hRL
  obtain ⟨fs, he⟩ := cF_head hT
  refine r_aload_n (pc := 718) C dL_law_718 1 rfl ?_
  refine r_aload_n (pc := 719) C dL_law_719 0 rfl ?_
  refine r_iload_n (pc := 720) C dL_law_720 3 rfl ?_
  refine r_iconst (pc := 721) C dL_law_721 (v := 1) (by decide) ?_
  refine r_iadd (pc := 722) C dL_law_722 ?_
  refine r_sld (pc := 723) C hs (vin_k (k := 1) hj hL (by decide)) dL_law_723 ?_
  refine r_aload_n (pc := 724) C dL_law_724 0 rfl ?_
  refine r_iload_n (pc := 725) C dL_law_725 3 rfl ?_
  refine r_iconst (pc := 726) C dL_law_726 (v := 2) (by decide) ?_
  refine r_iadd (pc := 727) C dL_law_727 ?_
  refine r_sld (pc := 728) C hs (vin_k (k := 2) hj hL (by decide)) dL_law_728 ?_
  refine r_aload_n (pc := 729) C dL_law_729 0 rfl ?_
  refine r_iload_n (pc := 730) C dL_law_730 3 rfl ?_
  refine r_iconst (pc := 731) C dL_law_731 (v := 3) (by decide) ?_
  refine r_iadd (pc := 732) C dL_law_732 ?_
  refine r_sld (pc := 733) C hs (vin_k (k := 3) hj hL (by decide)) dL_law_733 ?_
  refine (?_ : jJ X g () _ _ _ _ _ _ (bp (some ()) (fun _ => some ())))
  refine r_cVx (α := Unit) (fN := some ()) (Φ := fun _ o w => o = some (.int r) ∧ cF g a1 T' w) (wc := w) (wr := mw g q M) (As := [.int (xs (nI (6 * j) + 1).toNatClampNeg), .int (xs (nI (6 * j) + 2).toNatClampNeg), .int (xs (nI (6 * j) + 3).toNatClampNeg)]) (st := []) (mc := 0) (ms := 0) (pc := 734) C (fun _ _ => o_record hT h1) kY_X11_record kw_4_146 kw_4_147 kw_4_145 rfl ⟨Nat.le_of_ble_eq_true rfl, Nat.le_of_ble_eq_true rfl⟩ rfl rfl ⟨by show 100 + 30 * j + 0 ≤ 600000; omega, by show 22000 + 677 * j + 0 ≤ 7302250; omega⟩ rfl 0 he rfl rfl (Nat.le_of_ble_eq_true rfl) dL_law_734 (fun _ o w1 hw => ?_)
  obtain ⟨rfl, hw⟩ := hw
  refine r_aload_n (pc := 737) C dL_law_737 2 rfl ?_
  refine r_aload_n (pc := 738) C dL_law_738 0 rfl ?_
  refine r_iload_n (pc := 739) C dL_law_739 3 rfl ?_
  refine r_iconst (pc := 740) C dL_law_740 (v := 1) (by decide) ?_
  refine r_iadd (pc := 741) C dL_law_741 ?_
  refine r_sld (pc := 742) C hs (vin_k (k := 1) hj hL (by decide)) dL_law_742 ?_
  refine r_aload_n (pc := 743) C dL_law_743 0 rfl ?_
  refine r_iload_n (pc := 744) C dL_law_744 3 rfl ?_
  refine r_iconst (pc := 745) C dL_law_745 (v := 2) (by decide) ?_
  refine r_iadd (pc := 746) C dL_law_746 ?_
  refine r_sld (pc := 747) C hs (vin_k (k := 2) hj hL (by decide)) dL_law_747 ?_
  refine r_aload_n (pc := 748) C dL_law_748 0 rfl ?_
  refine r_iload_n (pc := 749) C dL_law_749 3 rfl ?_
  refine r_iconst (pc := 750) C dL_law_750 (v := 3) (by decide) ?_
  refine r_iadd (pc := 751) C dL_law_751 ?_
  refine r_sld (pc := 752) C hs (vin_k (k := 3) hj hL (by decide)) dL_law_752 ?_
  refine r_perm (ws' := mw g q M ++ w1) k_p2 ?_
  refine (?_ : jJ X g () _ _ _ _ _ _ (bp (some ()) (fun _ => some ())))
  refine r_cVx (α := Unit) (fN := some ()) (Φ := fun _ o w => o = some (.int r) ∧ w = mw g q M') (wc := mw g q M) (wr := w1) (As := [.int (xs (nI (6 * j) + 1).toNatClampNeg), .int (xs (nI (6 * j) + 2).toNatClampNeg), .int (xs (nI (6 * j) + 3).toNatClampNeg)]) (st := [.int r]) (mc := 0) (ms := 0) (pc := 753) C (fun _ _ l => (p_record h2 l).x ⟨rfl, rfl⟩) kY_X12_record kw_7_121 kw_7_122 kw_7_120 rfl ⟨Nat.le_of_ble_eq_true rfl, Nat.le_of_ble_eq_true rfl⟩ rfl rfl ⟨by show 100 + 30 * j + 0 + 0 ≤ 600000; omega, by show 22000 + 677 * j + 0 + 0 ≤ 7302250; omega⟩ rfl 0 rfl rfl rfl (Nat.le_of_ble_eq_true rfl) dL_law_753 (fun _ o w2 hw2 => ?_)
  obtain ⟨rfl, rfl⟩ := hw2
  refine r_perm (ws' := w1 ++ mw g q M') k_p2 ?_
  refine r_eqT 1834 (pc := 756) C dL_law_756 (by decide) ?_
  refine r_widen (a' := 100 + 30 * (j + 1)) (b' := 22000 + 677 * (j + 1)) (by show 100 + 30 * j + 0 + 0 ≤ _; omega) (by show 22000 + 677 * j + 0 + 0 ≤ _; omega) ?_
  exact tl T' M' w1 h3 hw
set_option maxRecDepth 100000 in
set_option maxHeartbeats 4000000 in
theorem la_17 {X : KX} {g : KG} {b L a1 : Nat} {q : Nat → Nat} {xs : Nat → Int32} {j : Nat} (C : kC X g cL_law "MarkChainsLaw" room_1 4) (hs : kScr X b L xs) (hj : 6 * j + 6 ≤ L) (hL : L ≤ 3072) {RL : XS → MS → Prop} (hop : ∀ (T : XS) (M : MS) (a1 : Int32) (a2 : Int32) (a3 : Int32), RL T M → ∃ (r : Int32) (T' : XS) (M' : MS), fo_holders T a1 a2 a3 = some (r, T') ∧ fm_holders M a1 a2 a3 = some (r, M') ∧ RL T' M') (tl : ∀ (T' : XS) (M' : MS) (w1 : va_W), RL T' M' → cF g a1 T' w1 → jJ X g () (w1 ++ mw g q M') (100 + 30 * (j + 1)) (22000 + 677 * (j + 1)) 1834 [(0, .ref b), (1, .ref a1), (2, .ref (q 0)), (3, .int (nI (6 * j)))] [] (some ())) (T : XS) (M : MS) (w : va_W) (hRL : RL T M) (hT : cF g a1 T w) : jJ X g () (w ++ mw g q M) (100 + 30 * j) (22000 + 677 * j) 761 [(0, .ref b), (1, .ref a1), (2, .ref (q 0)), (3, .int (nI (6 * j)))] [] (some ()) := by
  obtain ⟨r, T', M', h1, h2, h3⟩ := hop T M (xs (nI (6 * j) + 1).toNatClampNeg) (xs (nI (6 * j) + 2).toNatClampNeg) (xs (nI (6 * j) + 3).toNatClampNeg) hRL
  obtain ⟨fs, he⟩ := cF_head hT
  refine r_aload_n (pc := 761) C dL_law_761 1 rfl ?_
  refine r_aload_n (pc := 762) C dL_law_762 0 rfl ?_
  refine r_iload_n (pc := 763) C dL_law_763 3 rfl ?_
  refine r_iconst (pc := 764) C dL_law_764 (v := 1) (by decide) ?_
  refine r_iadd (pc := 765) C dL_law_765 ?_
  refine r_sld (pc := 766) C hs (vin_k (k := 1) hj hL (by decide)) dL_law_766 ?_
  refine r_aload_n (pc := 767) C dL_law_767 0 rfl ?_
  refine r_iload_n (pc := 768) C dL_law_768 3 rfl ?_
  refine r_iconst (pc := 769) C dL_law_769 (v := 2) (by decide) ?_
  refine r_iadd (pc := 770) C dL_law_770 ?_
  refine r_sld (pc := 771) C hs (vin_k (k := 2) hj hL (by decide)) dL_law_771 ?_
  refine r_aload_n (pc := 772) C dL_law_772 0 rfl ?_
  refine r_iload_n (pc := 773) C dL_law_773 3 rfl ?_
  refine r_iconst (pc := 774) C dL_law_774 (v := 3) (by decide) ?_
  refine r_iadd (pc := 775) C dL_law_775 ?_
  refine r_sld (pc := 776) C hs (vin_k (k := 3) hj hL (by decide)) dL_law_776 ?_
  refine (?_ : jJ X g () _ _ _ _ _ _ (bp (some ()) (fun _ => some ())))
  refine r_cVx (α := Unit) (fN := some ()) (Φ := fun _ o w => o = some (.int r) ∧ cF g a1 T' w) (wc := w) (wr := mw g q M) (As := [.int (xs (nI (6 * j) + 1).toNatClampNeg), .int (xs (nI (6 * j) + 2).toNatClampNeg), .int (xs (nI (6 * j) + 3).toNatClampNeg)]) (st := []) (mc := 0) (ms := 0) (pc := 777) C (fun _ _ => o_holders hT h1) kY_X11_holders kw_4_154 kw_4_155 kw_4_153 rfl ⟨Nat.le_of_ble_eq_true rfl, Nat.le_of_ble_eq_true rfl⟩ rfl rfl ⟨by show 100 + 30 * j + 0 ≤ 600000; omega, by show 22000 + 677 * j + 0 ≤ 7302250; omega⟩ rfl 0 he rfl rfl (Nat.le_of_ble_eq_true rfl) dL_law_777 (fun _ o w1 hw => ?_)
  obtain ⟨rfl, hw⟩ := hw
  refine r_aload_n (pc := 780) C dL_law_780 2 rfl ?_
  refine r_aload_n (pc := 781) C dL_law_781 0 rfl ?_
  refine r_iload_n (pc := 782) C dL_law_782 3 rfl ?_
  refine r_iconst (pc := 783) C dL_law_783 (v := 1) (by decide) ?_
  refine r_iadd (pc := 784) C dL_law_784 ?_
  refine r_sld (pc := 785) C hs (vin_k (k := 1) hj hL (by decide)) dL_law_785 ?_
  refine r_aload_n (pc := 786) C dL_law_786 0 rfl ?_
  refine r_iload_n (pc := 787) C dL_law_787 3 rfl ?_
  refine r_iconst (pc := 788) C dL_law_788 (v := 2) (by decide) ?_
  refine r_iadd (pc := 789) C dL_law_789 ?_
  refine r_sld (pc := 790) C hs (vin_k (k := 2) hj hL (by decide)) dL_law_790 ?_
  refine r_aload_n (pc := 791) C dL_law_791 0 rfl ?_
  refine r_iload_n (pc := 792) C dL_law_792 3 rfl ?_
  refine r_iconst (pc := 793) C dL_law_793 (v := 3) (by decide) ?_
  refine r_iadd (pc := 794) C dL_law_794 ?_
  refine r_sld (pc := 795) C hs (vin_k (k := 3) hj hL (by decide)) dL_law_795 ?_
  refine r_perm (ws' := mw g q M ++ w1) k_p2 ?_
  refine (?_ : jJ X g () _ _ _ _ _ _ (bp (some ()) (fun _ => some ())))
  refine r_cVx (α := Unit) (fN := some ()) (Φ := fun _ o w => o = some (.int r) ∧ w = mw g q M') (wc := mw g q M) (wr := w1) (As := [.int (xs (nI (6 * j) + 1).toNatClampNeg), .int (xs (nI (6 * j) + 2).toNatClampNeg), .int (xs (nI (6 * j) + 3).toNatClampNeg)]) (st := [.int r]) (mc := 0) (ms := 0) (pc := 796) C (fun _ _ l => (p_holders h2 l).x ⟨rfl, rfl⟩) kY_X12_holders kw_7_133 kw_7_134 kw_7_132 rfl ⟨Nat.le_of_ble_eq_true rfl, Nat.le_of_ble_eq_true rfl⟩ rfl rfl ⟨by show 100 + 30 * j + 0 + 0 ≤ 600000; omega, by show 22000 + 677 * j + 0 + 0 ≤ 7302250; omega⟩ rfl 0 rfl rfl rfl (Nat.le_of_ble_eq_true rfl) dL_law_796 (fun _ o w2 hw2 => ?_)
  obtain ⟨rfl, rfl⟩ := hw2
  refine r_perm (ws' := w1 ++ mw g q M') k_p2 ?_
  refine r_eqT 1834 (pc := 799) C dL_law_799 (by decide) ?_
  refine r_widen (a' := 100 + 30 * (j + 1)) (b' := 22000 + 677 * (j + 1)) (by show 100 + 30 * j + 0 + 0 ≤ _; omega) (by show 22000 + 677 * j + 0 + 0 ≤ _; omega) ?_
  exact tl T' M' w1 h3 hw
set_option maxRecDepth 100000 in
set_option maxHeartbeats 4000000 in
theorem la_18 {X : KX} {g : KG} {b L a1 : Nat} {q : Nat → Nat} {xs : Nat → Int32} {j : Nat} (C : kC X g cL_law "MarkChainsLaw" room_1 4) (hs : kScr X b L xs) (hj : 6 * j + 6 ≤ L) (hL : L ≤ 3072) {RL : XS → MS → Prop} (hop : ∀ (T : XS) (M : MS) (a1 : Int32) (a2 : Int32) (a3 : Int32), RL T M → ∃ (r : Int32) (T' : XS) (M' : MS), fo_ties T a1 a2 a3 = some (r, T') ∧ fm_ties M a1 a2 a3 = some (r, M') ∧ RL T' M') (tl : ∀ (T' : XS) (M' : MS) (w1 : va_W), RL T' M' → cF g a1 T' w1 → jJ X g () (w1 ++ mw g q M') (100 + 30 * (j + 1)) (22000 + 677 * (j + 1)) 1834 [(0, .ref b), (1, .ref a1), (2, .ref (q 0)), (3, .int (nI (6 * j)))] [] (some ())) (T : XS) (M : MS) (w : va_W) (hRL : RL T M) (hT : cF g a1 T w) : jJ X g () (w ++ mw g q M) (100 + 30 * j) (22000 + 677 * j) 804 [(0, .ref b), (1, .ref a1), (2, .ref (q 0)), (3, .int (nI (6 * j)))] [] (some ()) := by
  obtain ⟨r, T', M', h1, h2, h3⟩ := hop T M (xs (nI (6 * j) + 1).toNatClampNeg) (xs (nI (6 * j) + 2).toNatClampNeg) (xs (nI (6 * j) + 3).toNatClampNeg) hRL
  obtain ⟨fs, he⟩ := cF_head hT
  refine r_aload_n (pc := 804) C dL_law_804 1 rfl ?_
  refine r_aload_n (pc := 805) C dL_law_805 0 rfl ?_
  refine r_iload_n (pc := 806) C dL_law_806 3 rfl ?_
  refine r_iconst (pc := 807) C dL_law_807 (v := 1) (by decide) ?_
  refine r_iadd (pc := 808) C dL_law_808 ?_
  refine r_sld (pc := 809) C hs (vin_k (k := 1) hj hL (by decide)) dL_law_809 ?_
  refine r_aload_n (pc := 810) C dL_law_810 0 rfl ?_
  refine r_iload_n (pc := 811) C dL_law_811 3 rfl ?_
  refine r_iconst (pc := 812) C dL_law_812 (v := 2) (by decide) ?_
  refine r_iadd (pc := 813) C dL_law_813 ?_
  refine r_sld (pc := 814) C hs (vin_k (k := 2) hj hL (by decide)) dL_law_814 ?_
  refine r_aload_n (pc := 815) C dL_law_815 0 rfl ?_
  refine r_iload_n (pc := 816) C dL_law_816 3 rfl ?_
  refine r_iconst (pc := 817) C dL_law_817 (v := 3) (by decide) ?_
  refine r_iadd (pc := 818) C dL_law_818 ?_
  refine r_sld (pc := 819) C hs (vin_k (k := 3) hj hL (by decide)) dL_law_819 ?_
  refine (?_ : jJ X g () _ _ _ _ _ _ (bp (some ()) (fun _ => some ())))
  refine r_cVx (α := Unit) (fN := some ()) (Φ := fun _ o w => o = some (.int r) ∧ cF g a1 T' w) (wc := w) (wr := mw g q M) (As := [.int (xs (nI (6 * j) + 1).toNatClampNeg), .int (xs (nI (6 * j) + 2).toNatClampNeg), .int (xs (nI (6 * j) + 3).toNatClampNeg)]) (st := []) (mc := 0) (ms := 0) (pc := 820) C (fun _ _ => o_ties hT h1) kY_X11_ties kw_4_163 kw_4_164 kw_4_162 rfl ⟨Nat.le_of_ble_eq_true rfl, Nat.le_of_ble_eq_true rfl⟩ rfl rfl ⟨by show 100 + 30 * j + 0 ≤ 600000; omega, by show 22000 + 677 * j + 0 ≤ 7302250; omega⟩ rfl 0 he rfl rfl (Nat.le_of_ble_eq_true rfl) dL_law_820 (fun _ o w1 hw => ?_)
  obtain ⟨rfl, hw⟩ := hw
  refine r_aload_n (pc := 823) C dL_law_823 2 rfl ?_
  refine r_aload_n (pc := 824) C dL_law_824 0 rfl ?_
  refine r_iload_n (pc := 825) C dL_law_825 3 rfl ?_
  refine r_iconst (pc := 826) C dL_law_826 (v := 1) (by decide) ?_
  refine r_iadd (pc := 827) C dL_law_827 ?_
  refine r_sld (pc := 828) C hs (vin_k (k := 1) hj hL (by decide)) dL_law_828 ?_
  refine r_aload_n (pc := 829) C dL_law_829 0 rfl ?_
  refine r_iload_n (pc := 830) C dL_law_830 3 rfl ?_
  refine r_iconst (pc := 831) C dL_law_831 (v := 2) (by decide) ?_
  refine r_iadd (pc := 832) C dL_law_832 ?_
  refine r_sld (pc := 833) C hs (vin_k (k := 2) hj hL (by decide)) dL_law_833 ?_
  refine r_aload_n (pc := 834) C dL_law_834 0 rfl ?_
  refine r_iload_n (pc := 835) C dL_law_835 3 rfl ?_
  refine r_iconst (pc := 836) C dL_law_836 (v := 3) (by decide) ?_
  refine r_iadd (pc := 837) C dL_law_837 ?_
  refine r_sld (pc := 838) C hs (vin_k (k := 3) hj hL (by decide)) dL_law_838 ?_
  refine r_perm (ws' := mw g q M ++ w1) k_p2 ?_
  refine (?_ : jJ X g () _ _ _ _ _ _ (bp (some ()) (fun _ => some ())))
  refine r_cVx (α := Unit) (fN := some ()) (Φ := fun _ o w => o = some (.int r) ∧ w = mw g q M') (wc := mw g q M) (wr := w1) (As := [.int (xs (nI (6 * j) + 1).toNatClampNeg), .int (xs (nI (6 * j) + 2).toNatClampNeg), .int (xs (nI (6 * j) + 3).toNatClampNeg)]) (st := [.int r]) (mc := 0) (ms := 0) (pc := 839) C (fun _ _ l => (p_ties h2 l).x ⟨rfl, rfl⟩) kY_X12_ties kw_7_141 kw_7_142 kw_7_140 rfl ⟨Nat.le_of_ble_eq_true rfl, Nat.le_of_ble_eq_true rfl⟩ rfl rfl ⟨by show 100 + 30 * j + 0 + 0 ≤ 600000; omega, by show 22000 + 677 * j + 0 + 0 ≤ 7302250; omega⟩ rfl 0 rfl rfl rfl (Nat.le_of_ble_eq_true rfl) dL_law_839 (fun _ o w2 hw2 => ?_)
  obtain ⟨rfl, rfl⟩ := hw2
  refine r_perm (ws' := w1 ++ mw g q M') k_p2 ?_
  refine r_eqT 1834 (pc := 842) C dL_law_842 (by decide) ?_
  refine r_widen (a' := 100 + 30 * (j + 1)) (b' := 22000 + 677 * (j + 1)) (by show 100 + 30 * j + 0 + 0 ≤ _; omega) (by show 22000 + 677 * j + 0 + 0 ≤ _; omega) ?_
  exact tl T' M' w1 h3 hw
set_option maxRecDepth 100000 in
set_option maxHeartbeats 4000000 in
theorem la_19 {X : KX} {g : KG} {b L a1 : Nat} {q : Nat → Nat} {xs : Nat → Int32} {j : Nat} (C : kC X g cL_law "MarkChainsLaw" room_1 4) (hs : kScr X b L xs) (hj : 6 * j + 6 ≤ L) (hL : L ≤ 3072) {RL : XS → MS → Prop} (hop : ∀ (T : XS) (M : MS) (a1 : Int32) (a2 : Int32) (a3 : Int32) (a4 : Int32), RL T M → ∃ (r : Int32) (T' : XS) (M' : MS), fo_held T a1 a2 a3 a4 = some (r, T') ∧ fm_held M a1 a2 a3 a4 = some (r, M') ∧ RL T' M') (tl : ∀ (T' : XS) (M' : MS) (w1 : va_W), RL T' M' → cF g a1 T' w1 → jJ X g () (w1 ++ mw g q M') (100 + 30 * (j + 1)) (22000 + 677 * (j + 1)) 1834 [(0, .ref b), (1, .ref a1), (2, .ref (q 0)), (3, .int (nI (6 * j)))] [] (some ())) (T : XS) (M : MS) (w : va_W) (hRL : RL T M) (hT : cF g a1 T w) : jJ X g () (w ++ mw g q M) (100 + 30 * j) (22000 + 677 * j) 847 [(0, .ref b), (1, .ref a1), (2, .ref (q 0)), (3, .int (nI (6 * j)))] [] (some ()) := by
  obtain ⟨r, T', M', h1, h2, h3⟩ := hop T M (xs (nI (6 * j) + 1).toNatClampNeg) (xs (nI (6 * j) + 2).toNatClampNeg) (xs (nI (6 * j) + 3).toNatClampNeg) (xs (nI (6 * j) + 4).toNatClampNeg) hRL
  obtain ⟨fs, he⟩ := cF_head hT
  refine r_aload_n (pc := 847) C dL_law_847 1 rfl ?_
  refine r_aload_n (pc := 848) C dL_law_848 0 rfl ?_
  refine r_iload_n (pc := 849) C dL_law_849 3 rfl ?_
  refine r_iconst (pc := 850) C dL_law_850 (v := 1) (by decide) ?_
  refine r_iadd (pc := 851) C dL_law_851 ?_
  refine r_sld (pc := 852) C hs (vin_k (k := 1) hj hL (by decide)) dL_law_852 ?_
  refine r_aload_n (pc := 853) C dL_law_853 0 rfl ?_
  refine r_iload_n (pc := 854) C dL_law_854 3 rfl ?_
  refine r_iconst (pc := 855) C dL_law_855 (v := 2) (by decide) ?_
  refine r_iadd (pc := 856) C dL_law_856 ?_
  refine r_sld (pc := 857) C hs (vin_k (k := 2) hj hL (by decide)) dL_law_857 ?_
  refine r_aload_n (pc := 858) C dL_law_858 0 rfl ?_
  refine r_iload_n (pc := 859) C dL_law_859 3 rfl ?_
  refine r_iconst (pc := 860) C dL_law_860 (v := 3) (by decide) ?_
  refine r_iadd (pc := 861) C dL_law_861 ?_
  refine r_sld (pc := 862) C hs (vin_k (k := 3) hj hL (by decide)) dL_law_862 ?_
  refine r_aload_n (pc := 863) C dL_law_863 0 rfl ?_
  refine r_iload_n (pc := 864) C dL_law_864 3 rfl ?_
  refine r_iconst (pc := 865) C dL_law_865 (v := 4) (by decide) ?_
  refine r_iadd (pc := 866) C dL_law_866 ?_
  refine r_sld (pc := 867) C hs (vin_k (k := 4) hj hL (by decide)) dL_law_867 ?_
  refine (?_ : jJ X g () _ _ _ _ _ _ (bp (some ()) (fun _ => some ())))
  refine r_cVx (α := Unit) (fN := some ()) (Φ := fun _ o w => o = some (.int r) ∧ cF g a1 T' w) (wc := w) (wr := mw g q M) (As := [.int (xs (nI (6 * j) + 1).toNatClampNeg), .int (xs (nI (6 * j) + 2).toNatClampNeg), .int (xs (nI (6 * j) + 3).toNatClampNeg), .int (xs (nI (6 * j) + 4).toNatClampNeg)]) (st := []) (mc := 0) (ms := 0) (pc := 868) C (fun _ _ => o_held hT h1) kY_X11_held kw_4_175 kw_4_176 kw_4_174 rfl ⟨Nat.le_of_ble_eq_true rfl, Nat.le_of_ble_eq_true rfl⟩ rfl rfl ⟨by show 100 + 30 * j + 0 ≤ 600000; omega, by show 22000 + 677 * j + 0 ≤ 7302250; omega⟩ rfl 0 he rfl rfl (Nat.le_of_ble_eq_true rfl) dL_law_868 (fun _ o w1 hw => ?_)
  obtain ⟨rfl, hw⟩ := hw
  refine r_aload_n (pc := 871) C dL_law_871 2 rfl ?_
  refine r_aload_n (pc := 872) C dL_law_872 0 rfl ?_
  refine r_iload_n (pc := 873) C dL_law_873 3 rfl ?_
  refine r_iconst (pc := 874) C dL_law_874 (v := 1) (by decide) ?_
  refine r_iadd (pc := 875) C dL_law_875 ?_
  refine r_sld (pc := 876) C hs (vin_k (k := 1) hj hL (by decide)) dL_law_876 ?_
  refine r_aload_n (pc := 877) C dL_law_877 0 rfl ?_
  refine r_iload_n (pc := 878) C dL_law_878 3 rfl ?_
  refine r_iconst (pc := 879) C dL_law_879 (v := 2) (by decide) ?_
  refine r_iadd (pc := 880) C dL_law_880 ?_
  refine r_sld (pc := 881) C hs (vin_k (k := 2) hj hL (by decide)) dL_law_881 ?_
  refine r_aload_n (pc := 882) C dL_law_882 0 rfl ?_
  refine r_iload_n (pc := 883) C dL_law_883 3 rfl ?_
  refine r_iconst (pc := 884) C dL_law_884 (v := 3) (by decide) ?_
  refine r_iadd (pc := 885) C dL_law_885 ?_
  refine r_sld (pc := 886) C hs (vin_k (k := 3) hj hL (by decide)) dL_law_886 ?_
  refine r_aload_n (pc := 887) C dL_law_887 0 rfl ?_
  refine r_iload_n (pc := 888) C dL_law_888 3 rfl ?_
  refine r_iconst (pc := 889) C dL_law_889 (v := 4) (by decide) ?_
  refine r_iadd (pc := 890) C dL_law_890 ?_
  refine r_sld (pc := 891) C hs (vin_k (k := 4) hj hL (by decide)) dL_law_891 ?_
  refine r_perm (ws' := mw g q M ++ w1) k_p2 ?_
  refine (?_ : jJ X g () _ _ _ _ _ _ (bp (some ()) (fun _ => some ())))
  refine r_cVx (α := Unit) (fN := some ()) (Φ := fun _ o w => o = some (.int r) ∧ w = mw g q M') (wc := mw g q M) (wr := w1) (As := [.int (xs (nI (6 * j) + 1).toNatClampNeg), .int (xs (nI (6 * j) + 2).toNatClampNeg), .int (xs (nI (6 * j) + 3).toNatClampNeg), .int (xs (nI (6 * j) + 4).toNatClampNeg)]) (st := [.int r]) (mc := 0) (ms := 0) (pc := 892) C (fun _ _ l => (p_held h2 l).x ⟨rfl, rfl⟩) kY_X12_held kw_7_145 kw_7_146 kw_7_144 rfl ⟨Nat.le_of_ble_eq_true rfl, Nat.le_of_ble_eq_true rfl⟩ rfl rfl ⟨by show 100 + 30 * j + 0 + 0 ≤ 600000; omega, by show 22000 + 677 * j + 0 + 0 ≤ 7302250; omega⟩ rfl 0 rfl rfl rfl (Nat.le_of_ble_eq_true rfl) dL_law_892 (fun _ o w2 hw2 => ?_)
  obtain ⟨rfl, rfl⟩ := hw2
  refine r_perm (ws' := w1 ++ mw g q M') k_p2 ?_
  refine r_eqT 1834 (pc := 895) C dL_law_895 (by decide) ?_
  refine r_widen (a' := 100 + 30 * (j + 1)) (b' := 22000 + 677 * (j + 1)) (by show 100 + 30 * j + 0 + 0 ≤ _; omega) (by show 22000 + 677 * j + 0 + 0 ≤ _; omega) ?_
  exact tl T' M' w1 h3 hw
set_option maxRecDepth 100000 in
set_option maxHeartbeats 4000000 in
theorem la_20 {X : KX} {g : KG} {b L a1 : Nat} {q : Nat → Nat} {xs : Nat → Int32} {j : Nat} (C : kC X g cL_law "MarkChainsLaw" room_1 4) (hs : kScr X b L xs) (hj : 6 * j + 6 ≤ L) (hL : L ≤ 3072) {RL : XS → MS → Prop} (hop : ∀ (T : XS) (M : MS) (a1 : Int32) (a2 : Int32) (a3 : Int32) (a4 : Int32), RL T M → ∃ (r : Int32) (T' : XS) (M' : MS), fo_stood T a1 a2 a3 a4 = some (r, T') ∧ fm_stood M a1 a2 a3 a4 = some (r, M') ∧ RL T' M') (tl : ∀ (T' : XS) (M' : MS) (w1 : va_W), RL T' M' → cF g a1 T' w1 → jJ X g () (w1 ++ mw g q M') (100 + 30 * (j + 1)) (22000 + 677 * (j + 1)) 1834 [(0, .ref b), (1, .ref a1), (2, .ref (q 0)), (3, .int (nI (6 * j)))] [] (some ())) (T : XS) (M : MS) (w : va_W) (hRL : RL T M) (hT : cF g a1 T w) : jJ X g () (w ++ mw g q M) (100 + 30 * j) (22000 + 677 * j) 900 [(0, .ref b), (1, .ref a1), (2, .ref (q 0)), (3, .int (nI (6 * j)))] [] (some ()) := by
  obtain ⟨r, T', M', h1, h2, h3⟩ := hop T M (xs (nI (6 * j) + 1).toNatClampNeg) (xs (nI (6 * j) + 2).toNatClampNeg) (xs (nI (6 * j) + 3).toNatClampNeg) (xs (nI (6 * j) + 4).toNatClampNeg) hRL
  obtain ⟨fs, he⟩ := cF_head hT
  refine r_aload_n (pc := 900) C dL_law_900 1 rfl ?_
  refine r_aload_n (pc := 901) C dL_law_901 0 rfl ?_
  refine r_iload_n (pc := 902) C dL_law_902 3 rfl ?_
  refine r_iconst (pc := 903) C dL_law_903 (v := 1) (by decide) ?_
  refine r_iadd (pc := 904) C dL_law_904 ?_
  refine r_sld (pc := 905) C hs (vin_k (k := 1) hj hL (by decide)) dL_law_905 ?_
  refine r_aload_n (pc := 906) C dL_law_906 0 rfl ?_
  refine r_iload_n (pc := 907) C dL_law_907 3 rfl ?_
  refine r_iconst (pc := 908) C dL_law_908 (v := 2) (by decide) ?_
  refine r_iadd (pc := 909) C dL_law_909 ?_
  refine r_sld (pc := 910) C hs (vin_k (k := 2) hj hL (by decide)) dL_law_910 ?_
  refine r_aload_n (pc := 911) C dL_law_911 0 rfl ?_
  refine r_iload_n (pc := 912) C dL_law_912 3 rfl ?_
  refine r_iconst (pc := 913) C dL_law_913 (v := 3) (by decide) ?_
  refine r_iadd (pc := 914) C dL_law_914 ?_
  refine r_sld (pc := 915) C hs (vin_k (k := 3) hj hL (by decide)) dL_law_915 ?_
  refine r_aload_n (pc := 916) C dL_law_916 0 rfl ?_
  refine r_iload_n (pc := 917) C dL_law_917 3 rfl ?_
  refine r_iconst (pc := 918) C dL_law_918 (v := 4) (by decide) ?_
  refine r_iadd (pc := 919) C dL_law_919 ?_
  refine r_sld (pc := 920) C hs (vin_k (k := 4) hj hL (by decide)) dL_law_920 ?_
  refine (?_ : jJ X g () _ _ _ _ _ _ (bp (some ()) (fun _ => some ())))
  refine r_cVx (α := Unit) (fN := some ()) (Φ := fun _ o w => o = some (.int r) ∧ cF g a1 T' w) (wc := w) (wr := mw g q M) (As := [.int (xs (nI (6 * j) + 1).toNatClampNeg), .int (xs (nI (6 * j) + 2).toNatClampNeg), .int (xs (nI (6 * j) + 3).toNatClampNeg), .int (xs (nI (6 * j) + 4).toNatClampNeg)]) (st := []) (mc := 0) (ms := 0) (pc := 921) C (fun _ _ => o_stood hT h1) kY_X11_stood kw_4_195 kw_4_196 kw_4_194 rfl ⟨Nat.le_of_ble_eq_true rfl, Nat.le_of_ble_eq_true rfl⟩ rfl rfl ⟨by show 100 + 30 * j + 0 ≤ 600000; omega, by show 22000 + 677 * j + 0 ≤ 7302250; omega⟩ rfl 0 he rfl rfl (Nat.le_of_ble_eq_true rfl) dL_law_921 (fun _ o w1 hw => ?_)
  obtain ⟨rfl, hw⟩ := hw
  refine r_aload_n (pc := 924) C dL_law_924 2 rfl ?_
  refine r_aload_n (pc := 925) C dL_law_925 0 rfl ?_
  refine r_iload_n (pc := 926) C dL_law_926 3 rfl ?_
  refine r_iconst (pc := 927) C dL_law_927 (v := 1) (by decide) ?_
  refine r_iadd (pc := 928) C dL_law_928 ?_
  refine r_sld (pc := 929) C hs (vin_k (k := 1) hj hL (by decide)) dL_law_929 ?_
  refine r_aload_n (pc := 930) C dL_law_930 0 rfl ?_
  refine r_iload_n (pc := 931) C dL_law_931 3 rfl ?_
  refine r_iconst (pc := 932) C dL_law_932 (v := 2) (by decide) ?_
  refine r_iadd (pc := 933) C dL_law_933 ?_
  refine r_sld (pc := 934) C hs (vin_k (k := 2) hj hL (by decide)) dL_law_934 ?_
  refine r_aload_n (pc := 935) C dL_law_935 0 rfl ?_
  refine r_iload_n (pc := 936) C dL_law_936 3 rfl ?_
  refine r_iconst (pc := 937) C dL_law_937 (v := 3) (by decide) ?_
  refine r_iadd (pc := 938) C dL_law_938 ?_
  refine r_sld (pc := 939) C hs (vin_k (k := 3) hj hL (by decide)) dL_law_939 ?_
  refine r_aload_n (pc := 940) C dL_law_940 0 rfl ?_
  refine r_iload_n (pc := 941) C dL_law_941 3 rfl ?_
  refine r_iconst (pc := 942) C dL_law_942 (v := 4) (by decide) ?_
  refine r_iadd (pc := 943) C dL_law_943 ?_
  refine r_sld (pc := 944) C hs (vin_k (k := 4) hj hL (by decide)) dL_law_944 ?_
  refine r_perm (ws' := mw g q M ++ w1) k_p2 ?_
  refine (?_ : jJ X g () _ _ _ _ _ _ (bp (some ()) (fun _ => some ())))
  refine r_cVx (α := Unit) (fN := some ()) (Φ := fun _ o w => o = some (.int r) ∧ w = mw g q M') (wc := mw g q M) (wr := w1) (As := [.int (xs (nI (6 * j) + 1).toNatClampNeg), .int (xs (nI (6 * j) + 2).toNatClampNeg), .int (xs (nI (6 * j) + 3).toNatClampNeg), .int (xs (nI (6 * j) + 4).toNatClampNeg)]) (st := [.int r]) (mc := 0) (ms := 0) (pc := 945) C (fun _ _ l => (p_stood h2 l).x ⟨rfl, rfl⟩) kY_X12_stood kw_7_153 kw_7_154 kw_7_152 rfl ⟨Nat.le_of_ble_eq_true rfl, Nat.le_of_ble_eq_true rfl⟩ rfl rfl ⟨by show 100 + 30 * j + 0 + 0 ≤ 600000; omega, by show 22000 + 677 * j + 0 + 0 ≤ 7302250; omega⟩ rfl 0 rfl rfl rfl (Nat.le_of_ble_eq_true rfl) dL_law_945 (fun _ o w2 hw2 => ?_)
  obtain ⟨rfl, rfl⟩ := hw2
  refine r_perm (ws' := w1 ++ mw g q M') k_p2 ?_
  refine r_eqT 1834 (pc := 948) C dL_law_948 (by decide) ?_
  refine r_widen (a' := 100 + 30 * (j + 1)) (b' := 22000 + 677 * (j + 1)) (by show 100 + 30 * j + 0 + 0 ≤ _; omega) (by show 22000 + 677 * j + 0 + 0 ≤ _; omega) ?_
  exact tl T' M' w1 h3 hw
set_option maxRecDepth 100000 in
set_option maxHeartbeats 4000000 in
theorem la_21 {X : KX} {g : KG} {b L a1 : Nat} {q : Nat → Nat} {xs : Nat → Int32} {j : Nat} (C : kC X g cL_law "MarkChainsLaw" room_1 4) (hs : kScr X b L xs) (hj : 6 * j + 6 ≤ L) (hL : L ≤ 3072) {RL : XS → MS → Prop} (hop : ∀ (T : XS) (M : MS) (a1 : Int32) (a2 : Int32) (a3 : Int32) (a4 : Int32), RL T M → ∃ (r : Int32) (T' : XS) (M' : MS), fo_altered T a1 a2 a3 a4 = some (r, T') ∧ fm_altered M a1 a2 a3 a4 = some (r, M') ∧ RL T' M') (tl : ∀ (T' : XS) (M' : MS) (w1 : va_W), RL T' M' → cF g a1 T' w1 → jJ X g () (w1 ++ mw g q M') (100 + 30 * (j + 1)) (22000 + 677 * (j + 1)) 1834 [(0, .ref b), (1, .ref a1), (2, .ref (q 0)), (3, .int (nI (6 * j)))] [] (some ())) (T : XS) (M : MS) (w : va_W) (hRL : RL T M) (hT : cF g a1 T w) : jJ X g () (w ++ mw g q M) (100 + 30 * j) (22000 + 677 * j) 953 [(0, .ref b), (1, .ref a1), (2, .ref (q 0)), (3, .int (nI (6 * j)))] [] (some ()) := by
  obtain ⟨r, T', M', h1, h2, h3⟩ := hop T M (xs (nI (6 * j) + 1).toNatClampNeg) (xs (nI (6 * j) + 2).toNatClampNeg) (xs (nI (6 * j) + 3).toNatClampNeg) (xs (nI (6 * j) + 4).toNatClampNeg) hRL
  obtain ⟨fs, he⟩ := cF_head hT
  refine r_aload_n (pc := 953) C dL_law_953 1 rfl ?_
  refine r_aload_n (pc := 954) C dL_law_954 0 rfl ?_
  refine r_iload_n (pc := 955) C dL_law_955 3 rfl ?_
  refine r_iconst (pc := 956) C dL_law_956 (v := 1) (by decide) ?_
  refine r_iadd (pc := 957) C dL_law_957 ?_
  refine r_sld (pc := 958) C hs (vin_k (k := 1) hj hL (by decide)) dL_law_958 ?_
  refine r_aload_n (pc := 959) C dL_law_959 0 rfl ?_
  refine r_iload_n (pc := 960) C dL_law_960 3 rfl ?_
  refine r_iconst (pc := 961) C dL_law_961 (v := 2) (by decide) ?_
  refine r_iadd (pc := 962) C dL_law_962 ?_
  refine r_sld (pc := 963) C hs (vin_k (k := 2) hj hL (by decide)) dL_law_963 ?_
  refine r_aload_n (pc := 964) C dL_law_964 0 rfl ?_
  refine r_iload_n (pc := 965) C dL_law_965 3 rfl ?_
  refine r_iconst (pc := 966) C dL_law_966 (v := 3) (by decide) ?_
  refine r_iadd (pc := 967) C dL_law_967 ?_
  refine r_sld (pc := 968) C hs (vin_k (k := 3) hj hL (by decide)) dL_law_968 ?_
  refine r_aload_n (pc := 969) C dL_law_969 0 rfl ?_
  refine r_iload_n (pc := 970) C dL_law_970 3 rfl ?_
  refine r_iconst (pc := 971) C dL_law_971 (v := 4) (by decide) ?_
  refine r_iadd (pc := 972) C dL_law_972 ?_
  refine r_sld (pc := 973) C hs (vin_k (k := 4) hj hL (by decide)) dL_law_973 ?_
  refine (?_ : jJ X g () _ _ _ _ _ _ (bp (some ()) (fun _ => some ())))
  refine r_cVx (α := Unit) (fN := some ()) (Φ := fun _ o w => o = some (.int r) ∧ cF g a1 T' w) (wc := w) (wr := mw g q M) (As := [.int (xs (nI (6 * j) + 1).toNatClampNeg), .int (xs (nI (6 * j) + 2).toNatClampNeg), .int (xs (nI (6 * j) + 3).toNatClampNeg), .int (xs (nI (6 * j) + 4).toNatClampNeg)]) (st := []) (mc := 0) (ms := 0) (pc := 974) C (fun _ _ => o_altered hT h1) kY_X11_altered kw_4_204 kw_4_205 kw_4_203 rfl ⟨Nat.le_of_ble_eq_true rfl, Nat.le_of_ble_eq_true rfl⟩ rfl rfl ⟨by show 100 + 30 * j + 0 ≤ 600000; omega, by show 22000 + 677 * j + 0 ≤ 7302250; omega⟩ rfl 0 he rfl rfl (Nat.le_of_ble_eq_true rfl) dL_law_974 (fun _ o w1 hw => ?_)
  obtain ⟨rfl, hw⟩ := hw
  refine r_aload_n (pc := 977) C dL_law_977 2 rfl ?_
  refine r_aload_n (pc := 978) C dL_law_978 0 rfl ?_
  refine r_iload_n (pc := 979) C dL_law_979 3 rfl ?_
  refine r_iconst (pc := 980) C dL_law_980 (v := 1) (by decide) ?_
  refine r_iadd (pc := 981) C dL_law_981 ?_
  refine r_sld (pc := 982) C hs (vin_k (k := 1) hj hL (by decide)) dL_law_982 ?_
  refine r_aload_n (pc := 983) C dL_law_983 0 rfl ?_
  refine r_iload_n (pc := 984) C dL_law_984 3 rfl ?_
  refine r_iconst (pc := 985) C dL_law_985 (v := 2) (by decide) ?_
  refine r_iadd (pc := 986) C dL_law_986 ?_
  refine r_sld (pc := 987) C hs (vin_k (k := 2) hj hL (by decide)) dL_law_987 ?_
  refine r_aload_n (pc := 988) C dL_law_988 0 rfl ?_
  refine r_iload_n (pc := 989) C dL_law_989 3 rfl ?_
  refine r_iconst (pc := 990) C dL_law_990 (v := 3) (by decide) ?_
  refine r_iadd (pc := 991) C dL_law_991 ?_
  refine r_sld (pc := 992) C hs (vin_k (k := 3) hj hL (by decide)) dL_law_992 ?_
  refine r_aload_n (pc := 993) C dL_law_993 0 rfl ?_
  refine r_iload_n (pc := 994) C dL_law_994 3 rfl ?_
  refine r_iconst (pc := 995) C dL_law_995 (v := 4) (by decide) ?_
  refine r_iadd (pc := 996) C dL_law_996 ?_
  refine r_sld (pc := 997) C hs (vin_k (k := 4) hj hL (by decide)) dL_law_997 ?_
  refine r_perm (ws' := mw g q M ++ w1) k_p2 ?_
  refine (?_ : jJ X g () _ _ _ _ _ _ (bp (some ()) (fun _ => some ())))
  refine r_cVx (α := Unit) (fN := some ()) (Φ := fun _ o w => o = some (.int r) ∧ w = mw g q M') (wc := mw g q M) (wr := w1) (As := [.int (xs (nI (6 * j) + 1).toNatClampNeg), .int (xs (nI (6 * j) + 2).toNatClampNeg), .int (xs (nI (6 * j) + 3).toNatClampNeg), .int (xs (nI (6 * j) + 4).toNatClampNeg)]) (st := [.int r]) (mc := 0) (ms := 0) (pc := 998) C (fun _ _ l => (p_altered h2 l).x ⟨rfl, rfl⟩) kY_X12_altered kw_7_157 kw_7_158 kw_7_156 rfl ⟨Nat.le_of_ble_eq_true rfl, Nat.le_of_ble_eq_true rfl⟩ rfl rfl ⟨by show 100 + 30 * j + 0 + 0 ≤ 600000; omega, by show 22000 + 677 * j + 0 + 0 ≤ 7302250; omega⟩ rfl 0 rfl rfl rfl (Nat.le_of_ble_eq_true rfl) dL_law_998 (fun _ o w2 hw2 => ?_)
  obtain ⟨rfl, rfl⟩ := hw2
  refine r_perm (ws' := w1 ++ mw g q M') k_p2 ?_
  refine r_eqT 1834 (pc := 1001) C dL_law_1001 (by decide) ?_
  refine r_widen (a' := 100 + 30 * (j + 1)) (b' := 22000 + 677 * (j + 1)) (by show 100 + 30 * j + 0 + 0 ≤ _; omega) (by show 22000 + 677 * j + 0 + 0 ≤ _; omega) ?_
  exact tl T' M' w1 h3 hw
set_option maxRecDepth 100000 in
set_option maxHeartbeats 4000000 in
theorem la_22 {X : KX} {g : KG} {b L a1 : Nat} {q : Nat → Nat} {xs : Nat → Int32} {j : Nat} (C : kC X g cL_law "MarkChainsLaw" room_1 4) (hs : kScr X b L xs) (hj : 6 * j + 6 ≤ L) (hL : L ≤ 3072) {RL : XS → MS → Prop} (hop : ∀ (T : XS) (M : MS) (a1 : Int32) (a2 : Int32) (a3 : Int32) (a4 : Int32), RL T M → ∃ (r : Int32) (T' : XS) (M' : MS), fo_list T a1 a2 a3 a4 = some (r, T') ∧ fm_list M a1 a2 a3 a4 = some (r, M') ∧ RL T' M') (tl : ∀ (T' : XS) (M' : MS) (w1 : va_W), RL T' M' → cF g a1 T' w1 → jJ X g () (w1 ++ mw g q M') (100 + 30 * (j + 1)) (22000 + 677 * (j + 1)) 1834 [(0, .ref b), (1, .ref a1), (2, .ref (q 0)), (3, .int (nI (6 * j)))] [] (some ())) (T : XS) (M : MS) (w : va_W) (hRL : RL T M) (hT : cF g a1 T w) : jJ X g () (w ++ mw g q M) (100 + 30 * j) (22000 + 677 * j) 1006 [(0, .ref b), (1, .ref a1), (2, .ref (q 0)), (3, .int (nI (6 * j)))] [] (some ()) := by
  obtain ⟨r, T', M', h1, h2, h3⟩ := hop T M (xs (nI (6 * j) + 1).toNatClampNeg) (xs (nI (6 * j) + 2).toNatClampNeg) (xs (nI (6 * j) + 3).toNatClampNeg) (xs (nI (6 * j) + 4).toNatClampNeg) hRL
  obtain ⟨fs, he⟩ := cF_head hT
  refine r_aload_n (pc := 1006) C dL_law_1006 1 rfl ?_
  refine r_aload_n (pc := 1007) C dL_law_1007 0 rfl ?_
  refine r_iload_n (pc := 1008) C dL_law_1008 3 rfl ?_
  refine r_iconst (pc := 1009) C dL_law_1009 (v := 1) (by decide) ?_
  refine r_iadd (pc := 1010) C dL_law_1010 ?_
  refine r_sld (pc := 1011) C hs (vin_k (k := 1) hj hL (by decide)) dL_law_1011 ?_
  refine r_aload_n (pc := 1012) C dL_law_1012 0 rfl ?_
  refine r_iload_n (pc := 1013) C dL_law_1013 3 rfl ?_
  refine r_iconst (pc := 1014) C dL_law_1014 (v := 2) (by decide) ?_
  refine r_iadd (pc := 1015) C dL_law_1015 ?_
  refine r_sld (pc := 1016) C hs (vin_k (k := 2) hj hL (by decide)) dL_law_1016 ?_
  refine r_aload_n (pc := 1017) C dL_law_1017 0 rfl ?_
  refine r_iload_n (pc := 1018) C dL_law_1018 3 rfl ?_
  refine r_iconst (pc := 1019) C dL_law_1019 (v := 3) (by decide) ?_
  refine r_iadd (pc := 1020) C dL_law_1020 ?_
  refine r_sld (pc := 1021) C hs (vin_k (k := 3) hj hL (by decide)) dL_law_1021 ?_
  refine r_aload_n (pc := 1022) C dL_law_1022 0 rfl ?_
  refine r_iload_n (pc := 1023) C dL_law_1023 3 rfl ?_
  refine r_iconst (pc := 1024) C dL_law_1024 (v := 4) (by decide) ?_
  refine r_iadd (pc := 1025) C dL_law_1025 ?_
  refine r_sld (pc := 1026) C hs (vin_k (k := 4) hj hL (by decide)) dL_law_1026 ?_
  refine (?_ : jJ X g () _ _ _ _ _ _ (bp (some ()) (fun _ => some ())))
  refine r_cVx (α := Unit) (fN := some ()) (Φ := fun _ o w => o = some (.int r) ∧ cF g a1 T' w) (wc := w) (wr := mw g q M) (As := [.int (xs (nI (6 * j) + 1).toNatClampNeg), .int (xs (nI (6 * j) + 2).toNatClampNeg), .int (xs (nI (6 * j) + 3).toNatClampNeg), .int (xs (nI (6 * j) + 4).toNatClampNeg)]) (st := []) (mc := 0) (ms := 0) (pc := 1027) C (fun _ _ => o_list hT h1) kY_X11_list kw_4_220 kw_4_221 kw_4_219 rfl ⟨Nat.le_of_ble_eq_true rfl, Nat.le_of_ble_eq_true rfl⟩ rfl rfl ⟨by show 100 + 30 * j + 0 ≤ 600000; omega, by show 22000 + 677 * j + 0 ≤ 7302250; omega⟩ rfl 0 he rfl rfl (Nat.le_of_ble_eq_true rfl) dL_law_1027 (fun _ o w1 hw => ?_)
  obtain ⟨rfl, hw⟩ := hw
  refine r_aload_n (pc := 1030) C dL_law_1030 2 rfl ?_
  refine r_aload_n (pc := 1031) C dL_law_1031 0 rfl ?_
  refine r_iload_n (pc := 1032) C dL_law_1032 3 rfl ?_
  refine r_iconst (pc := 1033) C dL_law_1033 (v := 1) (by decide) ?_
  refine r_iadd (pc := 1034) C dL_law_1034 ?_
  refine r_sld (pc := 1035) C hs (vin_k (k := 1) hj hL (by decide)) dL_law_1035 ?_
  refine r_aload_n (pc := 1036) C dL_law_1036 0 rfl ?_
  refine r_iload_n (pc := 1037) C dL_law_1037 3 rfl ?_
  refine r_iconst (pc := 1038) C dL_law_1038 (v := 2) (by decide) ?_
  refine r_iadd (pc := 1039) C dL_law_1039 ?_
  refine r_sld (pc := 1040) C hs (vin_k (k := 2) hj hL (by decide)) dL_law_1040 ?_
  refine r_aload_n (pc := 1041) C dL_law_1041 0 rfl ?_
  refine r_iload_n (pc := 1042) C dL_law_1042 3 rfl ?_
  refine r_iconst (pc := 1043) C dL_law_1043 (v := 3) (by decide) ?_
  refine r_iadd (pc := 1044) C dL_law_1044 ?_
  refine r_sld (pc := 1045) C hs (vin_k (k := 3) hj hL (by decide)) dL_law_1045 ?_
  refine r_aload_n (pc := 1046) C dL_law_1046 0 rfl ?_
  refine r_iload_n (pc := 1047) C dL_law_1047 3 rfl ?_
  refine r_iconst (pc := 1048) C dL_law_1048 (v := 4) (by decide) ?_
  refine r_iadd (pc := 1049) C dL_law_1049 ?_
  refine r_sld (pc := 1050) C hs (vin_k (k := 4) hj hL (by decide)) dL_law_1050 ?_
  refine r_perm (ws' := mw g q M ++ w1) k_p2 ?_
  refine (?_ : jJ X g () _ _ _ _ _ _ (bp (some ()) (fun _ => some ())))
  refine r_cVx (α := Unit) (fN := some ()) (Φ := fun _ o w => o = some (.int r) ∧ w = mw g q M') (wc := mw g q M) (wr := w1) (As := [.int (xs (nI (6 * j) + 1).toNatClampNeg), .int (xs (nI (6 * j) + 2).toNatClampNeg), .int (xs (nI (6 * j) + 3).toNatClampNeg), .int (xs (nI (6 * j) + 4).toNatClampNeg)]) (st := [.int r]) (mc := 0) (ms := 0) (pc := 1051) C (fun _ _ l => (p_list h2 l).x ⟨rfl, rfl⟩) kY_X12_list kw_7_173 kw_7_174 kw_7_172 rfl ⟨Nat.le_of_ble_eq_true rfl, Nat.le_of_ble_eq_true rfl⟩ rfl rfl ⟨by show 100 + 30 * j + 0 + 0 ≤ 600000; omega, by show 22000 + 677 * j + 0 + 0 ≤ 7302250; omega⟩ rfl 0 rfl rfl rfl (Nat.le_of_ble_eq_true rfl) dL_law_1051 (fun _ o w2 hw2 => ?_)
  obtain ⟨rfl, rfl⟩ := hw2
  refine r_perm (ws' := w1 ++ mw g q M') k_p2 ?_
  refine r_eqT 1834 (pc := 1054) C dL_law_1054 (by decide) ?_
  refine r_widen (a' := 100 + 30 * (j + 1)) (b' := 22000 + 677 * (j + 1)) (by show 100 + 30 * j + 0 + 0 ≤ _; omega) (by show 22000 + 677 * j + 0 + 0 ≤ _; omega) ?_
  exact tl T' M' w1 h3 hw
set_option maxRecDepth 100000 in
set_option maxHeartbeats 4000000 in
theorem la_23 {X : KX} {g : KG} {b L a1 : Nat} {q : Nat → Nat} {xs : Nat → Int32} {j : Nat} (C : kC X g cL_law "MarkChainsLaw" room_1 4) (hs : kScr X b L xs) (hj : 6 * j + 6 ≤ L) (hL : L ≤ 3072) {RL : XS → MS → Prop} (hop : ∀ (T : XS) (M : MS) (a1 : Int32) (a2 : Int32), RL T M → ∃ (r : Int32) (T' : XS) (M' : MS), fo_rank T a1 a2 = some (r, T') ∧ fm_rank M a1 a2 = some (r, M') ∧ RL T' M') (tl : ∀ (T' : XS) (M' : MS) (w1 : va_W), RL T' M' → cF g a1 T' w1 → jJ X g () (w1 ++ mw g q M') (100 + 30 * (j + 1)) (22000 + 677 * (j + 1)) 1834 [(0, .ref b), (1, .ref a1), (2, .ref (q 0)), (3, .int (nI (6 * j)))] [] (some ())) (T : XS) (M : MS) (w : va_W) (hRL : RL T M) (hT : cF g a1 T w) : jJ X g () (w ++ mw g q M) (100 + 30 * j) (22000 + 677 * j) 1059 [(0, .ref b), (1, .ref a1), (2, .ref (q 0)), (3, .int (nI (6 * j)))] [] (some ()) := by
  obtain ⟨r, T', M', h1, h2, h3⟩ := hop T M (xs (nI (6 * j) + 1).toNatClampNeg) (xs (nI (6 * j) + 2).toNatClampNeg) hRL
  obtain ⟨fs, he⟩ := cF_head hT
  refine r_aload_n (pc := 1059) C dL_law_1059 1 rfl ?_
  refine r_aload_n (pc := 1060) C dL_law_1060 0 rfl ?_
  refine r_iload_n (pc := 1061) C dL_law_1061 3 rfl ?_
  refine r_iconst (pc := 1062) C dL_law_1062 (v := 1) (by decide) ?_
  refine r_iadd (pc := 1063) C dL_law_1063 ?_
  refine r_sld (pc := 1064) C hs (vin_k (k := 1) hj hL (by decide)) dL_law_1064 ?_
  refine r_aload_n (pc := 1065) C dL_law_1065 0 rfl ?_
  refine r_iload_n (pc := 1066) C dL_law_1066 3 rfl ?_
  refine r_iconst (pc := 1067) C dL_law_1067 (v := 2) (by decide) ?_
  refine r_iadd (pc := 1068) C dL_law_1068 ?_
  refine r_sld (pc := 1069) C hs (vin_k (k := 2) hj hL (by decide)) dL_law_1069 ?_
  refine (?_ : jJ X g () _ _ _ _ _ _ (bp (some ()) (fun _ => some ())))
  refine r_cVx (α := Unit) (fN := some ()) (Φ := fun _ o w => o = some (.int r) ∧ cF g a1 T' w) (wc := w) (wr := mw g q M) (As := [.int (xs (nI (6 * j) + 1).toNatClampNeg), .int (xs (nI (6 * j) + 2).toNatClampNeg)]) (st := []) (mc := 0) (ms := 0) (pc := 1070) C (fun _ _ => o_rank hT h1) kY_X11_rank kw_4_235 kw_4_236 kw_4_234 rfl ⟨Nat.le_of_ble_eq_true rfl, Nat.le_of_ble_eq_true rfl⟩ rfl rfl ⟨by show 100 + 30 * j + 0 ≤ 600000; omega, by show 22000 + 677 * j + 0 ≤ 7302250; omega⟩ rfl 0 he rfl rfl (Nat.le_of_ble_eq_true rfl) dL_law_1070 (fun _ o w1 hw => ?_)
  obtain ⟨rfl, hw⟩ := hw
  refine r_aload_n (pc := 1073) C dL_law_1073 2 rfl ?_
  refine r_aload_n (pc := 1074) C dL_law_1074 0 rfl ?_
  refine r_iload_n (pc := 1075) C dL_law_1075 3 rfl ?_
  refine r_iconst (pc := 1076) C dL_law_1076 (v := 1) (by decide) ?_
  refine r_iadd (pc := 1077) C dL_law_1077 ?_
  refine r_sld (pc := 1078) C hs (vin_k (k := 1) hj hL (by decide)) dL_law_1078 ?_
  refine r_aload_n (pc := 1079) C dL_law_1079 0 rfl ?_
  refine r_iload_n (pc := 1080) C dL_law_1080 3 rfl ?_
  refine r_iconst (pc := 1081) C dL_law_1081 (v := 2) (by decide) ?_
  refine r_iadd (pc := 1082) C dL_law_1082 ?_
  refine r_sld (pc := 1083) C hs (vin_k (k := 2) hj hL (by decide)) dL_law_1083 ?_
  refine r_perm (ws' := mw g q M ++ w1) k_p2 ?_
  refine (?_ : jJ X g () _ _ _ _ _ _ (bp (some ()) (fun _ => some ())))
  refine r_cVx (α := Unit) (fN := some ()) (Φ := fun _ o w => o = some (.int r) ∧ w = mw g q M') (wc := mw g q M) (wr := w1) (As := [.int (xs (nI (6 * j) + 1).toNatClampNeg), .int (xs (nI (6 * j) + 2).toNatClampNeg)]) (st := [.int r]) (mc := 0) (ms := 0) (pc := 1084) C (fun _ _ l => (p_rank h2 l).x ⟨rfl, rfl⟩) kY_X12_rank kw_7_185 kw_7_186 kw_7_184 rfl ⟨Nat.le_of_ble_eq_true rfl, Nat.le_of_ble_eq_true rfl⟩ rfl rfl ⟨by show 100 + 30 * j + 0 + 0 ≤ 600000; omega, by show 22000 + 677 * j + 0 + 0 ≤ 7302250; omega⟩ rfl 0 rfl rfl rfl (Nat.le_of_ble_eq_true rfl) dL_law_1084 (fun _ o w2 hw2 => ?_)
  obtain ⟨rfl, rfl⟩ := hw2
  refine r_perm (ws' := w1 ++ mw g q M') k_p2 ?_
  refine r_eqT 1834 (pc := 1087) C dL_law_1087 (by decide) ?_
  refine r_widen (a' := 100 + 30 * (j + 1)) (b' := 22000 + 677 * (j + 1)) (by show 100 + 30 * j + 0 + 0 ≤ _; omega) (by show 22000 + 677 * j + 0 + 0 ≤ _; omega) ?_
  exact tl T' M' w1 h3 hw
set_option maxRecDepth 100000 in
set_option maxHeartbeats 4000000 in
theorem la_24 {X : KX} {g : KG} {b L a1 : Nat} {q : Nat → Nat} {xs : Nat → Int32} {j : Nat} (C : kC X g cL_law "MarkChainsLaw" room_1 4) (hs : kScr X b L xs) (hj : 6 * j + 6 ≤ L) (hL : L ≤ 3072) {RL : XS → MS → Prop} (hop : ∀ (T : XS) (M : MS) (a1 : Int32) (a2 : Int32) (a3 : Int32), RL T M → ∃ (r : Int32) (T' : XS) (M' : MS), fo_wished T a1 a2 a3 = some (r, T') ∧ fm_wished M a1 a2 a3 = some (r, M') ∧ RL T' M') (tl : ∀ (T' : XS) (M' : MS) (w1 : va_W), RL T' M' → cF g a1 T' w1 → jJ X g () (w1 ++ mw g q M') (100 + 30 * (j + 1)) (22000 + 677 * (j + 1)) 1834 [(0, .ref b), (1, .ref a1), (2, .ref (q 0)), (3, .int (nI (6 * j)))] [] (some ())) (T : XS) (M : MS) (w : va_W) (hRL : RL T M) (hT : cF g a1 T w) : jJ X g () (w ++ mw g q M) (100 + 30 * j) (22000 + 677 * j) 1092 [(0, .ref b), (1, .ref a1), (2, .ref (q 0)), (3, .int (nI (6 * j)))] [] (some ()) := by
  obtain ⟨r, T', M', h1, h2, h3⟩ := hop T M (xs (nI (6 * j) + 1).toNatClampNeg) (xs (nI (6 * j) + 2).toNatClampNeg) (xs (nI (6 * j) + 3).toNatClampNeg) hRL
  obtain ⟨fs, he⟩ := cF_head hT
  refine r_aload_n (pc := 1092) C dL_law_1092 1 rfl ?_
  refine r_aload_n (pc := 1093) C dL_law_1093 0 rfl ?_
  refine r_iload_n (pc := 1094) C dL_law_1094 3 rfl ?_
  refine r_iconst (pc := 1095) C dL_law_1095 (v := 1) (by decide) ?_
  refine r_iadd (pc := 1096) C dL_law_1096 ?_
  refine r_sld (pc := 1097) C hs (vin_k (k := 1) hj hL (by decide)) dL_law_1097 ?_
  refine r_aload_n (pc := 1098) C dL_law_1098 0 rfl ?_
  refine r_iload_n (pc := 1099) C dL_law_1099 3 rfl ?_
  refine r_iconst (pc := 1100) C dL_law_1100 (v := 2) (by decide) ?_
  refine r_iadd (pc := 1101) C dL_law_1101 ?_
  refine r_sld (pc := 1102) C hs (vin_k (k := 2) hj hL (by decide)) dL_law_1102 ?_
  refine r_aload_n (pc := 1103) C dL_law_1103 0 rfl ?_
  refine r_iload_n (pc := 1104) C dL_law_1104 3 rfl ?_
  refine r_iconst (pc := 1105) C dL_law_1105 (v := 3) (by decide) ?_
  refine r_iadd (pc := 1106) C dL_law_1106 ?_
  refine r_sld (pc := 1107) C hs (vin_k (k := 3) hj hL (by decide)) dL_law_1107 ?_
  refine (?_ : jJ X g () _ _ _ _ _ _ (bp (some ()) (fun _ => some ())))
  refine r_cVx (α := Unit) (fN := some ()) (Φ := fun _ o w => o = some (.int r) ∧ cF g a1 T' w) (wc := w) (wr := mw g q M) (As := [.int (xs (nI (6 * j) + 1).toNatClampNeg), .int (xs (nI (6 * j) + 2).toNatClampNeg), .int (xs (nI (6 * j) + 3).toNatClampNeg)]) (st := []) (mc := 0) (ms := 0) (pc := 1108) C (fun _ _ => o_wished hT h1) kY_X11_wished kw_5_0 kw_5_1 kw_4_239 rfl ⟨Nat.le_of_ble_eq_true rfl, Nat.le_of_ble_eq_true rfl⟩ rfl rfl ⟨by show 100 + 30 * j + 0 ≤ 600000; omega, by show 22000 + 677 * j + 0 ≤ 7302250; omega⟩ rfl 0 he rfl rfl (Nat.le_of_ble_eq_true rfl) dL_law_1108 (fun _ o w1 hw => ?_)
  obtain ⟨rfl, hw⟩ := hw
  refine r_aload_n (pc := 1111) C dL_law_1111 2 rfl ?_
  refine r_aload_n (pc := 1112) C dL_law_1112 0 rfl ?_
  refine r_iload_n (pc := 1113) C dL_law_1113 3 rfl ?_
  refine r_iconst (pc := 1114) C dL_law_1114 (v := 1) (by decide) ?_
  refine r_iadd (pc := 1115) C dL_law_1115 ?_
  refine r_sld (pc := 1116) C hs (vin_k (k := 1) hj hL (by decide)) dL_law_1116 ?_
  refine r_aload_n (pc := 1117) C dL_law_1117 0 rfl ?_
  refine r_iload_n (pc := 1118) C dL_law_1118 3 rfl ?_
  refine r_iconst (pc := 1119) C dL_law_1119 (v := 2) (by decide) ?_
  refine r_iadd (pc := 1120) C dL_law_1120 ?_
  refine r_sld (pc := 1121) C hs (vin_k (k := 2) hj hL (by decide)) dL_law_1121 ?_
  refine r_aload_n (pc := 1122) C dL_law_1122 0 rfl ?_
  refine r_iload_n (pc := 1123) C dL_law_1123 3 rfl ?_
  refine r_iconst (pc := 1124) C dL_law_1124 (v := 3) (by decide) ?_
  refine r_iadd (pc := 1125) C dL_law_1125 ?_
  refine r_sld (pc := 1126) C hs (vin_k (k := 3) hj hL (by decide)) dL_law_1126 ?_
  refine r_perm (ws' := mw g q M ++ w1) k_p2 ?_
  refine (?_ : jJ X g () _ _ _ _ _ _ (bp (some ()) (fun _ => some ())))
  refine r_cVx (α := Unit) (fN := some ()) (Φ := fun _ o w => o = some (.int r) ∧ w = mw g q M') (wc := mw g q M) (wr := w1) (As := [.int (xs (nI (6 * j) + 1).toNatClampNeg), .int (xs (nI (6 * j) + 2).toNatClampNeg), .int (xs (nI (6 * j) + 3).toNatClampNeg)]) (st := [.int r]) (mc := 0) (ms := 0) (pc := 1127) C (fun _ _ l => (p_wished h2 l).x ⟨rfl, rfl⟩) kY_X12_wished kw_7_189 kw_7_190 kw_7_188 rfl ⟨Nat.le_of_ble_eq_true rfl, Nat.le_of_ble_eq_true rfl⟩ rfl rfl ⟨by show 100 + 30 * j + 0 + 0 ≤ 600000; omega, by show 22000 + 677 * j + 0 + 0 ≤ 7302250; omega⟩ rfl 0 rfl rfl rfl (Nat.le_of_ble_eq_true rfl) dL_law_1127 (fun _ o w2 hw2 => ?_)
  obtain ⟨rfl, rfl⟩ := hw2
  refine r_perm (ws' := w1 ++ mw g q M') k_p2 ?_
  refine r_eqT 1834 (pc := 1130) C dL_law_1130 (by decide) ?_
  refine r_widen (a' := 100 + 30 * (j + 1)) (b' := 22000 + 677 * (j + 1)) (by show 100 + 30 * j + 0 + 0 ≤ _; omega) (by show 22000 + 677 * j + 0 + 0 ≤ _; omega) ?_
  exact tl T' M' w1 h3 hw
set_option maxRecDepth 100000 in
set_option maxHeartbeats 4000000 in
theorem la_25 {X : KX} {g : KG} {b L a1 : Nat} {q : Nat → Nat} {xs : Nat → Int32} {j : Nat} (C : kC X g cL_law "MarkChainsLaw" room_1 4) (hs : kScr X b L xs) (hj : 6 * j + 6 ≤ L) (hL : L ≤ 3072) {RL : XS → MS → Prop} (hop : ∀ (T : XS) (M : MS) (a1 : Int32), RL T M → ∃ (r : Int32) (T' : XS) (M' : MS), fo_would T a1 = some (r, T') ∧ fm_would M a1 = some (r, M') ∧ RL T' M') (tl : ∀ (T' : XS) (M' : MS) (w1 : va_W), RL T' M' → cF g a1 T' w1 → jJ X g () (w1 ++ mw g q M') (100 + 30 * (j + 1)) (22000 + 677 * (j + 1)) 1834 [(0, .ref b), (1, .ref a1), (2, .ref (q 0)), (3, .int (nI (6 * j)))] [] (some ())) (T : XS) (M : MS) (w : va_W) (hRL : RL T M) (hT : cF g a1 T w) : jJ X g () (w ++ mw g q M) (100 + 30 * j) (22000 + 677 * j) 1135 [(0, .ref b), (1, .ref a1), (2, .ref (q 0)), (3, .int (nI (6 * j)))] [] (some ()) := by
  obtain ⟨r, T', M', h1, h2, h3⟩ := hop T M (xs (nI (6 * j) + 1).toNatClampNeg) hRL
  obtain ⟨fs, he⟩ := cF_head hT
  refine r_aload_n (pc := 1135) C dL_law_1135 1 rfl ?_
  refine r_aload_n (pc := 1136) C dL_law_1136 0 rfl ?_
  refine r_iload_n (pc := 1137) C dL_law_1137 3 rfl ?_
  refine r_iconst (pc := 1138) C dL_law_1138 (v := 1) (by decide) ?_
  refine r_iadd (pc := 1139) C dL_law_1139 ?_
  refine r_sld (pc := 1140) C hs (vin_k (k := 1) hj hL (by decide)) dL_law_1140 ?_
  refine (?_ : jJ X g () _ _ _ _ _ _ (bp (some ()) (fun _ => some ())))
  refine r_cVx (α := Unit) (fN := some ()) (Φ := fun _ o w => o = some (.int r) ∧ cF g a1 T' w) (wc := w) (wr := mw g q M) (As := [.int (xs (nI (6 * j) + 1).toNatClampNeg)]) (st := []) (mc := 0) (ms := 0) (pc := 1141) C (fun _ _ => o_would hT h1) kY_X11_would kw_5_6 kw_5_7 kw_5_5 rfl ⟨Nat.le_of_ble_eq_true rfl, Nat.le_of_ble_eq_true rfl⟩ rfl rfl ⟨by show 100 + 30 * j + 0 ≤ 600000; omega, by show 22000 + 677 * j + 0 ≤ 7302250; omega⟩ rfl 0 he rfl rfl (Nat.le_of_ble_eq_true rfl) dL_law_1141 (fun _ o w1 hw => ?_)
  obtain ⟨rfl, hw⟩ := hw
  refine r_aload_n (pc := 1144) C dL_law_1144 2 rfl ?_
  refine r_aload_n (pc := 1145) C dL_law_1145 0 rfl ?_
  refine r_iload_n (pc := 1146) C dL_law_1146 3 rfl ?_
  refine r_iconst (pc := 1147) C dL_law_1147 (v := 1) (by decide) ?_
  refine r_iadd (pc := 1148) C dL_law_1148 ?_
  refine r_sld (pc := 1149) C hs (vin_k (k := 1) hj hL (by decide)) dL_law_1149 ?_
  refine r_perm (ws' := mw g q M ++ w1) k_p2 ?_
  refine (?_ : jJ X g () _ _ _ _ _ _ (bp (some ()) (fun _ => some ())))
  refine r_cVx (α := Unit) (fN := some ()) (Φ := fun _ o w => o = some (.int r) ∧ w = mw g q M') (wc := mw g q M) (wr := w1) (As := [.int (xs (nI (6 * j) + 1).toNatClampNeg)]) (st := [.int r]) (mc := 0) (ms := 0) (pc := 1150) C (fun _ _ l => (p_would h2 l).x ⟨rfl, rfl⟩) kY_X12_would kw_7_193 kw_7_194 kw_7_192 rfl ⟨Nat.le_of_ble_eq_true rfl, Nat.le_of_ble_eq_true rfl⟩ rfl rfl ⟨by show 100 + 30 * j + 0 + 0 ≤ 600000; omega, by show 22000 + 677 * j + 0 + 0 ≤ 7302250; omega⟩ rfl 0 rfl rfl rfl (Nat.le_of_ble_eq_true rfl) dL_law_1150 (fun _ o w2 hw2 => ?_)
  obtain ⟨rfl, rfl⟩ := hw2
  refine r_perm (ws' := w1 ++ mw g q M') k_p2 ?_
  refine r_eqT 1834 (pc := 1153) C dL_law_1153 (by decide) ?_
  refine r_widen (a' := 100 + 30 * (j + 1)) (b' := 22000 + 677 * (j + 1)) (by show 100 + 30 * j + 0 + 0 ≤ _; omega) (by show 22000 + 677 * j + 0 + 0 ≤ _; omega) ?_
  exact tl T' M' w1 h3 hw
set_option maxRecDepth 100000 in
set_option maxHeartbeats 4000000 in
theorem la_26 {X : KX} {g : KG} {b L a1 : Nat} {q : Nat → Nat} {xs : Nat → Int32} {j : Nat} (C : kC X g cL_law "MarkChainsLaw" room_1 4) (hs : kScr X b L xs) (hj : 6 * j + 6 ≤ L) (hL : L ≤ 3072) {RL : XS → MS → Prop} (hop : ∀ (T : XS) (M : MS), RL T M → ∃ (r : Int32) (T' : XS) (M' : MS), fo_score T = some (r, T') ∧ fm_score M = some (r, M') ∧ RL T' M') (tl : ∀ (T' : XS) (M' : MS) (w1 : va_W), RL T' M' → cF g a1 T' w1 → jJ X g () (w1 ++ mw g q M') (100 + 30 * (j + 1)) (22000 + 677 * (j + 1)) 1834 [(0, .ref b), (1, .ref a1), (2, .ref (q 0)), (3, .int (nI (6 * j)))] [] (some ())) (T : XS) (M : MS) (w : va_W) (hRL : RL T M) (hT : cF g a1 T w) : jJ X g () (w ++ mw g q M) (100 + 30 * j) (22000 + 677 * j) 1158 [(0, .ref b), (1, .ref a1), (2, .ref (q 0)), (3, .int (nI (6 * j)))] [] (some ()) := by
  obtain ⟨r, T', M', h1, h2, h3⟩ := hop T M hRL
  obtain ⟨fs, he⟩ := cF_head hT
  refine r_aload_n (pc := 1158) C dL_law_1158 1 rfl ?_
  refine (?_ : jJ X g () _ _ _ _ _ _ (bp (some ()) (fun _ => some ())))
  refine r_cVx (α := Unit) (fN := some ()) (Φ := fun _ o w => o = some (.int r) ∧ cF g a1 T' w) (wc := w) (wr := mw g q M) (As := []) (st := []) (mc := 5) (ms := 677) (pc := 1159) C (fun _ _ => o_score hT h1) kY_X11_score kw_5_16 kw_5_17 kw_5_15 rfl ⟨Nat.le_of_ble_eq_true rfl, Nat.le_of_ble_eq_true rfl⟩ rfl rfl ⟨by show 100 + 30 * j + 5 ≤ 600000; omega, by show 22000 + 677 * j + 677 ≤ 7302250; omega⟩ rfl 0 he rfl rfl (Nat.le_of_ble_eq_true rfl) dL_law_1159 (fun _ o w1 hw => ?_)
  obtain ⟨rfl, hw⟩ := hw
  refine r_aload_n (pc := 1162) C dL_law_1162 2 rfl ?_
  refine r_perm (ws' := mw g q M ++ w1) k_p2 ?_
  refine (?_ : jJ X g () _ _ _ _ _ _ (bp (some ()) (fun _ => some ())))
  refine r_cVx (α := Unit) (fN := some ()) (Φ := fun _ o w => o = some (.int r) ∧ w = mw g q M') (wc := mw g q M) (wr := w1) (As := []) (st := [.int r]) (mc := 0) (ms := 0) (pc := 1163) C (fun _ _ l => (p_score h2 l).x ⟨rfl, rfl⟩) kY_X12_score kw_7_2 kw_7_3 kw_7_1 rfl ⟨Nat.le_of_ble_eq_true rfl, Nat.le_of_ble_eq_true rfl⟩ rfl rfl ⟨by show 100 + 30 * j + 5 + 0 ≤ 600000; omega, by show 22000 + 677 * j + 677 + 0 ≤ 7302250; omega⟩ rfl 0 rfl rfl rfl (Nat.le_of_ble_eq_true rfl) dL_law_1163 (fun _ o w2 hw2 => ?_)
  obtain ⟨rfl, rfl⟩ := hw2
  refine r_perm (ws' := w1 ++ mw g q M') k_p2 ?_
  refine r_eqT 1834 (pc := 1166) C dL_law_1166 (by decide) ?_
  refine r_widen (a' := 100 + 30 * (j + 1)) (b' := 22000 + 677 * (j + 1)) (by show 100 + 30 * j + 5 + 0 ≤ _; omega) (by show 22000 + 677 * j + 677 + 0 ≤ _; omega) ?_
  exact tl T' M' w1 h3 hw
set_option maxRecDepth 100000 in
set_option maxHeartbeats 4000000 in
theorem la_27 {X : KX} {g : KG} {b L a1 : Nat} {q : Nat → Nat} {xs : Nat → Int32} {j : Nat} (C : kC X g cL_law "MarkChainsLaw" room_1 4) (hs : kScr X b L xs) (hj : 6 * j + 6 ≤ L) (hL : L ≤ 3072) {RL : XS → MS → Prop} (hop : ∀ (T : XS) (M : MS) (a1 : Int32), RL T M → ∃ (r : Int32) (T' : XS) (M' : MS), fo_points T a1 = some (r, T') ∧ fm_points M a1 = some (r, M') ∧ RL T' M') (tl : ∀ (T' : XS) (M' : MS) (w1 : va_W), RL T' M' → cF g a1 T' w1 → jJ X g () (w1 ++ mw g q M') (100 + 30 * (j + 1)) (22000 + 677 * (j + 1)) 1834 [(0, .ref b), (1, .ref a1), (2, .ref (q 0)), (3, .int (nI (6 * j)))] [] (some ())) (T : XS) (M : MS) (w : va_W) (hRL : RL T M) (hT : cF g a1 T w) : jJ X g () (w ++ mw g q M) (100 + 30 * j) (22000 + 677 * j) 1171 [(0, .ref b), (1, .ref a1), (2, .ref (q 0)), (3, .int (nI (6 * j)))] [] (some ()) := by
  obtain ⟨r, T', M', h1, h2, h3⟩ := hop T M (xs (nI (6 * j) + 1).toNatClampNeg) hRL
  obtain ⟨fs, he⟩ := cF_head hT
  refine r_aload_n (pc := 1171) C dL_law_1171 1 rfl ?_
  refine r_aload_n (pc := 1172) C dL_law_1172 0 rfl ?_
  refine r_iload_n (pc := 1173) C dL_law_1173 3 rfl ?_
  refine r_iconst (pc := 1174) C dL_law_1174 (v := 1) (by decide) ?_
  refine r_iadd (pc := 1175) C dL_law_1175 ?_
  refine r_sld (pc := 1176) C hs (vin_k (k := 1) hj hL (by decide)) dL_law_1176 ?_
  refine (?_ : jJ X g () _ _ _ _ _ _ (bp (some ()) (fun _ => some ())))
  refine r_cVx (α := Unit) (fN := some ()) (Φ := fun _ o w => o = some (.int r) ∧ cF g a1 T' w) (wc := w) (wr := mw g q M) (As := [.int (xs (nI (6 * j) + 1).toNatClampNeg)]) (st := []) (mc := 0) (ms := 0) (pc := 1177) C (fun _ _ => o_points hT h1) kY_X11_points kw_5_24 kw_5_25 kw_5_23 rfl ⟨Nat.le_of_ble_eq_true rfl, Nat.le_of_ble_eq_true rfl⟩ rfl rfl ⟨by show 100 + 30 * j + 0 ≤ 600000; omega, by show 22000 + 677 * j + 0 ≤ 7302250; omega⟩ rfl 0 he rfl rfl (Nat.le_of_ble_eq_true rfl) dL_law_1177 (fun _ o w1 hw => ?_)
  obtain ⟨rfl, hw⟩ := hw
  refine r_aload_n (pc := 1180) C dL_law_1180 2 rfl ?_
  refine r_aload_n (pc := 1181) C dL_law_1181 0 rfl ?_
  refine r_iload_n (pc := 1182) C dL_law_1182 3 rfl ?_
  refine r_iconst (pc := 1183) C dL_law_1183 (v := 1) (by decide) ?_
  refine r_iadd (pc := 1184) C dL_law_1184 ?_
  refine r_sld (pc := 1185) C hs (vin_k (k := 1) hj hL (by decide)) dL_law_1185 ?_
  refine r_perm (ws' := mw g q M ++ w1) k_p2 ?_
  refine (?_ : jJ X g () _ _ _ _ _ _ (bp (some ()) (fun _ => some ())))
  refine r_cVx (α := Unit) (fN := some ()) (Φ := fun _ o w => o = some (.int r) ∧ w = mw g q M') (wc := mw g q M) (wr := w1) (As := [.int (xs (nI (6 * j) + 1).toNatClampNeg)]) (st := [.int r]) (mc := 0) (ms := 0) (pc := 1186) C (fun _ _ l => (p_points h2 l).x ⟨rfl, rfl⟩) kY_X12_points kw_7_197 kw_7_198 kw_7_196 rfl ⟨Nat.le_of_ble_eq_true rfl, Nat.le_of_ble_eq_true rfl⟩ rfl rfl ⟨by show 100 + 30 * j + 0 + 0 ≤ 600000; omega, by show 22000 + 677 * j + 0 + 0 ≤ 7302250; omega⟩ rfl 0 rfl rfl rfl (Nat.le_of_ble_eq_true rfl) dL_law_1186 (fun _ o w2 hw2 => ?_)
  obtain ⟨rfl, rfl⟩ := hw2
  refine r_perm (ws' := w1 ++ mw g q M') k_p2 ?_
  refine r_eqT 1834 (pc := 1189) C dL_law_1189 (by decide) ?_
  refine r_widen (a' := 100 + 30 * (j + 1)) (b' := 22000 + 677 * (j + 1)) (by show 100 + 30 * j + 0 + 0 ≤ _; omega) (by show 22000 + 677 * j + 0 + 0 ≤ _; omega) ?_
  exact tl T' M' w1 h3 hw
set_option maxRecDepth 100000 in
set_option maxHeartbeats 4000000 in
theorem la_28 {X : KX} {g : KG} {b L a1 : Nat} {q : Nat → Nat} {xs : Nat → Int32} {j : Nat} (C : kC X g cL_law "MarkChainsLaw" room_1 4) (hs : kScr X b L xs) (hj : 6 * j + 6 ≤ L) (hL : L ≤ 3072) {RL : XS → MS → Prop} (hop : ∀ (T : XS) (M : MS) (a1 : Int32) (a2 : Int32), RL T M → ∃ (r : Int32) (T' : XS) (M' : MS), fo_champion T a1 a2 = some (r, T') ∧ fm_champion M a1 a2 = some (r, M') ∧ RL T' M') (tl : ∀ (T' : XS) (M' : MS) (w1 : va_W), RL T' M' → cF g a1 T' w1 → jJ X g () (w1 ++ mw g q M') (100 + 30 * (j + 1)) (22000 + 677 * (j + 1)) 1834 [(0, .ref b), (1, .ref a1), (2, .ref (q 0)), (3, .int (nI (6 * j)))] [] (some ())) (T : XS) (M : MS) (w : va_W) (hRL : RL T M) (hT : cF g a1 T w) : jJ X g () (w ++ mw g q M) (100 + 30 * j) (22000 + 677 * j) 1194 [(0, .ref b), (1, .ref a1), (2, .ref (q 0)), (3, .int (nI (6 * j)))] [] (some ()) := by
  obtain ⟨r, T', M', h1, h2, h3⟩ := hop T M (xs (nI (6 * j) + 1).toNatClampNeg) (xs (nI (6 * j) + 2).toNatClampNeg) hRL
  obtain ⟨fs, he⟩ := cF_head hT
  refine r_aload_n (pc := 1194) C dL_law_1194 1 rfl ?_
  refine r_aload_n (pc := 1195) C dL_law_1195 0 rfl ?_
  refine r_iload_n (pc := 1196) C dL_law_1196 3 rfl ?_
  refine r_iconst (pc := 1197) C dL_law_1197 (v := 1) (by decide) ?_
  refine r_iadd (pc := 1198) C dL_law_1198 ?_
  refine r_sld (pc := 1199) C hs (vin_k (k := 1) hj hL (by decide)) dL_law_1199 ?_
  refine r_aload_n (pc := 1200) C dL_law_1200 0 rfl ?_
  refine r_iload_n (pc := 1201) C dL_law_1201 3 rfl ?_
  refine r_iconst (pc := 1202) C dL_law_1202 (v := 2) (by decide) ?_
  refine r_iadd (pc := 1203) C dL_law_1203 ?_
  refine r_sld (pc := 1204) C hs (vin_k (k := 2) hj hL (by decide)) dL_law_1204 ?_
  refine (?_ : jJ X g () _ _ _ _ _ _ (bp (some ()) (fun _ => some ())))
  refine r_cVx (α := Unit) (fN := some ()) (Φ := fun _ o w => o = some (.int r) ∧ cF g a1 T' w) (wc := w) (wr := mw g q M) (As := [.int (xs (nI (6 * j) + 1).toNatClampNeg), .int (xs (nI (6 * j) + 2).toNatClampNeg)]) (st := []) (mc := 0) (ms := 0) (pc := 1205) C (fun _ _ => o_champion hT h1) kY_X11_champion kw_5_33 kw_5_34 kw_5_32 rfl ⟨Nat.le_of_ble_eq_true rfl, Nat.le_of_ble_eq_true rfl⟩ rfl rfl ⟨by show 100 + 30 * j + 0 ≤ 600000; omega, by show 22000 + 677 * j + 0 ≤ 7302250; omega⟩ rfl 0 he rfl rfl (Nat.le_of_ble_eq_true rfl) dL_law_1205 (fun _ o w1 hw => ?_)
  obtain ⟨rfl, hw⟩ := hw
  refine r_aload_n (pc := 1208) C dL_law_1208 2 rfl ?_
  refine r_aload_n (pc := 1209) C dL_law_1209 0 rfl ?_
  refine r_iload_n (pc := 1210) C dL_law_1210 3 rfl ?_
  refine r_iconst (pc := 1211) C dL_law_1211 (v := 1) (by decide) ?_
  refine r_iadd (pc := 1212) C dL_law_1212 ?_
  refine r_sld (pc := 1213) C hs (vin_k (k := 1) hj hL (by decide)) dL_law_1213 ?_
  refine r_aload_n (pc := 1214) C dL_law_1214 0 rfl ?_
  refine r_iload_n (pc := 1215) C dL_law_1215 3 rfl ?_
  refine r_iconst (pc := 1216) C dL_law_1216 (v := 2) (by decide) ?_
  refine r_iadd (pc := 1217) C dL_law_1217 ?_
  refine r_sld (pc := 1218) C hs (vin_k (k := 2) hj hL (by decide)) dL_law_1218 ?_
  refine r_perm (ws' := mw g q M ++ w1) k_p2 ?_
  refine (?_ : jJ X g () _ _ _ _ _ _ (bp (some ()) (fun _ => some ())))
  refine r_cVx (α := Unit) (fN := some ()) (Φ := fun _ o w => o = some (.int r) ∧ w = mw g q M') (wc := mw g q M) (wr := w1) (As := [.int (xs (nI (6 * j) + 1).toNatClampNeg), .int (xs (nI (6 * j) + 2).toNatClampNeg)]) (st := [.int r]) (mc := 0) (ms := 0) (pc := 1219) C (fun _ _ l => (p_champion h2 l).x ⟨rfl, rfl⟩) kY_X12_champion kw_7_205 kw_7_206 kw_7_204 rfl ⟨Nat.le_of_ble_eq_true rfl, Nat.le_of_ble_eq_true rfl⟩ rfl rfl ⟨by show 100 + 30 * j + 0 + 0 ≤ 600000; omega, by show 22000 + 677 * j + 0 + 0 ≤ 7302250; omega⟩ rfl 0 rfl rfl rfl (Nat.le_of_ble_eq_true rfl) dL_law_1219 (fun _ o w2 hw2 => ?_)
  obtain ⟨rfl, rfl⟩ := hw2
  refine r_perm (ws' := w1 ++ mw g q M') k_p2 ?_
  refine r_eqT 1834 (pc := 1222) C dL_law_1222 (by decide) ?_
  refine r_widen (a' := 100 + 30 * (j + 1)) (b' := 22000 + 677 * (j + 1)) (by show 100 + 30 * j + 0 + 0 ≤ _; omega) (by show 22000 + 677 * j + 0 + 0 ≤ _; omega) ?_
  exact tl T' M' w1 h3 hw
set_option maxRecDepth 100000 in
set_option maxHeartbeats 4000000 in
theorem la_29 {X : KX} {g : KG} {b L a1 : Nat} {q : Nat → Nat} {xs : Nat → Int32} {j : Nat} (C : kC X g cL_law "MarkChainsLaw" room_1 4) (hs : kScr X b L xs) (hj : 6 * j + 6 ≤ L) (hL : L ≤ 3072) {RL : XS → MS → Prop} (hop : ∀ (T : XS) (M : MS) (a1 : Int32) (a2 : Int32), RL T M → ∃ (r : Int32) (T' : XS) (M' : MS), fo_table T a1 a2 = some (r, T') ∧ fm_table M a1 a2 = some (r, M') ∧ RL T' M') (tl : ∀ (T' : XS) (M' : MS) (w1 : va_W), RL T' M' → cF g a1 T' w1 → jJ X g () (w1 ++ mw g q M') (100 + 30 * (j + 1)) (22000 + 677 * (j + 1)) 1834 [(0, .ref b), (1, .ref a1), (2, .ref (q 0)), (3, .int (nI (6 * j)))] [] (some ())) (T : XS) (M : MS) (w : va_W) (hRL : RL T M) (hT : cF g a1 T w) : jJ X g () (w ++ mw g q M) (100 + 30 * j) (22000 + 677 * j) 1227 [(0, .ref b), (1, .ref a1), (2, .ref (q 0)), (3, .int (nI (6 * j)))] [] (some ()) := by
  obtain ⟨r, T', M', h1, h2, h3⟩ := hop T M (xs (nI (6 * j) + 1).toNatClampNeg) (xs (nI (6 * j) + 2).toNatClampNeg) hRL
  obtain ⟨fs, he⟩ := cF_head hT
  refine r_aload_n (pc := 1227) C dL_law_1227 1 rfl ?_
  refine r_aload_n (pc := 1228) C dL_law_1228 0 rfl ?_
  refine r_iload_n (pc := 1229) C dL_law_1229 3 rfl ?_
  refine r_iconst (pc := 1230) C dL_law_1230 (v := 1) (by decide) ?_
  refine r_iadd (pc := 1231) C dL_law_1231 ?_
  refine r_sld (pc := 1232) C hs (vin_k (k := 1) hj hL (by decide)) dL_law_1232 ?_
  refine r_aload_n (pc := 1233) C dL_law_1233 0 rfl ?_
  refine r_iload_n (pc := 1234) C dL_law_1234 3 rfl ?_
  refine r_iconst (pc := 1235) C dL_law_1235 (v := 2) (by decide) ?_
  refine r_iadd (pc := 1236) C dL_law_1236 ?_
  refine r_sld (pc := 1237) C hs (vin_k (k := 2) hj hL (by decide)) dL_law_1237 ?_
  refine (?_ : jJ X g () _ _ _ _ _ _ (bp (some ()) (fun _ => some ())))
  refine r_cVx (α := Unit) (fN := some ()) (Φ := fun _ o w => o = some (.int r) ∧ cF g a1 T' w) (wc := w) (wr := mw g q M) (As := [.int (xs (nI (6 * j) + 1).toNatClampNeg), .int (xs (nI (6 * j) + 2).toNatClampNeg)]) (st := []) (mc := 0) (ms := 0) (pc := 1238) C (fun _ _ => o_table hT h1) kY_X11_table kw_5_43 kw_5_44 kw_5_42 rfl ⟨Nat.le_of_ble_eq_true rfl, Nat.le_of_ble_eq_true rfl⟩ rfl rfl ⟨by show 100 + 30 * j + 0 ≤ 600000; omega, by show 22000 + 677 * j + 0 ≤ 7302250; omega⟩ rfl 0 he rfl rfl (Nat.le_of_ble_eq_true rfl) dL_law_1238 (fun _ o w1 hw => ?_)
  obtain ⟨rfl, hw⟩ := hw
  refine r_aload_n (pc := 1241) C dL_law_1241 2 rfl ?_
  refine r_aload_n (pc := 1242) C dL_law_1242 0 rfl ?_
  refine r_iload_n (pc := 1243) C dL_law_1243 3 rfl ?_
  refine r_iconst (pc := 1244) C dL_law_1244 (v := 1) (by decide) ?_
  refine r_iadd (pc := 1245) C dL_law_1245 ?_
  refine r_sld (pc := 1246) C hs (vin_k (k := 1) hj hL (by decide)) dL_law_1246 ?_
  refine r_aload_n (pc := 1247) C dL_law_1247 0 rfl ?_
  refine r_iload_n (pc := 1248) C dL_law_1248 3 rfl ?_
  refine r_iconst (pc := 1249) C dL_law_1249 (v := 2) (by decide) ?_
  refine r_iadd (pc := 1250) C dL_law_1250 ?_
  refine r_sld (pc := 1251) C hs (vin_k (k := 2) hj hL (by decide)) dL_law_1251 ?_
  refine r_perm (ws' := mw g q M ++ w1) k_p2 ?_
  refine (?_ : jJ X g () _ _ _ _ _ _ (bp (some ()) (fun _ => some ())))
  refine r_cVx (α := Unit) (fN := some ()) (Φ := fun _ o w => o = some (.int r) ∧ w = mw g q M') (wc := mw g q M) (wr := w1) (As := [.int (xs (nI (6 * j) + 1).toNatClampNeg), .int (xs (nI (6 * j) + 2).toNatClampNeg)]) (st := [.int r]) (mc := 0) (ms := 0) (pc := 1252) C (fun _ _ l => (p_table h2 l).x ⟨rfl, rfl⟩) kY_X12_table kw_7_217 kw_7_218 kw_7_216 rfl ⟨Nat.le_of_ble_eq_true rfl, Nat.le_of_ble_eq_true rfl⟩ rfl rfl ⟨by show 100 + 30 * j + 0 + 0 ≤ 600000; omega, by show 22000 + 677 * j + 0 + 0 ≤ 7302250; omega⟩ rfl 0 rfl rfl rfl (Nat.le_of_ble_eq_true rfl) dL_law_1252 (fun _ o w2 hw2 => ?_)
  obtain ⟨rfl, rfl⟩ := hw2
  refine r_perm (ws' := w1 ++ mw g q M') k_p2 ?_
  refine r_eqT 1834 (pc := 1255) C dL_law_1255 (by decide) ?_
  refine r_widen (a' := 100 + 30 * (j + 1)) (b' := 22000 + 677 * (j + 1)) (by show 100 + 30 * j + 0 + 0 ≤ _; omega) (by show 22000 + 677 * j + 0 + 0 ≤ _; omega) ?_
  exact tl T' M' w1 h3 hw
set_option maxRecDepth 100000 in
set_option maxHeartbeats 4000000 in
theorem la_30 {X : KX} {g : KG} {b L a1 : Nat} {q : Nat → Nat} {xs : Nat → Int32} {j : Nat} (C : kC X g cL_law "MarkChainsLaw" room_1 4) (hs : kScr X b L xs) (hj : 6 * j + 6 ≤ L) (hL : L ≤ 3072) {RL : XS → MS → Prop} (hop : ∀ (T : XS) (M : MS) (a1 : Int32), RL T M → ∃ (r : Int32) (T' : XS) (M' : MS), fo_placed T a1 = some (r, T') ∧ fm_placed M a1 = some (r, M') ∧ RL T' M') (tl : ∀ (T' : XS) (M' : MS) (w1 : va_W), RL T' M' → cF g a1 T' w1 → jJ X g () (w1 ++ mw g q M') (100 + 30 * (j + 1)) (22000 + 677 * (j + 1)) 1834 [(0, .ref b), (1, .ref a1), (2, .ref (q 0)), (3, .int (nI (6 * j)))] [] (some ())) (T : XS) (M : MS) (w : va_W) (hRL : RL T M) (hT : cF g a1 T w) : jJ X g () (w ++ mw g q M) (100 + 30 * j) (22000 + 677 * j) 1260 [(0, .ref b), (1, .ref a1), (2, .ref (q 0)), (3, .int (nI (6 * j)))] [] (some ()) := by
  obtain ⟨r, T', M', h1, h2, h3⟩ := hop T M (xs (nI (6 * j) + 1).toNatClampNeg) hRL
  obtain ⟨fs, he⟩ := cF_head hT
  refine r_aload_n (pc := 1260) C dL_law_1260 1 rfl ?_
  refine r_aload_n (pc := 1261) C dL_law_1261 0 rfl ?_
  refine r_iload_n (pc := 1262) C dL_law_1262 3 rfl ?_
  refine r_iconst (pc := 1263) C dL_law_1263 (v := 1) (by decide) ?_
  refine r_iadd (pc := 1264) C dL_law_1264 ?_
  refine r_sld (pc := 1265) C hs (vin_k (k := 1) hj hL (by decide)) dL_law_1265 ?_
  refine (?_ : jJ X g () _ _ _ _ _ _ (bp (some ()) (fun _ => some ())))
  refine r_cVx (α := Unit) (fN := some ()) (Φ := fun _ o w => o = some (.int r) ∧ cF g a1 T' w) (wc := w) (wr := mw g q M) (As := [.int (xs (nI (6 * j) + 1).toNatClampNeg)]) (st := []) (mc := 0) (ms := 0) (pc := 1266) C (fun _ _ => o_placed hT h1) kY_X11_placed kw_5_47 kw_5_48 kw_5_46 rfl ⟨Nat.le_of_ble_eq_true rfl, Nat.le_of_ble_eq_true rfl⟩ rfl rfl ⟨by show 100 + 30 * j + 0 ≤ 600000; omega, by show 22000 + 677 * j + 0 ≤ 7302250; omega⟩ rfl 0 he rfl rfl (Nat.le_of_ble_eq_true rfl) dL_law_1266 (fun _ o w1 hw => ?_)
  obtain ⟨rfl, hw⟩ := hw
  refine r_aload_n (pc := 1269) C dL_law_1269 2 rfl ?_
  refine r_aload_n (pc := 1270) C dL_law_1270 0 rfl ?_
  refine r_iload_n (pc := 1271) C dL_law_1271 3 rfl ?_
  refine r_iconst (pc := 1272) C dL_law_1272 (v := 1) (by decide) ?_
  refine r_iadd (pc := 1273) C dL_law_1273 ?_
  refine r_sld (pc := 1274) C hs (vin_k (k := 1) hj hL (by decide)) dL_law_1274 ?_
  refine r_perm (ws' := mw g q M ++ w1) k_p2 ?_
  refine (?_ : jJ X g () _ _ _ _ _ _ (bp (some ()) (fun _ => some ())))
  refine r_cVx (α := Unit) (fN := some ()) (Φ := fun _ o w => o = some (.int r) ∧ w = mw g q M') (wc := mw g q M) (wr := w1) (As := [.int (xs (nI (6 * j) + 1).toNatClampNeg)]) (st := [.int r]) (mc := 0) (ms := 0) (pc := 1275) C (fun _ _ l => (p_placed h2 l).x ⟨rfl, rfl⟩) kY_X12_placed kw_7_221 kw_7_222 kw_7_220 rfl ⟨Nat.le_of_ble_eq_true rfl, Nat.le_of_ble_eq_true rfl⟩ rfl rfl ⟨by show 100 + 30 * j + 0 + 0 ≤ 600000; omega, by show 22000 + 677 * j + 0 + 0 ≤ 7302250; omega⟩ rfl 0 rfl rfl rfl (Nat.le_of_ble_eq_true rfl) dL_law_1275 (fun _ o w2 hw2 => ?_)
  obtain ⟨rfl, rfl⟩ := hw2
  refine r_perm (ws' := w1 ++ mw g q M') k_p2 ?_
  refine r_eqT 1834 (pc := 1278) C dL_law_1278 (by decide) ?_
  refine r_widen (a' := 100 + 30 * (j + 1)) (b' := 22000 + 677 * (j + 1)) (by show 100 + 30 * j + 0 + 0 ≤ _; omega) (by show 22000 + 677 * j + 0 + 0 ≤ _; omega) ?_
  exact tl T' M' w1 h3 hw
set_option maxRecDepth 100000 in
set_option maxHeartbeats 4000000 in
theorem la_31 {X : KX} {g : KG} {b L a1 : Nat} {q : Nat → Nat} {xs : Nat → Int32} {j : Nat} (C : kC X g cL_law "MarkChainsLaw" room_1 4) (hs : kScr X b L xs) (hj : 6 * j + 6 ≤ L) (hL : L ≤ 3072) {RL : XS → MS → Prop} (hop : ∀ (T : XS) (M : MS) (a1 : Int32) (a2 : Int32), RL T M → ∃ (r : Int32) (T' : XS) (M' : MS), fo_duel T a1 a2 = some (r, T') ∧ fm_duel M a1 a2 = some (r, M') ∧ RL T' M') (tl : ∀ (T' : XS) (M' : MS) (w1 : va_W), RL T' M' → cF g a1 T' w1 → jJ X g () (w1 ++ mw g q M') (100 + 30 * (j + 1)) (22000 + 677 * (j + 1)) 1834 [(0, .ref b), (1, .ref a1), (2, .ref (q 0)), (3, .int (nI (6 * j)))] [] (some ())) (T : XS) (M : MS) (w : va_W) (hRL : RL T M) (hT : cF g a1 T w) : jJ X g () (w ++ mw g q M) (100 + 30 * j) (22000 + 677 * j) 1283 [(0, .ref b), (1, .ref a1), (2, .ref (q 0)), (3, .int (nI (6 * j)))] [] (some ()) := by
  obtain ⟨r, T', M', h1, h2, h3⟩ := hop T M (xs (nI (6 * j) + 1).toNatClampNeg) (xs (nI (6 * j) + 2).toNatClampNeg) hRL
  obtain ⟨fs, he⟩ := cF_head hT
  refine r_aload_n (pc := 1283) C dL_law_1283 1 rfl ?_
  refine r_aload_n (pc := 1284) C dL_law_1284 0 rfl ?_
  refine r_iload_n (pc := 1285) C dL_law_1285 3 rfl ?_
  refine r_iconst (pc := 1286) C dL_law_1286 (v := 1) (by decide) ?_
  refine r_iadd (pc := 1287) C dL_law_1287 ?_
  refine r_sld (pc := 1288) C hs (vin_k (k := 1) hj hL (by decide)) dL_law_1288 ?_
  refine r_aload_n (pc := 1289) C dL_law_1289 0 rfl ?_
  refine r_iload_n (pc := 1290) C dL_law_1290 3 rfl ?_
  refine r_iconst (pc := 1291) C dL_law_1291 (v := 2) (by decide) ?_
  refine r_iadd (pc := 1292) C dL_law_1292 ?_
  refine r_sld (pc := 1293) C hs (vin_k (k := 2) hj hL (by decide)) dL_law_1293 ?_
  refine (?_ : jJ X g () _ _ _ _ _ _ (bp (some ()) (fun _ => some ())))
  refine r_cVx (α := Unit) (fN := some ()) (Φ := fun _ o w => o = some (.int r) ∧ cF g a1 T' w) (wc := w) (wr := mw g q M) (As := [.int (xs (nI (6 * j) + 1).toNatClampNeg), .int (xs (nI (6 * j) + 2).toNatClampNeg)]) (st := []) (mc := 0) (ms := 0) (pc := 1294) C (fun _ _ => o_duel hT h1) kY_X11_duel kw_5_56 kw_5_57 kw_5_55 rfl ⟨Nat.le_of_ble_eq_true rfl, Nat.le_of_ble_eq_true rfl⟩ rfl rfl ⟨by show 100 + 30 * j + 0 ≤ 600000; omega, by show 22000 + 677 * j + 0 ≤ 7302250; omega⟩ rfl 0 he rfl rfl (Nat.le_of_ble_eq_true rfl) dL_law_1294 (fun _ o w1 hw => ?_)
  obtain ⟨rfl, hw⟩ := hw
  refine r_aload_n (pc := 1297) C dL_law_1297 2 rfl ?_
  refine r_aload_n (pc := 1298) C dL_law_1298 0 rfl ?_
  refine r_iload_n (pc := 1299) C dL_law_1299 3 rfl ?_
  refine r_iconst (pc := 1300) C dL_law_1300 (v := 1) (by decide) ?_
  refine r_iadd (pc := 1301) C dL_law_1301 ?_
  refine r_sld (pc := 1302) C hs (vin_k (k := 1) hj hL (by decide)) dL_law_1302 ?_
  refine r_aload_n (pc := 1303) C dL_law_1303 0 rfl ?_
  refine r_iload_n (pc := 1304) C dL_law_1304 3 rfl ?_
  refine r_iconst (pc := 1305) C dL_law_1305 (v := 2) (by decide) ?_
  refine r_iadd (pc := 1306) C dL_law_1306 ?_
  refine r_sld (pc := 1307) C hs (vin_k (k := 2) hj hL (by decide)) dL_law_1307 ?_
  refine r_perm (ws' := mw g q M ++ w1) k_p2 ?_
  refine (?_ : jJ X g () _ _ _ _ _ _ (bp (some ()) (fun _ => some ())))
  refine r_cVx (α := Unit) (fN := some ()) (Φ := fun _ o w => o = some (.int r) ∧ w = mw g q M') (wc := mw g q M) (wr := w1) (As := [.int (xs (nI (6 * j) + 1).toNatClampNeg), .int (xs (nI (6 * j) + 2).toNatClampNeg)]) (st := [.int r]) (mc := 0) (ms := 0) (pc := 1308) C (fun _ _ l => (p_duel h2 l).x ⟨rfl, rfl⟩) kY_X12_duel kw_7_229 kw_7_230 kw_7_228 rfl ⟨Nat.le_of_ble_eq_true rfl, Nat.le_of_ble_eq_true rfl⟩ rfl rfl ⟨by show 100 + 30 * j + 0 + 0 ≤ 600000; omega, by show 22000 + 677 * j + 0 + 0 ≤ 7302250; omega⟩ rfl 0 rfl rfl rfl (Nat.le_of_ble_eq_true rfl) dL_law_1308 (fun _ o w2 hw2 => ?_)
  obtain ⟨rfl, rfl⟩ := hw2
  refine r_perm (ws' := w1 ++ mw g q M') k_p2 ?_
  refine r_eqT 1834 (pc := 1311) C dL_law_1311 (by decide) ?_
  refine r_widen (a' := 100 + 30 * (j + 1)) (b' := 22000 + 677 * (j + 1)) (by show 100 + 30 * j + 0 + 0 ≤ _; omega) (by show 22000 + 677 * j + 0 + 0 ≤ _; omega) ?_
  exact tl T' M' w1 h3 hw
set_option maxRecDepth 100000 in
set_option maxHeartbeats 4000000 in
theorem la_32 {X : KX} {g : KG} {b L a1 : Nat} {q : Nat → Nat} {xs : Nat → Int32} {j : Nat} (C : kC X g cL_law "MarkChainsLaw" room_1 4) (hs : kScr X b L xs) (hj : 6 * j + 6 ≤ L) (hL : L ≤ 3072) {RL : XS → MS → Prop} (hop : ∀ (T : XS) (M : MS) (a1 : Int32) (a2 : Int32) (a3 : Int32) (a4 : Int32), RL T M → ∃ (r : Int32) (T' : XS) (M' : MS), fo_progress T a1 a2 a3 a4 = some (r, T') ∧ fm_progress M a1 a2 a3 a4 = some (r, M') ∧ RL T' M') (tl : ∀ (T' : XS) (M' : MS) (w1 : va_W), RL T' M' → cF g a1 T' w1 → jJ X g () (w1 ++ mw g q M') (100 + 30 * (j + 1)) (22000 + 677 * (j + 1)) 1834 [(0, .ref b), (1, .ref a1), (2, .ref (q 0)), (3, .int (nI (6 * j)))] [] (some ())) (T : XS) (M : MS) (w : va_W) (hRL : RL T M) (hT : cF g a1 T w) : jJ X g () (w ++ mw g q M) (100 + 30 * j) (22000 + 677 * j) 1316 [(0, .ref b), (1, .ref a1), (2, .ref (q 0)), (3, .int (nI (6 * j)))] [] (some ()) := by
  obtain ⟨r, T', M', h1, h2, h3⟩ := hop T M (xs (nI (6 * j) + 1).toNatClampNeg) (xs (nI (6 * j) + 2).toNatClampNeg) (xs (nI (6 * j) + 3).toNatClampNeg) (xs (nI (6 * j) + 4).toNatClampNeg) hRL
  obtain ⟨fs, he⟩ := cF_head hT
  refine r_aload_n (pc := 1316) C dL_law_1316 1 rfl ?_
  refine r_aload_n (pc := 1317) C dL_law_1317 0 rfl ?_
  refine r_iload_n (pc := 1318) C dL_law_1318 3 rfl ?_
  refine r_iconst (pc := 1319) C dL_law_1319 (v := 1) (by decide) ?_
  refine r_iadd (pc := 1320) C dL_law_1320 ?_
  refine r_sld (pc := 1321) C hs (vin_k (k := 1) hj hL (by decide)) dL_law_1321 ?_
  refine r_aload_n (pc := 1322) C dL_law_1322 0 rfl ?_
  refine r_iload_n (pc := 1323) C dL_law_1323 3 rfl ?_
  refine r_iconst (pc := 1324) C dL_law_1324 (v := 2) (by decide) ?_
  refine r_iadd (pc := 1325) C dL_law_1325 ?_
  refine r_sld (pc := 1326) C hs (vin_k (k := 2) hj hL (by decide)) dL_law_1326 ?_
  refine r_aload_n (pc := 1327) C dL_law_1327 0 rfl ?_
  refine r_iload_n (pc := 1328) C dL_law_1328 3 rfl ?_
  refine r_iconst (pc := 1329) C dL_law_1329 (v := 3) (by decide) ?_
  refine r_iadd (pc := 1330) C dL_law_1330 ?_
  refine r_sld (pc := 1331) C hs (vin_k (k := 3) hj hL (by decide)) dL_law_1331 ?_
  refine r_aload_n (pc := 1332) C dL_law_1332 0 rfl ?_
  refine r_iload_n (pc := 1333) C dL_law_1333 3 rfl ?_
  refine r_iconst (pc := 1334) C dL_law_1334 (v := 4) (by decide) ?_
  refine r_iadd (pc := 1335) C dL_law_1335 ?_
  refine r_sld (pc := 1336) C hs (vin_k (k := 4) hj hL (by decide)) dL_law_1336 ?_
  refine (?_ : jJ X g () _ _ _ _ _ _ (bp (some ()) (fun _ => some ())))
  refine r_cVx (α := Unit) (fN := some ()) (Φ := fun _ o w => o = some (.int r) ∧ cF g a1 T' w) (wc := w) (wr := mw g q M) (As := [.int (xs (nI (6 * j) + 1).toNatClampNeg), .int (xs (nI (6 * j) + 2).toNatClampNeg), .int (xs (nI (6 * j) + 3).toNatClampNeg), .int (xs (nI (6 * j) + 4).toNatClampNeg)]) (st := []) (mc := 0) (ms := 0) (pc := 1337) C (fun _ _ => o_progress hT h1) kY_X11_progress kw_5_65 kw_5_66 kw_5_64 rfl ⟨Nat.le_of_ble_eq_true rfl, Nat.le_of_ble_eq_true rfl⟩ rfl rfl ⟨by show 100 + 30 * j + 0 ≤ 600000; omega, by show 22000 + 677 * j + 0 ≤ 7302250; omega⟩ rfl 0 he rfl rfl (Nat.le_of_ble_eq_true rfl) dL_law_1337 (fun _ o w1 hw => ?_)
  obtain ⟨rfl, hw⟩ := hw
  refine r_aload_n (pc := 1340) C dL_law_1340 2 rfl ?_
  refine r_aload_n (pc := 1341) C dL_law_1341 0 rfl ?_
  refine r_iload_n (pc := 1342) C dL_law_1342 3 rfl ?_
  refine r_iconst (pc := 1343) C dL_law_1343 (v := 1) (by decide) ?_
  refine r_iadd (pc := 1344) C dL_law_1344 ?_
  refine r_sld (pc := 1345) C hs (vin_k (k := 1) hj hL (by decide)) dL_law_1345 ?_
  refine r_aload_n (pc := 1346) C dL_law_1346 0 rfl ?_
  refine r_iload_n (pc := 1347) C dL_law_1347 3 rfl ?_
  refine r_iconst (pc := 1348) C dL_law_1348 (v := 2) (by decide) ?_
  refine r_iadd (pc := 1349) C dL_law_1349 ?_
  refine r_sld (pc := 1350) C hs (vin_k (k := 2) hj hL (by decide)) dL_law_1350 ?_
  refine r_aload_n (pc := 1351) C dL_law_1351 0 rfl ?_
  refine r_iload_n (pc := 1352) C dL_law_1352 3 rfl ?_
  refine r_iconst (pc := 1353) C dL_law_1353 (v := 3) (by decide) ?_
  refine r_iadd (pc := 1354) C dL_law_1354 ?_
  refine r_sld (pc := 1355) C hs (vin_k (k := 3) hj hL (by decide)) dL_law_1355 ?_
  refine r_aload_n (pc := 1356) C dL_law_1356 0 rfl ?_
  refine r_iload_n (pc := 1357) C dL_law_1357 3 rfl ?_
  refine r_iconst (pc := 1358) C dL_law_1358 (v := 4) (by decide) ?_
  refine r_iadd (pc := 1359) C dL_law_1359 ?_
  refine r_sld (pc := 1360) C hs (vin_k (k := 4) hj hL (by decide)) dL_law_1360 ?_
  refine r_perm (ws' := mw g q M ++ w1) k_p2 ?_
  refine (?_ : jJ X g () _ _ _ _ _ _ (bp (some ()) (fun _ => some ())))
  refine r_cVx (α := Unit) (fN := some ()) (Φ := fun _ o w => o = some (.int r) ∧ w = mw g q M') (wc := mw g q M) (wr := w1) (As := [.int (xs (nI (6 * j) + 1).toNatClampNeg), .int (xs (nI (6 * j) + 2).toNatClampNeg), .int (xs (nI (6 * j) + 3).toNatClampNeg), .int (xs (nI (6 * j) + 4).toNatClampNeg)]) (st := [.int r]) (mc := 0) (ms := 0) (pc := 1361) C (fun _ _ l => (p_progress h2 l).x ⟨rfl, rfl⟩) kY_X12_progress kw_8_1 kw_8_2 kw_8_0 rfl ⟨Nat.le_of_ble_eq_true rfl, Nat.le_of_ble_eq_true rfl⟩ rfl rfl ⟨by show 100 + 30 * j + 0 + 0 ≤ 600000; omega, by show 22000 + 677 * j + 0 + 0 ≤ 7302250; omega⟩ rfl 0 rfl rfl rfl (Nat.le_of_ble_eq_true rfl) dL_law_1361 (fun _ o w2 hw2 => ?_)
  obtain ⟨rfl, rfl⟩ := hw2
  refine r_perm (ws' := w1 ++ mw g q M') k_p2 ?_
  refine r_eqT 1834 (pc := 1364) C dL_law_1364 (by decide) ?_
  refine r_widen (a' := 100 + 30 * (j + 1)) (b' := 22000 + 677 * (j + 1)) (by show 100 + 30 * j + 0 + 0 ≤ _; omega) (by show 22000 + 677 * j + 0 + 0 ≤ _; omega) ?_
  exact tl T' M' w1 h3 hw
set_option maxRecDepth 100000 in
set_option maxHeartbeats 4000000 in
theorem la_33 {X : KX} {g : KG} {b L a1 : Nat} {q : Nat → Nat} {xs : Nat → Int32} {j : Nat} (C : kC X g cL_law "MarkChainsLaw" room_1 4) (hs : kScr X b L xs) (hj : 6 * j + 6 ≤ L) (hL : L ≤ 3072) {RL : XS → MS → Prop} (hop : ∀ (T : XS) (M : MS) (a1 : Int32) (a2 : Int32), RL T M → ∃ (r : Int32) (T' : XS) (M' : MS), fo_since T a1 a2 = some (r, T') ∧ fm_since M a1 a2 = some (r, M') ∧ RL T' M') (tl : ∀ (T' : XS) (M' : MS) (w1 : va_W), RL T' M' → cF g a1 T' w1 → jJ X g () (w1 ++ mw g q M') (100 + 30 * (j + 1)) (22000 + 677 * (j + 1)) 1834 [(0, .ref b), (1, .ref a1), (2, .ref (q 0)), (3, .int (nI (6 * j)))] [] (some ())) (T : XS) (M : MS) (w : va_W) (hRL : RL T M) (hT : cF g a1 T w) : jJ X g () (w ++ mw g q M) (100 + 30 * j) (22000 + 677 * j) 1369 [(0, .ref b), (1, .ref a1), (2, .ref (q 0)), (3, .int (nI (6 * j)))] [] (some ()) := by
  obtain ⟨r, T', M', h1, h2, h3⟩ := hop T M (xs (nI (6 * j) + 1).toNatClampNeg) (xs (nI (6 * j) + 2).toNatClampNeg) hRL
  obtain ⟨fs, he⟩ := cF_head hT
  refine r_aload_n (pc := 1369) C dL_law_1369 1 rfl ?_
  refine r_aload_n (pc := 1370) C dL_law_1370 0 rfl ?_
  refine r_iload_n (pc := 1371) C dL_law_1371 3 rfl ?_
  refine r_iconst (pc := 1372) C dL_law_1372 (v := 1) (by decide) ?_
  refine r_iadd (pc := 1373) C dL_law_1373 ?_
  refine r_sld (pc := 1374) C hs (vin_k (k := 1) hj hL (by decide)) dL_law_1374 ?_
  refine r_aload_n (pc := 1375) C dL_law_1375 0 rfl ?_
  refine r_iload_n (pc := 1376) C dL_law_1376 3 rfl ?_
  refine r_iconst (pc := 1377) C dL_law_1377 (v := 2) (by decide) ?_
  refine r_iadd (pc := 1378) C dL_law_1378 ?_
  refine r_sld (pc := 1379) C hs (vin_k (k := 2) hj hL (by decide)) dL_law_1379 ?_
  refine (?_ : jJ X g () _ _ _ _ _ _ (bp (some ()) (fun _ => some ())))
  refine r_cVx (α := Unit) (fN := some ()) (Φ := fun _ o w => o = some (.int r) ∧ cF g a1 T' w) (wc := w) (wr := mw g q M) (As := [.int (xs (nI (6 * j) + 1).toNatClampNeg), .int (xs (nI (6 * j) + 2).toNatClampNeg)]) (st := []) (mc := 0) (ms := 0) (pc := 1380) C (fun _ _ => o_since hT h1) kY_X11_since kw_5_83 kw_5_84 kw_5_82 rfl ⟨Nat.le_of_ble_eq_true rfl, Nat.le_of_ble_eq_true rfl⟩ rfl rfl ⟨by show 100 + 30 * j + 0 ≤ 600000; omega, by show 22000 + 677 * j + 0 ≤ 7302250; omega⟩ rfl 0 he rfl rfl (Nat.le_of_ble_eq_true rfl) dL_law_1380 (fun _ o w1 hw => ?_)
  obtain ⟨rfl, hw⟩ := hw
  refine r_aload_n (pc := 1383) C dL_law_1383 2 rfl ?_
  refine r_aload_n (pc := 1384) C dL_law_1384 0 rfl ?_
  refine r_iload_n (pc := 1385) C dL_law_1385 3 rfl ?_
  refine r_iconst (pc := 1386) C dL_law_1386 (v := 1) (by decide) ?_
  refine r_iadd (pc := 1387) C dL_law_1387 ?_
  refine r_sld (pc := 1388) C hs (vin_k (k := 1) hj hL (by decide)) dL_law_1388 ?_
  refine r_aload_n (pc := 1389) C dL_law_1389 0 rfl ?_
  refine r_iload_n (pc := 1390) C dL_law_1390 3 rfl ?_
  refine r_iconst (pc := 1391) C dL_law_1391 (v := 2) (by decide) ?_
  refine r_iadd (pc := 1392) C dL_law_1392 ?_
  refine r_sld (pc := 1393) C hs (vin_k (k := 2) hj hL (by decide)) dL_law_1393 ?_
  refine r_perm (ws' := mw g q M ++ w1) k_p2 ?_
  refine (?_ : jJ X g () _ _ _ _ _ _ (bp (some ()) (fun _ => some ())))
  refine r_cVx (α := Unit) (fN := some ()) (Φ := fun _ o w => o = some (.int r) ∧ w = mw g q M') (wc := mw g q M) (wr := w1) (As := [.int (xs (nI (6 * j) + 1).toNatClampNeg), .int (xs (nI (6 * j) + 2).toNatClampNeg)]) (st := [.int r]) (mc := 0) (ms := 0) (pc := 1394) C (fun _ _ l => (p_since h2 l).x ⟨rfl, rfl⟩) kY_X12_since kw_8_8 kw_8_9 kw_8_7 rfl ⟨Nat.le_of_ble_eq_true rfl, Nat.le_of_ble_eq_true rfl⟩ rfl rfl ⟨by show 100 + 30 * j + 0 + 0 ≤ 600000; omega, by show 22000 + 677 * j + 0 + 0 ≤ 7302250; omega⟩ rfl 0 rfl rfl rfl (Nat.le_of_ble_eq_true rfl) dL_law_1394 (fun _ o w2 hw2 => ?_)
  obtain ⟨rfl, rfl⟩ := hw2
  refine r_perm (ws' := w1 ++ mw g q M') k_p2 ?_
  refine r_eqT 1834 (pc := 1397) C dL_law_1397 (by decide) ?_
  refine r_widen (a' := 100 + 30 * (j + 1)) (b' := 22000 + 677 * (j + 1)) (by show 100 + 30 * j + 0 + 0 ≤ _; omega) (by show 22000 + 677 * j + 0 + 0 ≤ _; omega) ?_
  exact tl T' M' w1 h3 hw
set_option maxRecDepth 100000 in
set_option maxHeartbeats 4000000 in
theorem la_34 {X : KX} {g : KG} {b L a1 : Nat} {q : Nat → Nat} {xs : Nat → Int32} {j : Nat} (C : kC X g cL_law "MarkChainsLaw" room_1 4) (hs : kScr X b L xs) (hj : 6 * j + 6 ≤ L) (hL : L ≤ 3072) {RL : XS → MS → Prop} (hop : ∀ (T : XS) (M : MS) (a1 : Int32) (a2 : Int32) (a3 : Int32), RL T M → ∃ (r : Int32) (T' : XS) (M' : MS), fo_without T a1 a2 a3 = some (r, T') ∧ fm_without M a1 a2 a3 = some (r, M') ∧ RL T' M') (tl : ∀ (T' : XS) (M' : MS) (w1 : va_W), RL T' M' → cF g a1 T' w1 → jJ X g () (w1 ++ mw g q M') (100 + 30 * (j + 1)) (22000 + 677 * (j + 1)) 1834 [(0, .ref b), (1, .ref a1), (2, .ref (q 0)), (3, .int (nI (6 * j)))] [] (some ())) (T : XS) (M : MS) (w : va_W) (hRL : RL T M) (hT : cF g a1 T w) : jJ X g () (w ++ mw g q M) (100 + 30 * j) (22000 + 677 * j) 1402 [(0, .ref b), (1, .ref a1), (2, .ref (q 0)), (3, .int (nI (6 * j)))] [] (some ()) := by
  obtain ⟨r, T', M', h1, h2, h3⟩ := hop T M (xs (nI (6 * j) + 1).toNatClampNeg) (xs (nI (6 * j) + 2).toNatClampNeg) (xs (nI (6 * j) + 3).toNatClampNeg) hRL
  obtain ⟨fs, he⟩ := cF_head hT
  refine r_aload_n (pc := 1402) C dL_law_1402 1 rfl ?_
  refine r_aload_n (pc := 1403) C dL_law_1403 0 rfl ?_
  refine r_iload_n (pc := 1404) C dL_law_1404 3 rfl ?_
  refine r_iconst (pc := 1405) C dL_law_1405 (v := 1) (by decide) ?_
  refine r_iadd (pc := 1406) C dL_law_1406 ?_
  refine r_sld (pc := 1407) C hs (vin_k (k := 1) hj hL (by decide)) dL_law_1407 ?_
  refine r_aload_n (pc := 1408) C dL_law_1408 0 rfl ?_
  refine r_iload_n (pc := 1409) C dL_law_1409 3 rfl ?_
  refine r_iconst (pc := 1410) C dL_law_1410 (v := 2) (by decide) ?_
  refine r_iadd (pc := 1411) C dL_law_1411 ?_
  refine r_sld (pc := 1412) C hs (vin_k (k := 2) hj hL (by decide)) dL_law_1412 ?_
  refine r_aload_n (pc := 1413) C dL_law_1413 0 rfl ?_
  refine r_iload_n (pc := 1414) C dL_law_1414 3 rfl ?_
  refine r_iconst (pc := 1415) C dL_law_1415 (v := 3) (by decide) ?_
  refine r_iadd (pc := 1416) C dL_law_1416 ?_
  refine r_sld (pc := 1417) C hs (vin_k (k := 3) hj hL (by decide)) dL_law_1417 ?_
  refine (?_ : jJ X g () _ _ _ _ _ _ (bp (some ()) (fun _ => some ())))
  refine r_cVx (α := Unit) (fN := some ()) (Φ := fun _ o w => o = some (.int r) ∧ cF g a1 T' w) (wc := w) (wr := mw g q M) (As := [.int (xs (nI (6 * j) + 1).toNatClampNeg), .int (xs (nI (6 * j) + 2).toNatClampNeg), .int (xs (nI (6 * j) + 3).toNatClampNeg)]) (st := []) (mc := 0) (ms := 0) (pc := 1418) C (fun _ _ => o_without hT h1) kY_X11_without kw_5_92 kw_5_93 kw_5_91 rfl ⟨Nat.le_of_ble_eq_true rfl, Nat.le_of_ble_eq_true rfl⟩ rfl rfl ⟨by show 100 + 30 * j + 0 ≤ 600000; omega, by show 22000 + 677 * j + 0 ≤ 7302250; omega⟩ rfl 0 he rfl rfl (Nat.le_of_ble_eq_true rfl) dL_law_1418 (fun _ o w1 hw => ?_)
  obtain ⟨rfl, hw⟩ := hw
  refine r_aload_n (pc := 1421) C dL_law_1421 2 rfl ?_
  refine r_aload_n (pc := 1422) C dL_law_1422 0 rfl ?_
  refine r_iload_n (pc := 1423) C dL_law_1423 3 rfl ?_
  refine r_iconst (pc := 1424) C dL_law_1424 (v := 1) (by decide) ?_
  refine r_iadd (pc := 1425) C dL_law_1425 ?_
  refine r_sld (pc := 1426) C hs (vin_k (k := 1) hj hL (by decide)) dL_law_1426 ?_
  refine r_aload_n (pc := 1427) C dL_law_1427 0 rfl ?_
  refine r_iload_n (pc := 1428) C dL_law_1428 3 rfl ?_
  refine r_iconst (pc := 1429) C dL_law_1429 (v := 2) (by decide) ?_
  refine r_iadd (pc := 1430) C dL_law_1430 ?_
  refine r_sld (pc := 1431) C hs (vin_k (k := 2) hj hL (by decide)) dL_law_1431 ?_
  refine r_aload_n (pc := 1432) C dL_law_1432 0 rfl ?_
  refine r_iload_n (pc := 1433) C dL_law_1433 3 rfl ?_
  refine r_iconst (pc := 1434) C dL_law_1434 (v := 3) (by decide) ?_
  refine r_iadd (pc := 1435) C dL_law_1435 ?_
  refine r_sld (pc := 1436) C hs (vin_k (k := 3) hj hL (by decide)) dL_law_1436 ?_
  refine r_perm (ws' := mw g q M ++ w1) k_p2 ?_
  refine (?_ : jJ X g () _ _ _ _ _ _ (bp (some ()) (fun _ => some ())))
  refine r_cVx (α := Unit) (fN := some ()) (Φ := fun _ o w => o = some (.int r) ∧ w = mw g q M') (wc := mw g q M) (wr := w1) (As := [.int (xs (nI (6 * j) + 1).toNatClampNeg), .int (xs (nI (6 * j) + 2).toNatClampNeg), .int (xs (nI (6 * j) + 3).toNatClampNeg)]) (st := [.int r]) (mc := 0) (ms := 0) (pc := 1437) C (fun _ _ l => (p_without h2 l).x ⟨rfl, rfl⟩) kY_X12_without kw_8_16 kw_8_17 kw_8_15 rfl ⟨Nat.le_of_ble_eq_true rfl, Nat.le_of_ble_eq_true rfl⟩ rfl rfl ⟨by show 100 + 30 * j + 0 + 0 ≤ 600000; omega, by show 22000 + 677 * j + 0 + 0 ≤ 7302250; omega⟩ rfl 0 rfl rfl rfl (Nat.le_of_ble_eq_true rfl) dL_law_1437 (fun _ o w2 hw2 => ?_)
  obtain ⟨rfl, rfl⟩ := hw2
  refine r_perm (ws' := w1 ++ mw g q M') k_p2 ?_
  refine r_eqT 1834 (pc := 1440) C dL_law_1440 (by decide) ?_
  refine r_widen (a' := 100 + 30 * (j + 1)) (b' := 22000 + 677 * (j + 1)) (by show 100 + 30 * j + 0 + 0 ≤ _; omega) (by show 22000 + 677 * j + 0 + 0 ≤ _; omega) ?_
  exact tl T' M' w1 h3 hw
set_option maxRecDepth 100000 in
set_option maxHeartbeats 4000000 in
theorem la_35 {X : KX} {g : KG} {b L a1 : Nat} {q : Nat → Nat} {xs : Nat → Int32} {j : Nat} (C : kC X g cL_law "MarkChainsLaw" room_1 4) (hs : kScr X b L xs) (hj : 6 * j + 6 ≤ L) (hL : L ≤ 3072) {RL : XS → MS → Prop} (hop : ∀ (T : XS) (M : MS), RL T M → ∃ (r : Int32) (T' : XS) (M' : MS), fo_acts T = some (r, T') ∧ fm_acts M = some (r, M') ∧ RL T' M') (tl : ∀ (T' : XS) (M' : MS) (w1 : va_W), RL T' M' → cF g a1 T' w1 → jJ X g () (w1 ++ mw g q M') (100 + 30 * (j + 1)) (22000 + 677 * (j + 1)) 1834 [(0, .ref b), (1, .ref a1), (2, .ref (q 0)), (3, .int (nI (6 * j)))] [] (some ())) (T : XS) (M : MS) (w : va_W) (hRL : RL T M) (hT : cF g a1 T w) : jJ X g () (w ++ mw g q M) (100 + 30 * j) (22000 + 677 * j) 1445 [(0, .ref b), (1, .ref a1), (2, .ref (q 0)), (3, .int (nI (6 * j)))] [] (some ()) := by
  obtain ⟨r, T', M', h1, h2, h3⟩ := hop T M hRL
  obtain ⟨fs, he⟩ := cF_head hT
  refine r_aload_n (pc := 1445) C dL_law_1445 1 rfl ?_
  refine (?_ : jJ X g () _ _ _ _ _ _ (bp (some ()) (fun _ => some ())))
  refine r_cVx (α := Unit) (fN := some ()) (Φ := fun _ o w => o = some (.int r) ∧ cF g a1 T' w) (wc := w) (wr := mw g q M) (As := []) (st := []) (mc := 30) (ms := 150) (pc := 1446) C (fun _ _ => o_acts hT h1) kY_X11_acts kw_5_96 kw_5_97 kw_5_95 rfl ⟨Nat.le_of_ble_eq_true rfl, Nat.le_of_ble_eq_true rfl⟩ rfl rfl ⟨by show 100 + 30 * j + 30 ≤ 600000; omega, by show 22000 + 677 * j + 150 ≤ 7302250; omega⟩ rfl 0 he rfl rfl (Nat.le_of_ble_eq_true rfl) dL_law_1446 (fun _ o w1 hw => ?_)
  obtain ⟨rfl, hw⟩ := hw
  refine r_aload_n (pc := 1449) C dL_law_1449 2 rfl ?_
  refine r_perm (ws' := mw g q M ++ w1) k_p2 ?_
  refine (?_ : jJ X g () _ _ _ _ _ _ (bp (some ()) (fun _ => some ())))
  refine r_cVx (α := Unit) (fN := some ()) (Φ := fun _ o w => o = some (.int r) ∧ w = mw g q M') (wc := mw g q M) (wr := w1) (As := []) (st := [.int r]) (mc := 0) (ms := 0) (pc := 1450) C (fun _ _ l => (p_acts h2 l).x ⟨rfl, rfl⟩) kY_X12_acts kw_8_51 kw_8_52 kw_8_50 rfl ⟨Nat.le_of_ble_eq_true rfl, Nat.le_of_ble_eq_true rfl⟩ rfl rfl ⟨by show 100 + 30 * j + 30 + 0 ≤ 600000; omega, by show 22000 + 677 * j + 150 + 0 ≤ 7302250; omega⟩ rfl 0 rfl rfl rfl (Nat.le_of_ble_eq_true rfl) dL_law_1450 (fun _ o w2 hw2 => ?_)
  obtain ⟨rfl, rfl⟩ := hw2
  refine r_perm (ws' := w1 ++ mw g q M') k_p2 ?_
  refine r_eqT 1834 (pc := 1453) C dL_law_1453 (by decide) ?_
  refine r_widen (a' := 100 + 30 * (j + 1)) (b' := 22000 + 677 * (j + 1)) (by show 100 + 30 * j + 30 + 0 ≤ _; omega) (by show 22000 + 677 * j + 150 + 0 ≤ _; omega) ?_
  exact tl T' M' w1 h3 hw
set_option maxRecDepth 100000 in
set_option maxHeartbeats 4000000 in
theorem la_36 {X : KX} {g : KG} {b L a1 : Nat} {q : Nat → Nat} {xs : Nat → Int32} {j : Nat} (C : kC X g cL_law "MarkChainsLaw" room_1 4) (hs : kScr X b L xs) (hj : 6 * j + 6 ≤ L) (hL : L ≤ 3072) {RL : XS → MS → Prop} (hop : ∀ (T : XS) (M : MS), RL T M → ∃ (r : Int32) (T' : XS) (M' : MS), fo_ended T = some (r, T') ∧ fm_ended M = some (r, M') ∧ RL T' M') (tl : ∀ (T' : XS) (M' : MS) (w1 : va_W), RL T' M' → cF g a1 T' w1 → jJ X g () (w1 ++ mw g q M') (100 + 30 * (j + 1)) (22000 + 677 * (j + 1)) 1834 [(0, .ref b), (1, .ref a1), (2, .ref (q 0)), (3, .int (nI (6 * j)))] [] (some ())) (T : XS) (M : MS) (w : va_W) (hRL : RL T M) (hT : cF g a1 T w) : jJ X g () (w ++ mw g q M) (100 + 30 * j) (22000 + 677 * j) 1458 [(0, .ref b), (1, .ref a1), (2, .ref (q 0)), (3, .int (nI (6 * j)))] [] (some ()) := by
  obtain ⟨r, T', M', h1, h2, h3⟩ := hop T M hRL
  obtain ⟨fs, he⟩ := cF_head hT
  refine r_aload_n (pc := 1458) C dL_law_1458 1 rfl ?_
  refine (?_ : jJ X g () _ _ _ _ _ _ (bp (some ()) (fun _ => some ())))
  refine r_cVx (α := Unit) (fN := some ()) (Φ := fun _ o w => o = some (.int r) ∧ cF g a1 T' w) (wc := w) (wr := mw g q M) (As := []) (st := []) (mc := 0) (ms := 0) (pc := 1459) C (fun _ _ => o_ended hT h1) kY_X11_ended kw_5_143 kw_5_144 kw_5_142 rfl ⟨Nat.le_of_ble_eq_true rfl, Nat.le_of_ble_eq_true rfl⟩ rfl rfl ⟨by show 100 + 30 * j + 0 ≤ 600000; omega, by show 22000 + 677 * j + 0 ≤ 7302250; omega⟩ rfl 0 he rfl rfl (Nat.le_of_ble_eq_true rfl) dL_law_1459 (fun _ o w1 hw => ?_)
  obtain ⟨rfl, hw⟩ := hw
  refine r_aload_n (pc := 1462) C dL_law_1462 2 rfl ?_
  refine r_perm (ws' := mw g q M ++ w1) k_p2 ?_
  refine (?_ : jJ X g () _ _ _ _ _ _ (bp (some ()) (fun _ => some ())))
  refine r_cVx (α := Unit) (fN := some ()) (Φ := fun _ o w => o = some (.int r) ∧ w = mw g q M') (wc := mw g q M) (wr := w1) (As := []) (st := [.int r]) (mc := 0) (ms := 0) (pc := 1463) C (fun _ _ l => (p_ended h2 l).x ⟨rfl, rfl⟩) kY_X12_ended kw_8_72 kw_8_73 kw_8_71 rfl ⟨Nat.le_of_ble_eq_true rfl, Nat.le_of_ble_eq_true rfl⟩ rfl rfl ⟨by show 100 + 30 * j + 0 + 0 ≤ 600000; omega, by show 22000 + 677 * j + 0 + 0 ≤ 7302250; omega⟩ rfl 0 rfl rfl rfl (Nat.le_of_ble_eq_true rfl) dL_law_1463 (fun _ o w2 hw2 => ?_)
  obtain ⟨rfl, rfl⟩ := hw2
  refine r_perm (ws' := w1 ++ mw g q M') k_p2 ?_
  refine r_eqT 1834 (pc := 1466) C dL_law_1466 (by decide) ?_
  refine r_widen (a' := 100 + 30 * (j + 1)) (b' := 22000 + 677 * (j + 1)) (by show 100 + 30 * j + 0 + 0 ≤ _; omega) (by show 22000 + 677 * j + 0 + 0 ≤ _; omega) ?_
  exact tl T' M' w1 h3 hw
set_option maxRecDepth 100000 in
set_option maxHeartbeats 4000000 in
theorem la_37 {X : KX} {g : KG} {b L a1 : Nat} {q : Nat → Nat} {xs : Nat → Int32} {j : Nat} (C : kC X g cL_law "MarkChainsLaw" room_1 4) (hs : kScr X b L xs) (hj : 6 * j + 6 ≤ L) (hL : L ≤ 3072) {RL : XS → MS → Prop} (hop : ∀ (T : XS) (M : MS) (a1 : Int32), RL T M → ∃ (r : Int32) (T' : XS) (M' : MS), fo_row T a1 = some (r, T') ∧ fm_row M a1 = some (r, M') ∧ RL T' M') (tl : ∀ (T' : XS) (M' : MS) (w1 : va_W), RL T' M' → cF g a1 T' w1 → jJ X g () (w1 ++ mw g q M') (100 + 30 * (j + 1)) (22000 + 677 * (j + 1)) 1834 [(0, .ref b), (1, .ref a1), (2, .ref (q 0)), (3, .int (nI (6 * j)))] [] (some ())) (T : XS) (M : MS) (w : va_W) (hRL : RL T M) (hT : cF g a1 T w) : jJ X g () (w ++ mw g q M) (100 + 30 * j) (22000 + 677 * j) 1471 [(0, .ref b), (1, .ref a1), (2, .ref (q 0)), (3, .int (nI (6 * j)))] [] (some ()) := by
  obtain ⟨r, T', M', h1, h2, h3⟩ := hop T M (xs (nI (6 * j) + 1).toNatClampNeg) hRL
  obtain ⟨fs, he⟩ := cF_head hT
  refine r_aload_n (pc := 1471) C dL_law_1471 1 rfl ?_
  refine r_aload_n (pc := 1472) C dL_law_1472 0 rfl ?_
  refine r_iload_n (pc := 1473) C dL_law_1473 3 rfl ?_
  refine r_iconst (pc := 1474) C dL_law_1474 (v := 1) (by decide) ?_
  refine r_iadd (pc := 1475) C dL_law_1475 ?_
  refine r_sld (pc := 1476) C hs (vin_k (k := 1) hj hL (by decide)) dL_law_1476 ?_
  refine (?_ : jJ X g () _ _ _ _ _ _ (bp (some ()) (fun _ => some ())))
  refine r_cVx (α := Unit) (fN := some ()) (Φ := fun _ o w => o = some (.int r) ∧ cF g a1 T' w) (wc := w) (wr := mw g q M) (As := [.int (xs (nI (6 * j) + 1).toNatClampNeg)]) (st := []) (mc := 0) (ms := 0) (pc := 1477) C (fun _ _ => o_row hT h1) kY_X11_row kw_5_147 kw_5_148 kw_5_146 rfl ⟨Nat.le_of_ble_eq_true rfl, Nat.le_of_ble_eq_true rfl⟩ rfl rfl ⟨by show 100 + 30 * j + 0 ≤ 600000; omega, by show 22000 + 677 * j + 0 ≤ 7302250; omega⟩ rfl 0 he rfl rfl (Nat.le_of_ble_eq_true rfl) dL_law_1477 (fun _ o w1 hw => ?_)
  obtain ⟨rfl, hw⟩ := hw
  refine r_aload_n (pc := 1480) C dL_law_1480 2 rfl ?_
  refine r_aload_n (pc := 1481) C dL_law_1481 0 rfl ?_
  refine r_iload_n (pc := 1482) C dL_law_1482 3 rfl ?_
  refine r_iconst (pc := 1483) C dL_law_1483 (v := 1) (by decide) ?_
  refine r_iadd (pc := 1484) C dL_law_1484 ?_
  refine r_sld (pc := 1485) C hs (vin_k (k := 1) hj hL (by decide)) dL_law_1485 ?_
  refine r_perm (ws' := mw g q M ++ w1) k_p2 ?_
  refine (?_ : jJ X g () _ _ _ _ _ _ (bp (some ()) (fun _ => some ())))
  refine r_cVx (α := Unit) (fN := some ()) (Φ := fun _ o w => o = some (.int r) ∧ w = mw g q M') (wc := mw g q M) (wr := w1) (As := [.int (xs (nI (6 * j) + 1).toNatClampNeg)]) (st := [.int r]) (mc := 0) (ms := 0) (pc := 1486) C (fun _ _ l => (p_row h2 l).x ⟨rfl, rfl⟩) kY_X12_row kw_8_76 kw_8_77 kw_8_75 rfl ⟨Nat.le_of_ble_eq_true rfl, Nat.le_of_ble_eq_true rfl⟩ rfl rfl ⟨by show 100 + 30 * j + 0 + 0 ≤ 600000; omega, by show 22000 + 677 * j + 0 + 0 ≤ 7302250; omega⟩ rfl 0 rfl rfl rfl (Nat.le_of_ble_eq_true rfl) dL_law_1486 (fun _ o w2 hw2 => ?_)
  obtain ⟨rfl, rfl⟩ := hw2
  refine r_perm (ws' := w1 ++ mw g q M') k_p2 ?_
  refine r_eqT 1834 (pc := 1489) C dL_law_1489 (by decide) ?_
  refine r_widen (a' := 100 + 30 * (j + 1)) (b' := 22000 + 677 * (j + 1)) (by show 100 + 30 * j + 0 + 0 ≤ _; omega) (by show 22000 + 677 * j + 0 + 0 ≤ _; omega) ?_
  exact tl T' M' w1 h3 hw
set_option maxRecDepth 100000 in
set_option maxHeartbeats 4000000 in
theorem la_38 {X : KX} {g : KG} {b L a1 : Nat} {q : Nat → Nat} {xs : Nat → Int32} {j : Nat} (C : kC X g cL_law "MarkChainsLaw" room_1 4) (hs : kScr X b L xs) (hj : 6 * j + 6 ≤ L) (hL : L ≤ 3072) {RL : XS → MS → Prop} (hop : ∀ (T : XS) (M : MS) (a1 : Int32) (a2 : Int32) (a3 : Int32), RL T M → ∃ (r : Int32) (T' : XS) (M' : MS), fo_personal T a1 a2 a3 = some (r, T') ∧ fm_personal M a1 a2 a3 = some (r, M') ∧ RL T' M') (tl : ∀ (T' : XS) (M' : MS) (w1 : va_W), RL T' M' → cF g a1 T' w1 → jJ X g () (w1 ++ mw g q M') (100 + 30 * (j + 1)) (22000 + 677 * (j + 1)) 1834 [(0, .ref b), (1, .ref a1), (2, .ref (q 0)), (3, .int (nI (6 * j)))] [] (some ())) (T : XS) (M : MS) (w : va_W) (hRL : RL T M) (hT : cF g a1 T w) : jJ X g () (w ++ mw g q M) (100 + 30 * j) (22000 + 677 * j) 1494 [(0, .ref b), (1, .ref a1), (2, .ref (q 0)), (3, .int (nI (6 * j)))] [] (some ()) := by
  obtain ⟨r, T', M', h1, h2, h3⟩ := hop T M (xs (nI (6 * j) + 1).toNatClampNeg) (xs (nI (6 * j) + 2).toNatClampNeg) (xs (nI (6 * j) + 3).toNatClampNeg) hRL
  obtain ⟨fs, he⟩ := cF_head hT
  refine r_aload_n (pc := 1494) C dL_law_1494 1 rfl ?_
  refine r_aload_n (pc := 1495) C dL_law_1495 0 rfl ?_
  refine r_iload_n (pc := 1496) C dL_law_1496 3 rfl ?_
  refine r_iconst (pc := 1497) C dL_law_1497 (v := 1) (by decide) ?_
  refine r_iadd (pc := 1498) C dL_law_1498 ?_
  refine r_sld (pc := 1499) C hs (vin_k (k := 1) hj hL (by decide)) dL_law_1499 ?_
  refine r_aload_n (pc := 1500) C dL_law_1500 0 rfl ?_
  refine r_iload_n (pc := 1501) C dL_law_1501 3 rfl ?_
  refine r_iconst (pc := 1502) C dL_law_1502 (v := 2) (by decide) ?_
  refine r_iadd (pc := 1503) C dL_law_1503 ?_
  refine r_sld (pc := 1504) C hs (vin_k (k := 2) hj hL (by decide)) dL_law_1504 ?_
  refine r_aload_n (pc := 1505) C dL_law_1505 0 rfl ?_
  refine r_iload_n (pc := 1506) C dL_law_1506 3 rfl ?_
  refine r_iconst (pc := 1507) C dL_law_1507 (v := 3) (by decide) ?_
  refine r_iadd (pc := 1508) C dL_law_1508 ?_
  refine r_sld (pc := 1509) C hs (vin_k (k := 3) hj hL (by decide)) dL_law_1509 ?_
  refine (?_ : jJ X g () _ _ _ _ _ _ (bp (some ()) (fun _ => some ())))
  refine r_cVx (α := Unit) (fN := some ()) (Φ := fun _ o w => o = some (.int r) ∧ cF g a1 T' w) (wc := w) (wr := mw g q M) (As := [.int (xs (nI (6 * j) + 1).toNatClampNeg), .int (xs (nI (6 * j) + 2).toNatClampNeg), .int (xs (nI (6 * j) + 3).toNatClampNeg)]) (st := []) (mc := 0) (ms := 0) (pc := 1510) C (fun _ _ => o_personal hT h1) kY_X11_personal kw_5_151 kw_5_152 kw_5_150 rfl ⟨Nat.le_of_ble_eq_true rfl, Nat.le_of_ble_eq_true rfl⟩ rfl rfl ⟨by show 100 + 30 * j + 0 ≤ 600000; omega, by show 22000 + 677 * j + 0 ≤ 7302250; omega⟩ rfl 0 he rfl rfl (Nat.le_of_ble_eq_true rfl) dL_law_1510 (fun _ o w1 hw => ?_)
  obtain ⟨rfl, hw⟩ := hw
  refine r_aload_n (pc := 1513) C dL_law_1513 2 rfl ?_
  refine r_aload_n (pc := 1514) C dL_law_1514 0 rfl ?_
  refine r_iload_n (pc := 1515) C dL_law_1515 3 rfl ?_
  refine r_iconst (pc := 1516) C dL_law_1516 (v := 1) (by decide) ?_
  refine r_iadd (pc := 1517) C dL_law_1517 ?_
  refine r_sld (pc := 1518) C hs (vin_k (k := 1) hj hL (by decide)) dL_law_1518 ?_
  refine r_aload_n (pc := 1519) C dL_law_1519 0 rfl ?_
  refine r_iload_n (pc := 1520) C dL_law_1520 3 rfl ?_
  refine r_iconst (pc := 1521) C dL_law_1521 (v := 2) (by decide) ?_
  refine r_iadd (pc := 1522) C dL_law_1522 ?_
  refine r_sld (pc := 1523) C hs (vin_k (k := 2) hj hL (by decide)) dL_law_1523 ?_
  refine r_aload_n (pc := 1524) C dL_law_1524 0 rfl ?_
  refine r_iload_n (pc := 1525) C dL_law_1525 3 rfl ?_
  refine r_iconst (pc := 1526) C dL_law_1526 (v := 3) (by decide) ?_
  refine r_iadd (pc := 1527) C dL_law_1527 ?_
  refine r_sld (pc := 1528) C hs (vin_k (k := 3) hj hL (by decide)) dL_law_1528 ?_
  refine r_perm (ws' := mw g q M ++ w1) k_p2 ?_
  refine (?_ : jJ X g () _ _ _ _ _ _ (bp (some ()) (fun _ => some ())))
  refine r_cVx (α := Unit) (fN := some ()) (Φ := fun _ o w => o = some (.int r) ∧ w = mw g q M') (wc := mw g q M) (wr := w1) (As := [.int (xs (nI (6 * j) + 1).toNatClampNeg), .int (xs (nI (6 * j) + 2).toNatClampNeg), .int (xs (nI (6 * j) + 3).toNatClampNeg)]) (st := [.int r]) (mc := 0) (ms := 0) (pc := 1529) C (fun _ _ l => (p_personal h2 l).x ⟨rfl, rfl⟩) kY_X12_personal kw_8_20 kw_8_21 kw_8_19 rfl ⟨Nat.le_of_ble_eq_true rfl, Nat.le_of_ble_eq_true rfl⟩ rfl rfl ⟨by show 100 + 30 * j + 0 + 0 ≤ 600000; omega, by show 22000 + 677 * j + 0 + 0 ≤ 7302250; omega⟩ rfl 0 rfl rfl rfl (Nat.le_of_ble_eq_true rfl) dL_law_1529 (fun _ o w2 hw2 => ?_)
  obtain ⟨rfl, rfl⟩ := hw2
  refine r_perm (ws' := w1 ++ mw g q M') k_p2 ?_
  refine r_eqT 1834 (pc := 1532) C dL_law_1532 (by decide) ?_
  refine r_widen (a' := 100 + 30 * (j + 1)) (b' := 22000 + 677 * (j + 1)) (by show 100 + 30 * j + 0 + 0 ≤ _; omega) (by show 22000 + 677 * j + 0 + 0 ≤ _; omega) ?_
  exact tl T' M' w1 h3 hw
set_option maxRecDepth 100000 in
set_option maxHeartbeats 4000000 in
theorem la_39 {X : KX} {g : KG} {b L a1 : Nat} {q : Nat → Nat} {xs : Nat → Int32} {j : Nat} (C : kC X g cL_law "MarkChainsLaw" room_1 4) (hs : kScr X b L xs) (hj : 6 * j + 6 ≤ L) (hL : L ≤ 3072) {RL : XS → MS → Prop} (hop : ∀ (T : XS) (M : MS) (a1 : Int32) (a2 : Int32) (a3 : Int32), RL T M → ∃ (r : Int32) (T' : XS) (M' : MS), fo_season T a1 a2 a3 = some (r, T') ∧ fm_season M a1 a2 a3 = some (r, M') ∧ RL T' M') (tl : ∀ (T' : XS) (M' : MS) (w1 : va_W), RL T' M' → cF g a1 T' w1 → jJ X g () (w1 ++ mw g q M') (100 + 30 * (j + 1)) (22000 + 677 * (j + 1)) 1834 [(0, .ref b), (1, .ref a1), (2, .ref (q 0)), (3, .int (nI (6 * j)))] [] (some ())) (T : XS) (M : MS) (w : va_W) (hRL : RL T M) (hT : cF g a1 T w) : jJ X g () (w ++ mw g q M) (100 + 30 * j) (22000 + 677 * j) 1537 [(0, .ref b), (1, .ref a1), (2, .ref (q 0)), (3, .int (nI (6 * j)))] [] (some ()) := by
  obtain ⟨r, T', M', h1, h2, h3⟩ := hop T M (xs (nI (6 * j) + 1).toNatClampNeg) (xs (nI (6 * j) + 2).toNatClampNeg) (xs (nI (6 * j) + 3).toNatClampNeg) hRL
  obtain ⟨fs, he⟩ := cF_head hT
  refine r_aload_n (pc := 1537) C dL_law_1537 1 rfl ?_
  refine r_aload_n (pc := 1538) C dL_law_1538 0 rfl ?_
  refine r_iload_n (pc := 1539) C dL_law_1539 3 rfl ?_
  refine r_iconst (pc := 1540) C dL_law_1540 (v := 1) (by decide) ?_
  refine r_iadd (pc := 1541) C dL_law_1541 ?_
  refine r_sld (pc := 1542) C hs (vin_k (k := 1) hj hL (by decide)) dL_law_1542 ?_
  refine r_aload_n (pc := 1543) C dL_law_1543 0 rfl ?_
  refine r_iload_n (pc := 1544) C dL_law_1544 3 rfl ?_
  refine r_iconst (pc := 1545) C dL_law_1545 (v := 2) (by decide) ?_
  refine r_iadd (pc := 1546) C dL_law_1546 ?_
  refine r_sld (pc := 1547) C hs (vin_k (k := 2) hj hL (by decide)) dL_law_1547 ?_
  refine r_aload_n (pc := 1548) C dL_law_1548 0 rfl ?_
  refine r_iload_n (pc := 1549) C dL_law_1549 3 rfl ?_
  refine r_iconst (pc := 1550) C dL_law_1550 (v := 3) (by decide) ?_
  refine r_iadd (pc := 1551) C dL_law_1551 ?_
  refine r_sld (pc := 1552) C hs (vin_k (k := 3) hj hL (by decide)) dL_law_1552 ?_
  refine (?_ : jJ X g () _ _ _ _ _ _ (bp (some ()) (fun _ => some ())))
  refine r_cVx (α := Unit) (fN := some ()) (Φ := fun _ o w => o = some (.int r) ∧ cF g a1 T' w) (wc := w) (wr := mw g q M) (As := [.int (xs (nI (6 * j) + 1).toNatClampNeg), .int (xs (nI (6 * j) + 2).toNatClampNeg), .int (xs (nI (6 * j) + 3).toNatClampNeg)]) (st := []) (mc := 0) (ms := 0) (pc := 1553) C (fun _ _ => o_season hT h1) kY_X11_season kw_5_159 kw_5_160 kw_5_158 rfl ⟨Nat.le_of_ble_eq_true rfl, Nat.le_of_ble_eq_true rfl⟩ rfl rfl ⟨by show 100 + 30 * j + 0 ≤ 600000; omega, by show 22000 + 677 * j + 0 ≤ 7302250; omega⟩ rfl 0 he rfl rfl (Nat.le_of_ble_eq_true rfl) dL_law_1553 (fun _ o w1 hw => ?_)
  obtain ⟨rfl, hw⟩ := hw
  refine r_aload_n (pc := 1556) C dL_law_1556 2 rfl ?_
  refine r_aload_n (pc := 1557) C dL_law_1557 0 rfl ?_
  refine r_iload_n (pc := 1558) C dL_law_1558 3 rfl ?_
  refine r_iconst (pc := 1559) C dL_law_1559 (v := 1) (by decide) ?_
  refine r_iadd (pc := 1560) C dL_law_1560 ?_
  refine r_sld (pc := 1561) C hs (vin_k (k := 1) hj hL (by decide)) dL_law_1561 ?_
  refine r_aload_n (pc := 1562) C dL_law_1562 0 rfl ?_
  refine r_iload_n (pc := 1563) C dL_law_1563 3 rfl ?_
  refine r_iconst (pc := 1564) C dL_law_1564 (v := 2) (by decide) ?_
  refine r_iadd (pc := 1565) C dL_law_1565 ?_
  refine r_sld (pc := 1566) C hs (vin_k (k := 2) hj hL (by decide)) dL_law_1566 ?_
  refine r_aload_n (pc := 1567) C dL_law_1567 0 rfl ?_
  refine r_iload_n (pc := 1568) C dL_law_1568 3 rfl ?_
  refine r_iconst (pc := 1569) C dL_law_1569 (v := 3) (by decide) ?_
  refine r_iadd (pc := 1570) C dL_law_1570 ?_
  refine r_sld (pc := 1571) C hs (vin_k (k := 3) hj hL (by decide)) dL_law_1571 ?_
  refine r_perm (ws' := mw g q M ++ w1) k_p2 ?_
  refine (?_ : jJ X g () _ _ _ _ _ _ (bp (some ()) (fun _ => some ())))
  refine r_cVx (α := Unit) (fN := some ()) (Φ := fun _ o w => o = some (.int r) ∧ w = mw g q M') (wc := mw g q M) (wr := w1) (As := [.int (xs (nI (6 * j) + 1).toNatClampNeg), .int (xs (nI (6 * j) + 2).toNatClampNeg), .int (xs (nI (6 * j) + 3).toNatClampNeg)]) (st := [.int r]) (mc := 0) (ms := 0) (pc := 1572) C (fun _ _ l => (p_season h2 l).x ⟨rfl, rfl⟩) kY_X12_season kw_8_24 kw_8_25 kw_8_23 rfl ⟨Nat.le_of_ble_eq_true rfl, Nat.le_of_ble_eq_true rfl⟩ rfl rfl ⟨by show 100 + 30 * j + 0 + 0 ≤ 600000; omega, by show 22000 + 677 * j + 0 + 0 ≤ 7302250; omega⟩ rfl 0 rfl rfl rfl (Nat.le_of_ble_eq_true rfl) dL_law_1572 (fun _ o w2 hw2 => ?_)
  obtain ⟨rfl, rfl⟩ := hw2
  refine r_perm (ws' := w1 ++ mw g q M') k_p2 ?_
  refine r_eqT 1834 (pc := 1575) C dL_law_1575 (by decide) ?_
  refine r_widen (a' := 100 + 30 * (j + 1)) (b' := 22000 + 677 * (j + 1)) (by show 100 + 30 * j + 0 + 0 ≤ _; omega) (by show 22000 + 677 * j + 0 + 0 ≤ _; omega) ?_
  exact tl T' M' w1 h3 hw
set_option maxRecDepth 100000 in
set_option maxHeartbeats 4000000 in
theorem la_40 {X : KX} {g : KG} {b L a1 : Nat} {q : Nat → Nat} {xs : Nat → Int32} {j : Nat} (C : kC X g cL_law "MarkChainsLaw" room_1 4) (hs : kScr X b L xs) (hj : 6 * j + 6 ≤ L) (hL : L ≤ 3072) {RL : XS → MS → Prop} (hop : ∀ (T : XS) (M : MS) (a1 : Int32) (a2 : Int32) (a3 : Int32) (a4 : Int32), RL T M → ∃ (r : Int32) (T' : XS) (M' : MS), fo_at T a1 a2 a3 a4 = some (r, T') ∧ fm_at M a1 a2 a3 a4 = some (r, M') ∧ RL T' M') (tl : ∀ (T' : XS) (M' : MS) (w1 : va_W), RL T' M' → cF g a1 T' w1 → jJ X g () (w1 ++ mw g q M') (100 + 30 * (j + 1)) (22000 + 677 * (j + 1)) 1834 [(0, .ref b), (1, .ref a1), (2, .ref (q 0)), (3, .int (nI (6 * j)))] [] (some ())) (T : XS) (M : MS) (w : va_W) (hRL : RL T M) (hT : cF g a1 T w) : jJ X g () (w ++ mw g q M) (100 + 30 * j) (22000 + 677 * j) 1580 [(0, .ref b), (1, .ref a1), (2, .ref (q 0)), (3, .int (nI (6 * j)))] [] (some ()) := by
  obtain ⟨r, T', M', h1, h2, h3⟩ := hop T M (xs (nI (6 * j) + 1).toNatClampNeg) (xs (nI (6 * j) + 2).toNatClampNeg) (xs (nI (6 * j) + 3).toNatClampNeg) (xs (nI (6 * j) + 4).toNatClampNeg) hRL
  obtain ⟨fs, he⟩ := cF_head hT
  refine r_aload_n (pc := 1580) C dL_law_1580 1 rfl ?_
  refine r_aload_n (pc := 1581) C dL_law_1581 0 rfl ?_
  refine r_iload_n (pc := 1582) C dL_law_1582 3 rfl ?_
  refine r_iconst (pc := 1583) C dL_law_1583 (v := 1) (by decide) ?_
  refine r_iadd (pc := 1584) C dL_law_1584 ?_
  refine r_sld (pc := 1585) C hs (vin_k (k := 1) hj hL (by decide)) dL_law_1585 ?_
  refine r_aload_n (pc := 1586) C dL_law_1586 0 rfl ?_
  refine r_iload_n (pc := 1587) C dL_law_1587 3 rfl ?_
  refine r_iconst (pc := 1588) C dL_law_1588 (v := 2) (by decide) ?_
  refine r_iadd (pc := 1589) C dL_law_1589 ?_
  refine r_sld (pc := 1590) C hs (vin_k (k := 2) hj hL (by decide)) dL_law_1590 ?_
  refine r_aload_n (pc := 1591) C dL_law_1591 0 rfl ?_
  refine r_iload_n (pc := 1592) C dL_law_1592 3 rfl ?_
  refine r_iconst (pc := 1593) C dL_law_1593 (v := 3) (by decide) ?_
  refine r_iadd (pc := 1594) C dL_law_1594 ?_
  refine r_sld (pc := 1595) C hs (vin_k (k := 3) hj hL (by decide)) dL_law_1595 ?_
  refine r_aload_n (pc := 1596) C dL_law_1596 0 rfl ?_
  refine r_iload_n (pc := 1597) C dL_law_1597 3 rfl ?_
  refine r_iconst (pc := 1598) C dL_law_1598 (v := 4) (by decide) ?_
  refine r_iadd (pc := 1599) C dL_law_1599 ?_
  refine r_sld (pc := 1600) C hs (vin_k (k := 4) hj hL (by decide)) dL_law_1600 ?_
  refine (?_ : jJ X g () _ _ _ _ _ _ (bp (some ()) (fun _ => some ())))
  refine r_cVx (α := Unit) (fN := some ()) (Φ := fun _ o w => o = some (.int r) ∧ cF g a1 T' w) (wc := w) (wr := mw g q M) (As := [.int (xs (nI (6 * j) + 1).toNatClampNeg), .int (xs (nI (6 * j) + 2).toNatClampNeg), .int (xs (nI (6 * j) + 3).toNatClampNeg), .int (xs (nI (6 * j) + 4).toNatClampNeg)]) (st := []) (mc := 0) (ms := 0) (pc := 1601) C (fun _ _ => o_at hT h1) kY_X11_at kw_5_167 kw_5_168 kw_5_166 rfl ⟨Nat.le_of_ble_eq_true rfl, Nat.le_of_ble_eq_true rfl⟩ rfl rfl ⟨by show 100 + 30 * j + 0 ≤ 600000; omega, by show 22000 + 677 * j + 0 ≤ 7302250; omega⟩ rfl 0 he rfl rfl (Nat.le_of_ble_eq_true rfl) dL_law_1601 (fun _ o w1 hw => ?_)
  obtain ⟨rfl, hw⟩ := hw
  refine r_aload_n (pc := 1604) C dL_law_1604 2 rfl ?_
  refine r_aload_n (pc := 1605) C dL_law_1605 0 rfl ?_
  refine r_iload_n (pc := 1606) C dL_law_1606 3 rfl ?_
  refine r_iconst (pc := 1607) C dL_law_1607 (v := 1) (by decide) ?_
  refine r_iadd (pc := 1608) C dL_law_1608 ?_
  refine r_sld (pc := 1609) C hs (vin_k (k := 1) hj hL (by decide)) dL_law_1609 ?_
  refine r_aload_n (pc := 1610) C dL_law_1610 0 rfl ?_
  refine r_iload_n (pc := 1611) C dL_law_1611 3 rfl ?_
  refine r_iconst (pc := 1612) C dL_law_1612 (v := 2) (by decide) ?_
  refine r_iadd (pc := 1613) C dL_law_1613 ?_
  refine r_sld (pc := 1614) C hs (vin_k (k := 2) hj hL (by decide)) dL_law_1614 ?_
  refine r_aload_n (pc := 1615) C dL_law_1615 0 rfl ?_
  refine r_iload_n (pc := 1616) C dL_law_1616 3 rfl ?_
  refine r_iconst (pc := 1617) C dL_law_1617 (v := 3) (by decide) ?_
  refine r_iadd (pc := 1618) C dL_law_1618 ?_
  refine r_sld (pc := 1619) C hs (vin_k (k := 3) hj hL (by decide)) dL_law_1619 ?_
  refine r_aload_n (pc := 1620) C dL_law_1620 0 rfl ?_
  refine r_iload_n (pc := 1621) C dL_law_1621 3 rfl ?_
  refine r_iconst (pc := 1622) C dL_law_1622 (v := 4) (by decide) ?_
  refine r_iadd (pc := 1623) C dL_law_1623 ?_
  refine r_sld (pc := 1624) C hs (vin_k (k := 4) hj hL (by decide)) dL_law_1624 ?_
  refine r_perm (ws' := mw g q M ++ w1) k_p2 ?_
  refine (?_ : jJ X g () _ _ _ _ _ _ (bp (some ()) (fun _ => some ())))
  refine r_cVx (α := Unit) (fN := some ()) (Φ := fun _ o w => o = some (.int r) ∧ w = mw g q M') (wc := mw g q M) (wr := w1) (As := [.int (xs (nI (6 * j) + 1).toNatClampNeg), .int (xs (nI (6 * j) + 2).toNatClampNeg), .int (xs (nI (6 * j) + 3).toNatClampNeg), .int (xs (nI (6 * j) + 4).toNatClampNeg)]) (st := [.int r]) (mc := 0) (ms := 0) (pc := 1625) C (fun _ _ l => (p_at h2 l).x ⟨rfl, rfl⟩) kY_X12_at kw_8_28 kw_8_29 kw_8_27 rfl ⟨Nat.le_of_ble_eq_true rfl, Nat.le_of_ble_eq_true rfl⟩ rfl rfl ⟨by show 100 + 30 * j + 0 + 0 ≤ 600000; omega, by show 22000 + 677 * j + 0 + 0 ≤ 7302250; omega⟩ rfl 0 rfl rfl rfl (Nat.le_of_ble_eq_true rfl) dL_law_1625 (fun _ o w2 hw2 => ?_)
  obtain ⟨rfl, rfl⟩ := hw2
  refine r_perm (ws' := w1 ++ mw g q M') k_p2 ?_
  refine r_eqT 1834 (pc := 1628) C dL_law_1628 (by decide) ?_
  refine r_widen (a' := 100 + 30 * (j + 1)) (b' := 22000 + 677 * (j + 1)) (by show 100 + 30 * j + 0 + 0 ≤ _; omega) (by show 22000 + 677 * j + 0 + 0 ≤ _; omega) ?_
  exact tl T' M' w1 h3 hw
set_option maxRecDepth 100000 in
set_option maxHeartbeats 4000000 in
theorem la_41 {X : KX} {g : KG} {b L a1 : Nat} {q : Nat → Nat} {xs : Nat → Int32} {j : Nat} (C : kC X g cL_law "MarkChainsLaw" room_1 4) (hs : kScr X b L xs) (hj : 6 * j + 6 ≤ L) (hL : L ≤ 3072) {RL : XS → MS → Prop} (hop : ∀ (T : XS) (M : MS) (a1 : Int32), RL T M → ∃ (r : Int32) (T' : XS) (M' : MS), fo_missing T a1 = some (r, T') ∧ fm_missing M a1 = some (r, M') ∧ RL T' M') (tl : ∀ (T' : XS) (M' : MS) (w1 : va_W), RL T' M' → cF g a1 T' w1 → jJ X g () (w1 ++ mw g q M') (100 + 30 * (j + 1)) (22000 + 677 * (j + 1)) 1834 [(0, .ref b), (1, .ref a1), (2, .ref (q 0)), (3, .int (nI (6 * j)))] [] (some ())) (T : XS) (M : MS) (w : va_W) (hRL : RL T M) (hT : cF g a1 T w) : jJ X g () (w ++ mw g q M) (100 + 30 * j) (22000 + 677 * j) 1633 [(0, .ref b), (1, .ref a1), (2, .ref (q 0)), (3, .int (nI (6 * j)))] [] (some ()) := by
  obtain ⟨r, T', M', h1, h2, h3⟩ := hop T M (xs (nI (6 * j) + 1).toNatClampNeg) hRL
  obtain ⟨fs, he⟩ := cF_head hT
  refine r_aload_n (pc := 1633) C dL_law_1633 1 rfl ?_
  refine r_aload_n (pc := 1634) C dL_law_1634 0 rfl ?_
  refine r_iload_n (pc := 1635) C dL_law_1635 3 rfl ?_
  refine r_iconst (pc := 1636) C dL_law_1636 (v := 1) (by decide) ?_
  refine r_iadd (pc := 1637) C dL_law_1637 ?_
  refine r_sld (pc := 1638) C hs (vin_k (k := 1) hj hL (by decide)) dL_law_1638 ?_
  refine (?_ : jJ X g () _ _ _ _ _ _ (bp (some ()) (fun _ => some ())))
  refine r_cVx (α := Unit) (fN := some ()) (Φ := fun _ o w => o = some (.int r) ∧ cF g a1 T' w) (wc := w) (wr := mw g q M) (As := [.int (xs (nI (6 * j) + 1).toNatClampNeg)]) (st := []) (mc := 0) (ms := 0) (pc := 1639) C (fun _ _ => o_missing hT h1) kY_X11_missing kw_5_175 kw_5_176 kw_5_174 rfl ⟨Nat.le_of_ble_eq_true rfl, Nat.le_of_ble_eq_true rfl⟩ rfl rfl ⟨by show 100 + 30 * j + 0 ≤ 600000; omega, by show 22000 + 677 * j + 0 ≤ 7302250; omega⟩ rfl 0 he rfl rfl (Nat.le_of_ble_eq_true rfl) dL_law_1639 (fun _ o w1 hw => ?_)
  obtain ⟨rfl, hw⟩ := hw
  refine r_aload_n (pc := 1642) C dL_law_1642 2 rfl ?_
  refine r_aload_n (pc := 1643) C dL_law_1643 0 rfl ?_
  refine r_iload_n (pc := 1644) C dL_law_1644 3 rfl ?_
  refine r_iconst (pc := 1645) C dL_law_1645 (v := 1) (by decide) ?_
  refine r_iadd (pc := 1646) C dL_law_1646 ?_
  refine r_sld (pc := 1647) C hs (vin_k (k := 1) hj hL (by decide)) dL_law_1647 ?_
  refine r_perm (ws' := mw g q M ++ w1) k_p2 ?_
  refine (?_ : jJ X g () _ _ _ _ _ _ (bp (some ()) (fun _ => some ())))
  refine r_cVx (α := Unit) (fN := some ()) (Φ := fun _ o w => o = some (.int r) ∧ w = mw g q M') (wc := mw g q M) (wr := w1) (As := [.int (xs (nI (6 * j) + 1).toNatClampNeg)]) (st := [.int r]) (mc := 0) (ms := 0) (pc := 1648) C (fun _ _ l => (p_missing h2 l).x ⟨rfl, rfl⟩) kY_X12_missing kw_8_32 kw_8_33 kw_8_31 rfl ⟨Nat.le_of_ble_eq_true rfl, Nat.le_of_ble_eq_true rfl⟩ rfl rfl ⟨by show 100 + 30 * j + 0 + 0 ≤ 600000; omega, by show 22000 + 677 * j + 0 + 0 ≤ 7302250; omega⟩ rfl 0 rfl rfl rfl (Nat.le_of_ble_eq_true rfl) dL_law_1648 (fun _ o w2 hw2 => ?_)
  obtain ⟨rfl, rfl⟩ := hw2
  refine r_perm (ws' := w1 ++ mw g q M') k_p2 ?_
  refine r_eqT 1834 (pc := 1651) C dL_law_1651 (by decide) ?_
  refine r_widen (a' := 100 + 30 * (j + 1)) (b' := 22000 + 677 * (j + 1)) (by show 100 + 30 * j + 0 + 0 ≤ _; omega) (by show 22000 + 677 * j + 0 + 0 ≤ _; omega) ?_
  exact tl T' M' w1 h3 hw
set_option maxRecDepth 100000 in
set_option maxHeartbeats 4000000 in
theorem la_42 {X : KX} {g : KG} {b L a1 : Nat} {q : Nat → Nat} {xs : Nat → Int32} {j : Nat} (C : kC X g cL_law "MarkChainsLaw" room_1 4) (hs : kScr X b L xs) (hj : 6 * j + 6 ≤ L) (hL : L ≤ 3072) {RL : XS → MS → Prop} (hop : ∀ (T : XS) (M : MS) (a1 : Int32) (a2 : Int32), RL T M → ∃ (r : Int32) (T' : XS) (M' : MS), fo_stands T a1 a2 = some (r, T') ∧ fm_stands M a1 a2 = some (r, M') ∧ RL T' M') (tl : ∀ (T' : XS) (M' : MS) (w1 : va_W), RL T' M' → cF g a1 T' w1 → jJ X g () (w1 ++ mw g q M') (100 + 30 * (j + 1)) (22000 + 677 * (j + 1)) 1834 [(0, .ref b), (1, .ref a1), (2, .ref (q 0)), (3, .int (nI (6 * j)))] [] (some ())) (T : XS) (M : MS) (w : va_W) (hRL : RL T M) (hT : cF g a1 T w) : jJ X g () (w ++ mw g q M) (100 + 30 * j) (22000 + 677 * j) 1656 [(0, .ref b), (1, .ref a1), (2, .ref (q 0)), (3, .int (nI (6 * j)))] [] (some ()) := by
  obtain ⟨r, T', M', h1, h2, h3⟩ := hop T M (xs (nI (6 * j) + 1).toNatClampNeg) (xs (nI (6 * j) + 2).toNatClampNeg) hRL
  obtain ⟨fs, he⟩ := cF_head hT
  refine r_aload_n (pc := 1656) C dL_law_1656 1 rfl ?_
  refine r_aload_n (pc := 1657) C dL_law_1657 0 rfl ?_
  refine r_iload_n (pc := 1658) C dL_law_1658 3 rfl ?_
  refine r_iconst (pc := 1659) C dL_law_1659 (v := 1) (by decide) ?_
  refine r_iadd (pc := 1660) C dL_law_1660 ?_
  refine r_sld (pc := 1661) C hs (vin_k (k := 1) hj hL (by decide)) dL_law_1661 ?_
  refine r_aload_n (pc := 1662) C dL_law_1662 0 rfl ?_
  refine r_iload_n (pc := 1663) C dL_law_1663 3 rfl ?_
  refine r_iconst (pc := 1664) C dL_law_1664 (v := 2) (by decide) ?_
  refine r_iadd (pc := 1665) C dL_law_1665 ?_
  refine r_sld (pc := 1666) C hs (vin_k (k := 2) hj hL (by decide)) dL_law_1666 ?_
  refine (?_ : jJ X g () _ _ _ _ _ _ (bp (some ()) (fun _ => some ())))
  refine r_cVx (α := Unit) (fN := some ()) (Φ := fun _ o w => o = some (.int r) ∧ cF g a1 T' w) (wc := w) (wr := mw g q M) (As := [.int (xs (nI (6 * j) + 1).toNatClampNeg), .int (xs (nI (6 * j) + 2).toNatClampNeg)]) (st := []) (mc := 0) (ms := 0) (pc := 1667) C (fun _ _ => o_stands hT h1) kY_X11_stands kw_5_181 kw_5_182 kw_5_180 rfl ⟨Nat.le_of_ble_eq_true rfl, Nat.le_of_ble_eq_true rfl⟩ rfl rfl ⟨by show 100 + 30 * j + 0 ≤ 600000; omega, by show 22000 + 677 * j + 0 ≤ 7302250; omega⟩ rfl 0 he rfl rfl (Nat.le_of_ble_eq_true rfl) dL_law_1667 (fun _ o w1 hw => ?_)
  obtain ⟨rfl, hw⟩ := hw
  refine r_aload_n (pc := 1670) C dL_law_1670 2 rfl ?_
  refine r_aload_n (pc := 1671) C dL_law_1671 0 rfl ?_
  refine r_iload_n (pc := 1672) C dL_law_1672 3 rfl ?_
  refine r_iconst (pc := 1673) C dL_law_1673 (v := 1) (by decide) ?_
  refine r_iadd (pc := 1674) C dL_law_1674 ?_
  refine r_sld (pc := 1675) C hs (vin_k (k := 1) hj hL (by decide)) dL_law_1675 ?_
  refine r_aload_n (pc := 1676) C dL_law_1676 0 rfl ?_
  refine r_iload_n (pc := 1677) C dL_law_1677 3 rfl ?_
  refine r_iconst (pc := 1678) C dL_law_1678 (v := 2) (by decide) ?_
  refine r_iadd (pc := 1679) C dL_law_1679 ?_
  refine r_sld (pc := 1680) C hs (vin_k (k := 2) hj hL (by decide)) dL_law_1680 ?_
  refine r_perm (ws' := mw g q M ++ w1) k_p2 ?_
  refine (?_ : jJ X g () _ _ _ _ _ _ (bp (some ()) (fun _ => some ())))
  refine r_cVx (α := Unit) (fN := some ()) (Φ := fun _ o w => o = some (.int r) ∧ w = mw g q M') (wc := mw g q M) (wr := w1) (As := [.int (xs (nI (6 * j) + 1).toNatClampNeg), .int (xs (nI (6 * j) + 2).toNatClampNeg)]) (st := [.int r]) (mc := 0) (ms := 0) (pc := 1681) C (fun _ _ l => (p_stands h2 l).x ⟨rfl, rfl⟩) kY_X12_stands kw_8_39 kw_8_40 kw_8_38 rfl ⟨Nat.le_of_ble_eq_true rfl, Nat.le_of_ble_eq_true rfl⟩ rfl rfl ⟨by show 100 + 30 * j + 0 + 0 ≤ 600000; omega, by show 22000 + 677 * j + 0 + 0 ≤ 7302250; omega⟩ rfl 0 rfl rfl rfl (Nat.le_of_ble_eq_true rfl) dL_law_1681 (fun _ o w2 hw2 => ?_)
  obtain ⟨rfl, rfl⟩ := hw2
  refine r_perm (ws' := w1 ++ mw g q M') k_p2 ?_
  refine r_eqT 1834 (pc := 1684) C dL_law_1684 (by decide) ?_
  refine r_widen (a' := 100 + 30 * (j + 1)) (b' := 22000 + 677 * (j + 1)) (by show 100 + 30 * j + 0 + 0 ≤ _; omega) (by show 22000 + 677 * j + 0 + 0 ≤ _; omega) ?_
  exact tl T' M' w1 h3 hw
set_option maxRecDepth 100000 in
set_option maxHeartbeats 4000000 in
theorem la_43 {X : KX} {g : KG} {b L a1 : Nat} {q : Nat → Nat} {xs : Nat → Int32} {j : Nat} (C : kC X g cL_law "MarkChainsLaw" room_1 4) (hs : kScr X b L xs) (hj : 6 * j + 6 ≤ L) (hL : L ≤ 3072) {RL : XS → MS → Prop} (hop : ∀ (T : XS) (M : MS) (a1 : Int32), RL T M → ∃ (r : Int32) (T' : XS) (M' : MS), fo_holding T a1 = some (r, T') ∧ fm_holding M a1 = some (r, M') ∧ RL T' M') (tl : ∀ (T' : XS) (M' : MS) (w1 : va_W), RL T' M' → cF g a1 T' w1 → jJ X g () (w1 ++ mw g q M') (100 + 30 * (j + 1)) (22000 + 677 * (j + 1)) 1834 [(0, .ref b), (1, .ref a1), (2, .ref (q 0)), (3, .int (nI (6 * j)))] [] (some ())) (T : XS) (M : MS) (w : va_W) (hRL : RL T M) (hT : cF g a1 T w) : jJ X g () (w ++ mw g q M) (100 + 30 * j) (22000 + 677 * j) 1689 [(0, .ref b), (1, .ref a1), (2, .ref (q 0)), (3, .int (nI (6 * j)))] [] (some ()) := by
  obtain ⟨r, T', M', h1, h2, h3⟩ := hop T M (xs (nI (6 * j) + 1).toNatClampNeg) hRL
  obtain ⟨fs, he⟩ := cF_head hT
  refine r_aload_n (pc := 1689) C dL_law_1689 1 rfl ?_
  refine r_aload_n (pc := 1690) C dL_law_1690 0 rfl ?_
  refine r_iload_n (pc := 1691) C dL_law_1691 3 rfl ?_
  refine r_iconst (pc := 1692) C dL_law_1692 (v := 1) (by decide) ?_
  refine r_iadd (pc := 1693) C dL_law_1693 ?_
  refine r_sld (pc := 1694) C hs (vin_k (k := 1) hj hL (by decide)) dL_law_1694 ?_
  refine (?_ : jJ X g () _ _ _ _ _ _ (bp (some ()) (fun _ => some ())))
  refine r_cVx (α := Unit) (fN := some ()) (Φ := fun _ o w => o = some (.int r) ∧ cF g a1 T' w) (wc := w) (wr := mw g q M) (As := [.int (xs (nI (6 * j) + 1).toNatClampNeg)]) (st := []) (mc := 0) (ms := 0) (pc := 1695) C (fun _ _ => o_holding hT h1) kY_X11_holding kw_5_189 kw_5_190 kw_5_188 rfl ⟨Nat.le_of_ble_eq_true rfl, Nat.le_of_ble_eq_true rfl⟩ rfl rfl ⟨by show 100 + 30 * j + 0 ≤ 600000; omega, by show 22000 + 677 * j + 0 ≤ 7302250; omega⟩ rfl 0 he rfl rfl (Nat.le_of_ble_eq_true rfl) dL_law_1695 (fun _ o w1 hw => ?_)
  obtain ⟨rfl, hw⟩ := hw
  refine r_aload_n (pc := 1698) C dL_law_1698 2 rfl ?_
  refine r_aload_n (pc := 1699) C dL_law_1699 0 rfl ?_
  refine r_iload_n (pc := 1700) C dL_law_1700 3 rfl ?_
  refine r_iconst (pc := 1701) C dL_law_1701 (v := 1) (by decide) ?_
  refine r_iadd (pc := 1702) C dL_law_1702 ?_
  refine r_sld (pc := 1703) C hs (vin_k (k := 1) hj hL (by decide)) dL_law_1703 ?_
  refine r_perm (ws' := mw g q M ++ w1) k_p2 ?_
  refine (?_ : jJ X g () _ _ _ _ _ _ (bp (some ()) (fun _ => some ())))
  refine r_cVx (α := Unit) (fN := some ()) (Φ := fun _ o w => o = some (.int r) ∧ w = mw g q M') (wc := mw g q M) (wr := w1) (As := [.int (xs (nI (6 * j) + 1).toNatClampNeg)]) (st := [.int r]) (mc := 0) (ms := 0) (pc := 1704) C (fun _ _ l => (p_holding h2 l).x ⟨rfl, rfl⟩) kY_X12_holding kw_8_43 kw_8_44 kw_8_42 rfl ⟨Nat.le_of_ble_eq_true rfl, Nat.le_of_ble_eq_true rfl⟩ rfl rfl ⟨by show 100 + 30 * j + 0 + 0 ≤ 600000; omega, by show 22000 + 677 * j + 0 + 0 ≤ 7302250; omega⟩ rfl 0 rfl rfl rfl (Nat.le_of_ble_eq_true rfl) dL_law_1704 (fun _ o w2 hw2 => ?_)
  obtain ⟨rfl, rfl⟩ := hw2
  refine r_perm (ws' := w1 ++ mw g q M') k_p2 ?_
  refine r_eqT 1834 (pc := 1707) C dL_law_1707 (by decide) ?_
  refine r_widen (a' := 100 + 30 * (j + 1)) (b' := 22000 + 677 * (j + 1)) (by show 100 + 30 * j + 0 + 0 ≤ _; omega) (by show 22000 + 677 * j + 0 + 0 ≤ _; omega) ?_
  exact tl T' M' w1 h3 hw
set_option maxRecDepth 100000 in
set_option maxHeartbeats 4000000 in
theorem la_44 {X : KX} {g : KG} {b L a1 : Nat} {q : Nat → Nat} {xs : Nat → Int32} {j : Nat} (C : kC X g cL_law "MarkChainsLaw" room_1 4) (hs : kScr X b L xs) (hj : 6 * j + 6 ≤ L) (hL : L ≤ 3072) {RL : XS → MS → Prop} (hop : ∀ (T : XS) (M : MS) (a1 : Int32) (a2 : Int32) (a3 : Int32), RL T M → ∃ (r : Int32) (T' : XS) (M' : MS), fo_drought T a1 a2 a3 = some (r, T') ∧ fm_drought M a1 a2 a3 = some (r, M') ∧ RL T' M') (tl : ∀ (T' : XS) (M' : MS) (w1 : va_W), RL T' M' → cF g a1 T' w1 → jJ X g () (w1 ++ mw g q M') (100 + 30 * (j + 1)) (22000 + 677 * (j + 1)) 1834 [(0, .ref b), (1, .ref a1), (2, .ref (q 0)), (3, .int (nI (6 * j)))] [] (some ())) (T : XS) (M : MS) (w : va_W) (hRL : RL T M) (hT : cF g a1 T w) : jJ X g () (w ++ mw g q M) (100 + 30 * j) (22000 + 677 * j) 1712 [(0, .ref b), (1, .ref a1), (2, .ref (q 0)), (3, .int (nI (6 * j)))] [] (some ()) := by
  obtain ⟨r, T', M', h1, h2, h3⟩ := hop T M (xs (nI (6 * j) + 1).toNatClampNeg) (xs (nI (6 * j) + 2).toNatClampNeg) (xs (nI (6 * j) + 3).toNatClampNeg) hRL
  obtain ⟨fs, he⟩ := cF_head hT
  refine r_aload_n (pc := 1712) C dL_law_1712 1 rfl ?_
  refine r_aload_n (pc := 1713) C dL_law_1713 0 rfl ?_
  refine r_iload_n (pc := 1714) C dL_law_1714 3 rfl ?_
  refine r_iconst (pc := 1715) C dL_law_1715 (v := 1) (by decide) ?_
  refine r_iadd (pc := 1716) C dL_law_1716 ?_
  refine r_sld (pc := 1717) C hs (vin_k (k := 1) hj hL (by decide)) dL_law_1717 ?_
  refine r_aload_n (pc := 1718) C dL_law_1718 0 rfl ?_
  refine r_iload_n (pc := 1719) C dL_law_1719 3 rfl ?_
  refine r_iconst (pc := 1720) C dL_law_1720 (v := 2) (by decide) ?_
  refine r_iadd (pc := 1721) C dL_law_1721 ?_
  refine r_sld (pc := 1722) C hs (vin_k (k := 2) hj hL (by decide)) dL_law_1722 ?_
  refine r_aload_n (pc := 1723) C dL_law_1723 0 rfl ?_
  refine r_iload_n (pc := 1724) C dL_law_1724 3 rfl ?_
  refine r_iconst (pc := 1725) C dL_law_1725 (v := 3) (by decide) ?_
  refine r_iadd (pc := 1726) C dL_law_1726 ?_
  refine r_sld (pc := 1727) C hs (vin_k (k := 3) hj hL (by decide)) dL_law_1727 ?_
  refine (?_ : jJ X g () _ _ _ _ _ _ (bp (some ()) (fun _ => some ())))
  refine r_cVx (α := Unit) (fN := some ()) (Φ := fun _ o w => o = some (.int r) ∧ cF g a1 T' w) (wc := w) (wr := mw g q M) (As := [.int (xs (nI (6 * j) + 1).toNatClampNeg), .int (xs (nI (6 * j) + 2).toNatClampNeg), .int (xs (nI (6 * j) + 3).toNatClampNeg)]) (st := []) (mc := 0) (ms := 0) (pc := 1728) C (fun _ _ => o_drought hT h1) kY_X11_drought kw_5_197 kw_5_198 kw_5_196 rfl ⟨Nat.le_of_ble_eq_true rfl, Nat.le_of_ble_eq_true rfl⟩ rfl rfl ⟨by show 100 + 30 * j + 0 ≤ 600000; omega, by show 22000 + 677 * j + 0 ≤ 7302250; omega⟩ rfl 0 he rfl rfl (Nat.le_of_ble_eq_true rfl) dL_law_1728 (fun _ o w1 hw => ?_)
  obtain ⟨rfl, hw⟩ := hw
  refine r_aload_n (pc := 1731) C dL_law_1731 2 rfl ?_
  refine r_aload_n (pc := 1732) C dL_law_1732 0 rfl ?_
  refine r_iload_n (pc := 1733) C dL_law_1733 3 rfl ?_
  refine r_iconst (pc := 1734) C dL_law_1734 (v := 1) (by decide) ?_
  refine r_iadd (pc := 1735) C dL_law_1735 ?_
  refine r_sld (pc := 1736) C hs (vin_k (k := 1) hj hL (by decide)) dL_law_1736 ?_
  refine r_aload_n (pc := 1737) C dL_law_1737 0 rfl ?_
  refine r_iload_n (pc := 1738) C dL_law_1738 3 rfl ?_
  refine r_iconst (pc := 1739) C dL_law_1739 (v := 2) (by decide) ?_
  refine r_iadd (pc := 1740) C dL_law_1740 ?_
  refine r_sld (pc := 1741) C hs (vin_k (k := 2) hj hL (by decide)) dL_law_1741 ?_
  refine r_aload_n (pc := 1742) C dL_law_1742 0 rfl ?_
  refine r_iload_n (pc := 1743) C dL_law_1743 3 rfl ?_
  refine r_iconst (pc := 1744) C dL_law_1744 (v := 3) (by decide) ?_
  refine r_iadd (pc := 1745) C dL_law_1745 ?_
  refine r_sld (pc := 1746) C hs (vin_k (k := 3) hj hL (by decide)) dL_law_1746 ?_
  refine r_perm (ws' := mw g q M ++ w1) k_p2 ?_
  refine (?_ : jJ X g () _ _ _ _ _ _ (bp (some ()) (fun _ => some ())))
  refine r_cVx (α := Unit) (fN := some ()) (Φ := fun _ o w => o = some (.int r) ∧ w = mw g q M') (wc := mw g q M) (wr := w1) (As := [.int (xs (nI (6 * j) + 1).toNatClampNeg), .int (xs (nI (6 * j) + 2).toNatClampNeg), .int (xs (nI (6 * j) + 3).toNatClampNeg)]) (st := [.int r]) (mc := 0) (ms := 0) (pc := 1747) C (fun _ _ l => (p_drought h2 l).x ⟨rfl, rfl⟩) kY_X12_drought kw_8_47 kw_8_48 kw_8_46 rfl ⟨Nat.le_of_ble_eq_true rfl, Nat.le_of_ble_eq_true rfl⟩ rfl rfl ⟨by show 100 + 30 * j + 0 + 0 ≤ 600000; omega, by show 22000 + 677 * j + 0 + 0 ≤ 7302250; omega⟩ rfl 0 rfl rfl rfl (Nat.le_of_ble_eq_true rfl) dL_law_1747 (fun _ o w2 hw2 => ?_)
  obtain ⟨rfl, rfl⟩ := hw2
  refine r_perm (ws' := w1 ++ mw g q M') k_p2 ?_
  refine r_eqT 1834 (pc := 1750) C dL_law_1750 (by decide) ?_
  refine r_widen (a' := 100 + 30 * (j + 1)) (b' := 22000 + 677 * (j + 1)) (by show 100 + 30 * j + 0 + 0 ≤ _; omega) (by show 22000 + 677 * j + 0 + 0 ≤ _; omega) ?_
  exact tl T' M' w1 h3 hw
set_option maxRecDepth 100000 in
set_option maxHeartbeats 4000000 in
theorem la_45 {X : KX} {g : KG} {b L a1 : Nat} {q : Nat → Nat} {xs : Nat → Int32} {j : Nat} (C : kC X g cL_law "MarkChainsLaw" room_1 4) (hs : kScr X b L xs) (hj : 6 * j + 6 ≤ L) (hL : L ≤ 3072) {RL : XS → MS → Prop} (hop : ∀ (T : XS) (M : MS), RL T M → ∃ (r : Int32) (T' : XS) (M' : MS), fo_back T = some (r, T') ∧ fm_back M = some (r, M') ∧ RL T' M') (tl : ∀ (T' : XS) (M' : MS) (w1 : va_W), RL T' M' → cF g a1 T' w1 → jJ X g () (w1 ++ mw g q M') (100 + 30 * (j + 1)) (22000 + 677 * (j + 1)) 1834 [(0, .ref b), (1, .ref a1), (2, .ref (q 0)), (3, .int (nI (6 * j)))] [] (some ())) (T : XS) (M : MS) (w : va_W) (hRL : RL T M) (hT : cF g a1 T w) : jJ X g () (w ++ mw g q M) (100 + 30 * j) (22000 + 677 * j) 1755 [(0, .ref b), (1, .ref a1), (2, .ref (q 0)), (3, .int (nI (6 * j)))] [] (some ()) := by
  obtain ⟨r, T', M', h1, h2, h3⟩ := hop T M hRL
  obtain ⟨fs, he⟩ := cF_head hT
  refine r_aload_n (pc := 1755) C dL_law_1755 1 rfl ?_
  refine (?_ : jJ X g () _ _ _ _ _ _ (bp (some ()) (fun _ => some ())))
  refine r_cVx (α := Unit) (fN := some ()) (Φ := fun _ o w => o = some (.int r) ∧ cF g a1 T' w) (wc := w) (wr := mw g q M) (As := []) (st := []) (mc := 0) (ms := 0) (pc := 1756) C (fun _ _ => o_back hT h1) kY_X11_back kw_5_206 kw_5_207 kw_5_205 rfl ⟨Nat.le_of_ble_eq_true rfl, Nat.le_of_ble_eq_true rfl⟩ rfl rfl ⟨by show 100 + 30 * j + 0 ≤ 600000; omega, by show 22000 + 677 * j + 0 ≤ 7302250; omega⟩ rfl 0 he rfl rfl (Nat.le_of_ble_eq_true rfl) dL_law_1756 (fun _ o w1 hw => ?_)
  obtain ⟨rfl, hw⟩ := hw
  refine r_aload_n (pc := 1759) C dL_law_1759 2 rfl ?_
  refine r_perm (ws' := mw g q M ++ w1) k_p2 ?_
  refine (?_ : jJ X g () _ _ _ _ _ _ (bp (some ()) (fun _ => some ())))
  refine r_cVx (α := Unit) (fN := some ()) (Φ := fun _ o w => o = some (.int r) ∧ w = mw g q M') (wc := mw g q M) (wr := w1) (As := []) (st := [.int r]) (mc := 0) (ms := 0) (pc := 1760) C (fun _ _ l => (p_back h2 l).x ⟨rfl, rfl⟩) kY_X12_back kw_6_108 kw_6_109 kw_6_107 rfl ⟨Nat.le_of_ble_eq_true rfl, Nat.le_of_ble_eq_true rfl⟩ rfl rfl ⟨by show 100 + 30 * j + 0 + 0 ≤ 600000; omega, by show 22000 + 677 * j + 0 + 0 ≤ 7302250; omega⟩ rfl 0 rfl rfl rfl (Nat.le_of_ble_eq_true rfl) dL_law_1760 (fun _ o w2 hw2 => ?_)
  obtain ⟨rfl, rfl⟩ := hw2
  refine r_perm (ws' := w1 ++ mw g q M') k_p2 ?_
  refine r_eqT 1834 (pc := 1763) C dL_law_1763 (by decide) ?_
  refine r_widen (a' := 100 + 30 * (j + 1)) (b' := 22000 + 677 * (j + 1)) (by show 100 + 30 * j + 0 + 0 ≤ _; omega) (by show 22000 + 677 * j + 0 + 0 ≤ _; omega) ?_
  exact tl T' M' w1 h3 hw
set_option maxRecDepth 100000 in
set_option maxHeartbeats 4000000 in
theorem la_46 {X : KX} {g : KG} {b L a1 : Nat} {q : Nat → Nat} {xs : Nat → Int32} {j : Nat} (C : kC X g cL_law "MarkChainsLaw" room_1 4) (hs : kScr X b L xs) (hj : 6 * j + 6 ≤ L) (hL : L ≤ 3072) {RL : XS → MS → Prop} (hop : ∀ (T : XS) (M : MS) (a1 : Int32) (a2 : Int32) (a3 : Int32), RL T M → ∃ (r : Int32) (T' : XS) (M' : MS), fo_write T a1 a2 a3 = some (r, T') ∧ fm_write M a1 a2 a3 = some (r, M') ∧ RL T' M') (tl : ∀ (T' : XS) (M' : MS) (w1 : va_W), RL T' M' → cF g a1 T' w1 → jJ X g () (w1 ++ mw g q M') (100 + 30 * (j + 1)) (22000 + 677 * (j + 1)) 1834 [(0, .ref b), (1, .ref a1), (2, .ref (q 0)), (3, .int (nI (6 * j)))] [] (some ())) (T : XS) (M : MS) (w : va_W) (hRL : RL T M) (hT : cF g a1 T w) : jJ X g () (w ++ mw g q M) (100 + 30 * j) (22000 + 677 * j) 1768 [(0, .ref b), (1, .ref a1), (2, .ref (q 0)), (3, .int (nI (6 * j)))] [] (some ()) := by
  obtain ⟨r, T', M', h1, h2, h3⟩ := hop T M (xs (nI (6 * j) + 1).toNatClampNeg) (xs (nI (6 * j) + 2).toNatClampNeg) (xs (nI (6 * j) + 3).toNatClampNeg) hRL
  obtain ⟨fs, he⟩ := cF_head hT
  refine r_aload_n (pc := 1768) C dL_law_1768 1 rfl ?_
  refine r_aload_n (pc := 1769) C dL_law_1769 0 rfl ?_
  refine r_iload_n (pc := 1770) C dL_law_1770 3 rfl ?_
  refine r_iconst (pc := 1771) C dL_law_1771 (v := 1) (by decide) ?_
  refine r_iadd (pc := 1772) C dL_law_1772 ?_
  refine r_sld (pc := 1773) C hs (vin_k (k := 1) hj hL (by decide)) dL_law_1773 ?_
  refine r_aload_n (pc := 1774) C dL_law_1774 0 rfl ?_
  refine r_iload_n (pc := 1775) C dL_law_1775 3 rfl ?_
  refine r_iconst (pc := 1776) C dL_law_1776 (v := 2) (by decide) ?_
  refine r_iadd (pc := 1777) C dL_law_1777 ?_
  refine r_sld (pc := 1778) C hs (vin_k (k := 2) hj hL (by decide)) dL_law_1778 ?_
  refine r_aload_n (pc := 1779) C dL_law_1779 0 rfl ?_
  refine r_iload_n (pc := 1780) C dL_law_1780 3 rfl ?_
  refine r_iconst (pc := 1781) C dL_law_1781 (v := 3) (by decide) ?_
  refine r_iadd (pc := 1782) C dL_law_1782 ?_
  refine r_sld (pc := 1783) C hs (vin_k (k := 3) hj hL (by decide)) dL_law_1783 ?_
  refine (?_ : jJ X g () _ _ _ _ _ _ (bp (some ()) (fun _ => some ())))
  refine r_cVx (α := Unit) (fN := some ()) (Φ := fun _ o w => o = some (.int r) ∧ cF g a1 T' w) (wc := w) (wr := mw g q M) (As := [.int (xs (nI (6 * j) + 1).toNatClampNeg), .int (xs (nI (6 * j) + 2).toNatClampNeg), .int (xs (nI (6 * j) + 3).toNatClampNeg)]) (st := []) (mc := 0) (ms := 0) (pc := 1784) C (fun _ _ => o_write hT h1) kY_X11_write kw_5_222 kw_5_223 kw_5_221 rfl ⟨Nat.le_of_ble_eq_true rfl, Nat.le_of_ble_eq_true rfl⟩ rfl rfl ⟨by show 100 + 30 * j + 0 ≤ 600000; omega, by show 22000 + 677 * j + 0 ≤ 7302250; omega⟩ rfl 0 he rfl rfl (Nat.le_of_ble_eq_true rfl) dL_law_1784 (fun _ o w1 hw => ?_)
  obtain ⟨rfl, hw⟩ := hw
  refine r_aload_n (pc := 1787) C dL_law_1787 2 rfl ?_
  refine r_aload_n (pc := 1788) C dL_law_1788 0 rfl ?_
  refine r_iload_n (pc := 1789) C dL_law_1789 3 rfl ?_
  refine r_iconst (pc := 1790) C dL_law_1790 (v := 1) (by decide) ?_
  refine r_iadd (pc := 1791) C dL_law_1791 ?_
  refine r_sld (pc := 1792) C hs (vin_k (k := 1) hj hL (by decide)) dL_law_1792 ?_
  refine r_aload_n (pc := 1793) C dL_law_1793 0 rfl ?_
  refine r_iload_n (pc := 1794) C dL_law_1794 3 rfl ?_
  refine r_iconst (pc := 1795) C dL_law_1795 (v := 2) (by decide) ?_
  refine r_iadd (pc := 1796) C dL_law_1796 ?_
  refine r_sld (pc := 1797) C hs (vin_k (k := 2) hj hL (by decide)) dL_law_1797 ?_
  refine r_aload_n (pc := 1798) C dL_law_1798 0 rfl ?_
  refine r_iload_n (pc := 1799) C dL_law_1799 3 rfl ?_
  refine r_iconst (pc := 1800) C dL_law_1800 (v := 3) (by decide) ?_
  refine r_iadd (pc := 1801) C dL_law_1801 ?_
  refine r_sld (pc := 1802) C hs (vin_k (k := 3) hj hL (by decide)) dL_law_1802 ?_
  refine r_perm (ws' := mw g q M ++ w1) k_p2 ?_
  refine (?_ : jJ X g () _ _ _ _ _ _ (bp (some ()) (fun _ => some ())))
  refine r_cVx (α := Unit) (fN := some ()) (Φ := fun _ o w => o = some (.int r) ∧ w = mw g q M') (wc := mw g q M) (wr := w1) (As := [.int (xs (nI (6 * j) + 1).toNatClampNeg), .int (xs (nI (6 * j) + 2).toNatClampNeg), .int (xs (nI (6 * j) + 3).toNatClampNeg)]) (st := [.int r]) (mc := 0) (ms := 0) (pc := 1803) C (fun _ _ l => (p_write h2 l).x ⟨rfl, rfl⟩) kY_X12_write kw_8_80 kw_8_81 kw_8_79 rfl ⟨Nat.le_of_ble_eq_true rfl, Nat.le_of_ble_eq_true rfl⟩ rfl rfl ⟨by show 100 + 30 * j + 0 + 0 ≤ 600000; omega, by show 22000 + 677 * j + 0 + 0 ≤ 7302250; omega⟩ rfl 0 rfl rfl rfl (Nat.le_of_ble_eq_true rfl) dL_law_1803 (fun _ o w2 hw2 => ?_)
  obtain ⟨rfl, rfl⟩ := hw2
  refine r_perm (ws' := w1 ++ mw g q M') k_p2 ?_
  refine r_eqT 1834 (pc := 1806) C dL_law_1806 (by decide) ?_
  refine r_widen (a' := 100 + 30 * (j + 1)) (b' := 22000 + 677 * (j + 1)) (by show 100 + 30 * j + 0 + 0 ≤ _; omega) (by show 22000 + 677 * j + 0 + 0 ≤ _; omega) ?_
  exact tl T' M' w1 h3 hw
set_option maxRecDepth 100000 in
set_option maxHeartbeats 4000000 in
theorem la_47 {X : KX} {g : KG} {b L a1 : Nat} {q : Nat → Nat} {xs : Nat → Int32} {j : Nat} (C : kC X g cL_law "MarkChainsLaw" room_1 4) (hs : kScr X b L xs) (hj : 6 * j + 6 ≤ L) (hL : L ≤ 3072) {RL : XS → MS → Prop} (hop : ∀ (T : XS) (M : MS) (a1 : Int32), RL T M → ∃ (r : Int32) (T' : XS) (M' : MS), fo_octet T a1 = some (r, T') ∧ fm_octet M a1 = some (r, M') ∧ RL T' M') (tl : ∀ (T' : XS) (M' : MS) (w1 : va_W), RL T' M' → cF g a1 T' w1 → jJ X g () (w1 ++ mw g q M') (100 + 30 * (j + 1)) (22000 + 677 * (j + 1)) 1834 [(0, .ref b), (1, .ref a1), (2, .ref (q 0)), (3, .int (nI (6 * j)))] [] (some ())) (T : XS) (M : MS) (w : va_W) (hRL : RL T M) (hT : cF g a1 T w) : jJ X g () (w ++ mw g q M) (100 + 30 * j) (22000 + 677 * j) 1811 [(0, .ref b), (1, .ref a1), (2, .ref (q 0)), (3, .int (nI (6 * j)))] [] (some ()) := by
  obtain ⟨r, T', M', h1, h2, h3⟩ := hop T M (xs (nI (6 * j) + 1).toNatClampNeg) hRL
  obtain ⟨fs, he⟩ := cF_head hT
  refine r_aload_n (pc := 1811) C dL_law_1811 1 rfl ?_
  refine r_aload_n (pc := 1812) C dL_law_1812 0 rfl ?_
  refine r_iload_n (pc := 1813) C dL_law_1813 3 rfl ?_
  refine r_iconst (pc := 1814) C dL_law_1814 (v := 1) (by decide) ?_
  refine r_iadd (pc := 1815) C dL_law_1815 ?_
  refine r_sld (pc := 1816) C hs (vin_k (k := 1) hj hL (by decide)) dL_law_1816 ?_
  refine (?_ : jJ X g () _ _ _ _ _ _ (bp (some ()) (fun _ => some ())))
  refine r_cVx (α := Unit) (fN := some ()) (Φ := fun _ o w => o = some (.int r) ∧ cF g a1 T' w) (wc := w) (wr := mw g q M) (As := [.int (xs (nI (6 * j) + 1).toNatClampNeg)]) (st := []) (mc := 0) (ms := 0) (pc := 1817) C (fun _ _ => o_octet hT h1) kY_X11_octet kw_5_237 kw_5_238 kw_5_236 rfl ⟨Nat.le_of_ble_eq_true rfl, Nat.le_of_ble_eq_true rfl⟩ rfl rfl ⟨by show 100 + 30 * j + 0 ≤ 600000; omega, by show 22000 + 677 * j + 0 ≤ 7302250; omega⟩ rfl 0 he rfl rfl (Nat.le_of_ble_eq_true rfl) dL_law_1817 (fun _ o w1 hw => ?_)
  obtain ⟨rfl, hw⟩ := hw
  refine r_aload_n (pc := 1820) C dL_law_1820 2 rfl ?_
  refine r_aload_n (pc := 1821) C dL_law_1821 0 rfl ?_
  refine r_iload_n (pc := 1822) C dL_law_1822 3 rfl ?_
  refine r_iconst (pc := 1823) C dL_law_1823 (v := 1) (by decide) ?_
  refine r_iadd (pc := 1824) C dL_law_1824 ?_
  refine r_sld (pc := 1825) C hs (vin_k (k := 1) hj hL (by decide)) dL_law_1825 ?_
  refine r_perm (ws' := mw g q M ++ w1) k_p2 ?_
  refine (?_ : jJ X g () _ _ _ _ _ _ (bp (some ()) (fun _ => some ())))
  refine r_cVx (α := Unit) (fN := some ()) (Φ := fun _ o w => o = some (.int r) ∧ w = mw g q M') (wc := mw g q M) (wr := w1) (As := [.int (xs (nI (6 * j) + 1).toNatClampNeg)]) (st := [.int r]) (mc := 0) (ms := 0) (pc := 1826) C (fun _ _ l => (p_octet h2 l).x ⟨rfl, rfl⟩) kY_X12_octet kw_8_92 kw_8_93 kw_8_91 rfl ⟨Nat.le_of_ble_eq_true rfl, Nat.le_of_ble_eq_true rfl⟩ rfl rfl ⟨by show 100 + 30 * j + 0 + 0 ≤ 600000; omega, by show 22000 + 677 * j + 0 + 0 ≤ 7302250; omega⟩ rfl 0 rfl rfl rfl (Nat.le_of_ble_eq_true rfl) dL_law_1826 (fun _ o w2 hw2 => ?_)
  obtain ⟨rfl, rfl⟩ := hw2
  refine r_perm (ws' := w1 ++ mw g q M') k_p2 ?_
  refine r_eqT 1834 (pc := 1829) C dL_law_1829 (by decide) ?_
  refine r_widen (a' := 100 + 30 * (j + 1)) (b' := 22000 + 677 * (j + 1)) (by show 100 + 30 * j + 0 + 0 ≤ _; omega) (by show 22000 + 677 * j + 0 + 0 ≤ _; omega) ?_
  exact tl T' M' w1 h3 hw
