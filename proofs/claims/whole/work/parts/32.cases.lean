set_option maxRecDepth 20000 in
set_option maxHeartbeats 4000000 in
theorem lawc_0 {κ : Cxt} {R : St → Prop} {b L : Nat} {xs : Nat → Int32} {cs : Nat × Nat} {Q : State → Prop} (C : Cx κ RL cL_law 4 ret 11) (T : isT κ) (hcs : csOK κ (cs.1 + 2, cs.2 + 84)) (hX : scX κ b L xs) (hO : OP0 R) {i : Int} (hL : L ≤ 3584) (hi : 0 ≤ i ∧ i + 7 ≤ (L : Int)) (kz : ∀ ad σ, R σ → Z κ (cs.1 + 2, cs.2 + 84) Q 2170 [(0, .ref b), (1, vo ad 11 (some 0)), (2, vo ad 12 (some 0)), (3, vi i)] [] ad σ) : ∀ ad σ, R σ → Z κ cs Q 248 [(0, .ref b), (1, vo ad 11 (some 0)), (2, vo ad 12 (some 0)), (3, vi i)] [] ad σ := by
  intro ad σ hR
  refine z_sf T (fun hSF => ?_)
  have hii : inr i := by constructor <;> omega
  have hc0 : csOK κ cs := csOK_le hcs (by omega) (by omega)
  refine z_aload_n C 1 dL_law_248 rfl ?_
  refine z_aloadR C 0 dL_law_249 rfl ?_
  refine z_iload_n C 3 dL_law_250 rfl ?_
  refine z_iconst C dL_law_251 ?_
  refine z_iadd C dL_law_252 ?_
  refine z_sld C hX (x := i + 1) (by constructor <;> omega) (by omega) dL_law_253 ?_
  show Z κ cs Q 254 _ [vi (sc xs i 1), vo ad 11 (some 0)] ad σ
  have h := hO (sc xs i 1) inr_sc σ hSF hR
  refine z_cV (st := []) T C (ct_X11_pass (sc xs i 1) inr_sc) lm_L_13 lv_vX11_pass dL_law_254 [vi (sc xs i 1)] rfl rfl rfl rfl rfl (sg_11 T) trivial (by decide) (Nat.le_of_ble_eq_true rfl) hc0 h (fun r1 σ1 hr1 eN0 h => ?_)
  show Z κ cs Q 257 [(0, .ref b), (1, vo ad 11 (some 0)), (2, vo ad 12 (some 0)), (3, vi i)] [vi r1] ad σ1
  refine z_aload_n C 2 dL_law_257 rfl ?_
  refine z_aloadR C 0 dL_law_258 rfl ?_
  refine z_iload_n C 3 dL_law_259 rfl ?_
  refine z_iconst C dL_law_260 ?_
  refine z_iadd C dL_law_261 ?_
  refine z_sld C hX (x := i + 1) (by constructor <;> omega) (by omega) dL_law_262 ?_
  show Z κ cs Q 263 _ [vi (sc xs i 1), vo ad 12 (some 0), vi r1] ad σ1
  refine z_cV (st := [vi r1]) T C (ct_X12_pass (sc xs i 1) inr_sc) lm_L_17 lv_vX12_pass dL_law_263 [vi (sc xs i 1)] rfl rfl rfl rfl rfl (sg_12 T) trivial (by decide) (Nat.le_of_ble_eq_true rfl) hc0 h (fun r2 σ2 hr2 eN1 h => ?_)
  show Z κ cs Q 266 [(0, .ref b), (1, vo ad 11 (some 0)), (2, vo ad 12 (some 0)), (3, vi i)] [vi r2, vi r1] ad σ2
  obtain ⟨⟨he, hR2⟩, -⟩ := wpO_ckp.mp h
  refine z_icmp_eq C 2170 hr1 hr2 dL_law_266 (by decide) (fun q => ?_) (fun q => absurd he q)
  refine z_widen (k := cs.1 + 2) (n := cs.2 + 84) (by show _ ≤ _; omega) (by show _ ≤ _; omega) ?_
  exact kz _ _ hR2
set_option maxRecDepth 20000 in
set_option maxHeartbeats 4000000 in
theorem lawc_1 {κ : Cxt} {R : St → Prop} {b L : Nat} {xs : Nat → Int32} {cs : Nat × Nat} {Q : State → Prop} (C : Cx κ RL cL_law 4 ret 11) (T : isT κ) (hcs : csOK κ (cs.1 + 2, cs.2 + 84)) (hX : scX κ b L xs) (hO : OP1 R) {i : Int} (hL : L ≤ 3584) (hi : 0 ≤ i ∧ i + 7 ≤ (L : Int)) (kz : ∀ ad σ, R σ → Z κ (cs.1 + 2, cs.2 + 84) Q 2170 [(0, .ref b), (1, vo ad 11 (some 0)), (2, vo ad 12 (some 0)), (3, vi i)] [] ad σ) : ∀ ad σ, R σ → Z κ cs Q 271 [(0, .ref b), (1, vo ad 11 (some 0)), (2, vo ad 12 (some 0)), (3, vi i)] [] ad σ := by
  intro ad σ hR
  refine z_sf T (fun hSF => ?_)
  have hii : inr i := by constructor <;> omega
  have hc0 : csOK κ cs := csOK_le hcs (by omega) (by omega)
  refine z_aload_n C 1 dL_law_271 rfl ?_
  refine z_aloadR C 0 dL_law_272 rfl ?_
  refine z_iload_n C 3 dL_law_273 rfl ?_
  refine z_iconst C dL_law_274 ?_
  refine z_iadd C dL_law_275 ?_
  refine z_sld C hX (x := i + 1) (by constructor <;> omega) (by omega) dL_law_276 ?_
  show Z κ cs Q 277 _ [vi (sc xs i 1), vo ad 11 (some 0)] ad σ
  refine z_aloadR C 0 dL_law_277 rfl ?_
  refine z_iload_n C 3 dL_law_278 rfl ?_
  refine z_iconst C dL_law_279 ?_
  refine z_iadd C dL_law_280 ?_
  refine z_sld C hX (x := i + 2) (by constructor <;> omega) (by omega) dL_law_281 ?_
  show Z κ cs Q 282 _ [vi (sc xs i 2), vi (sc xs i 1), vo ad 11 (some 0)] ad σ
  refine z_aloadR C 0 dL_law_282 rfl ?_
  refine z_iload_n C 3 dL_law_283 rfl ?_
  refine z_iconst C dL_law_284 ?_
  refine z_iadd C dL_law_285 ?_
  refine z_sld C hX (x := i + 3) (by constructor <;> omega) (by omega) dL_law_286 ?_
  show Z κ cs Q 287 _ [vi (sc xs i 3), vi (sc xs i 2), vi (sc xs i 1), vo ad 11 (some 0)] ad σ
  refine z_aloadR C 0 dL_law_287 rfl ?_
  refine z_iload_n C 3 dL_law_288 rfl ?_
  refine z_iconst C dL_law_289 ?_
  refine z_iadd C dL_law_290 ?_
  refine z_sld C hX (x := i + 4) (by constructor <;> omega) (by omega) dL_law_291 ?_
  show Z κ cs Q 292 _ [vi (sc xs i 4), vi (sc xs i 3), vi (sc xs i 2), vi (sc xs i 1), vo ad 11 (some 0)] ad σ
  refine z_aloadR C 0 dL_law_292 rfl ?_
  refine z_iload_n C 3 dL_law_293 rfl ?_
  refine z_iconst C dL_law_294 ?_
  refine z_iadd C dL_law_295 ?_
  refine z_sld C hX (x := i + 5) (by constructor <;> omega) (by omega) dL_law_296 ?_
  show Z κ cs Q 297 _ [vi (sc xs i 5), vi (sc xs i 4), vi (sc xs i 3), vi (sc xs i 2), vi (sc xs i 1), vo ad 11 (some 0)] ad σ
  refine z_aloadR C 0 dL_law_297 rfl ?_
  refine z_iload_n C 3 dL_law_298 rfl ?_
  refine z_bipush C dL_law_299 (by decide) ?_
  refine z_iadd C dL_law_301 ?_
  refine z_sld C hX (x := i + 6) (by constructor <;> omega) (by omega) dL_law_302 ?_
  show Z κ cs Q 303 _ [vi (sc xs i 6), vi (sc xs i 5), vi (sc xs i 4), vi (sc xs i 3), vi (sc xs i 2), vi (sc xs i 1), vo ad 11 (some 0)] ad σ
  have h := hO (sc xs i 1) (sc xs i 2) (sc xs i 3) (sc xs i 4) (sc xs i 5) (sc xs i 6) inr_sc inr_sc inr_sc inr_sc inr_sc inr_sc σ hSF hR
  refine z_cVA (st := []) T C (ct_X11_way (sc xs i 1) (sc xs i 2) (sc xs i 3) (sc xs i 4) (sc xs i 5) (sc xs i 6) inr_sc inr_sc inr_sc inr_sc inr_sc inr_sc) lm_L_18 lv_vX11_way dL_law_303 [vi (sc xs i 1), vi (sc xs i 2), vi (sc xs i 3), vi (sc xs i 4), vi (sc xs i 5), vi (sc xs i 6)] rfl rfl rfl rfl rfl (sg_11 T) trivial (by decide) (Nat.le_of_ble_eq_true rfl) (csOK_le hcs (by show _ ≤ _; omega) (by show _ ≤ _; omega)) h (fun r1 σ1 ad1 hr1 hg h => ?_)
  show Z κ (cs.1 + 1, cs.2 + 7) Q 306 [(0, .ref b), (1, vo ad 11 (some 0)), (2, vo ad 12 (some 0)), (3, vi i)] [vi r1] ad1 σ1
  have hs1 : 0 < gN σ 11 := by rw [hSF.2.2.1 11 (by decide)]; decide
  have hs2 : 0 < gN σ 12 := by rw [hSF.2.2.1 12 (by decide)]; decide
  rw [voG hg hs1, voG hg hs2]
  have hc1 : csOK κ (cs.1 + 1, cs.2 + 7) := csOK_le hcs (by show _ ≤ _; omega) (by show _ ≤ _; omega)
  show Z κ (cs.1 + 1, cs.2 + 7) Q 306 [(0, .ref b), (1, vo ad1 11 (some 0)), (2, vo ad1 12 (some 0)), (3, vi i)] [vi r1] ad1 σ1
  refine z_aload_n C 2 dL_law_306 rfl ?_
  refine z_aloadR C 0 dL_law_307 rfl ?_
  refine z_iload_n C 3 dL_law_308 rfl ?_
  refine z_iconst C dL_law_309 ?_
  refine z_iadd C dL_law_310 ?_
  refine z_sld C hX (x := i + 1) (by constructor <;> omega) (by omega) dL_law_311 ?_
  show Z κ (cs.1 + 1, cs.2 + 7) Q 312 _ [vi (sc xs i 1), vo ad1 12 (some 0), vi r1] ad1 σ1
  refine z_aloadR C 0 dL_law_312 rfl ?_
  refine z_iload_n C 3 dL_law_313 rfl ?_
  refine z_iconst C dL_law_314 ?_
  refine z_iadd C dL_law_315 ?_
  refine z_sld C hX (x := i + 2) (by constructor <;> omega) (by omega) dL_law_316 ?_
  show Z κ (cs.1 + 1, cs.2 + 7) Q 317 _ [vi (sc xs i 2), vi (sc xs i 1), vo ad1 12 (some 0), vi r1] ad1 σ1
  refine z_aloadR C 0 dL_law_317 rfl ?_
  refine z_iload_n C 3 dL_law_318 rfl ?_
  refine z_iconst C dL_law_319 ?_
  refine z_iadd C dL_law_320 ?_
  refine z_sld C hX (x := i + 3) (by constructor <;> omega) (by omega) dL_law_321 ?_
  show Z κ (cs.1 + 1, cs.2 + 7) Q 322 _ [vi (sc xs i 3), vi (sc xs i 2), vi (sc xs i 1), vo ad1 12 (some 0), vi r1] ad1 σ1
  refine z_aloadR C 0 dL_law_322 rfl ?_
  refine z_iload_n C 3 dL_law_323 rfl ?_
  refine z_iconst C dL_law_324 ?_
  refine z_iadd C dL_law_325 ?_
  refine z_sld C hX (x := i + 4) (by constructor <;> omega) (by omega) dL_law_326 ?_
  show Z κ (cs.1 + 1, cs.2 + 7) Q 327 _ [vi (sc xs i 4), vi (sc xs i 3), vi (sc xs i 2), vi (sc xs i 1), vo ad1 12 (some 0), vi r1] ad1 σ1
  refine z_aloadR C 0 dL_law_327 rfl ?_
  refine z_iload_n C 3 dL_law_328 rfl ?_
  refine z_iconst C dL_law_329 ?_
  refine z_iadd C dL_law_330 ?_
  refine z_sld C hX (x := i + 5) (by constructor <;> omega) (by omega) dL_law_331 ?_
  show Z κ (cs.1 + 1, cs.2 + 7) Q 332 _ [vi (sc xs i 5), vi (sc xs i 4), vi (sc xs i 3), vi (sc xs i 2), vi (sc xs i 1), vo ad1 12 (some 0), vi r1] ad1 σ1
  refine z_aloadR C 0 dL_law_332 rfl ?_
  refine z_iload_n C 3 dL_law_333 rfl ?_
  refine z_bipush C dL_law_334 (by decide) ?_
  refine z_iadd C dL_law_336 ?_
  refine z_sld C hX (x := i + 6) (by constructor <;> omega) (by omega) dL_law_337 ?_
  show Z κ (cs.1 + 1, cs.2 + 7) Q 338 _ [vi (sc xs i 6), vi (sc xs i 5), vi (sc xs i 4), vi (sc xs i 3), vi (sc xs i 2), vi (sc xs i 1), vo ad1 12 (some 0), vi r1] ad1 σ1
  refine z_cV (st := [vi r1]) T C (ct_X12_way (sc xs i 1) (sc xs i 2) (sc xs i 3) (sc xs i 4) (sc xs i 5) (sc xs i 6) inr_sc inr_sc inr_sc inr_sc inr_sc inr_sc) lm_L_22 lv_vX12_way dL_law_338 [vi (sc xs i 1), vi (sc xs i 2), vi (sc xs i 3), vi (sc xs i 4), vi (sc xs i 5), vi (sc xs i 6)] rfl rfl rfl rfl rfl (sg_12 T) trivial (by decide) (Nat.le_of_ble_eq_true rfl) hc1 h (fun r2 σ2 hr2 eN1 h => ?_)
  show Z κ (cs.1 + 1, cs.2 + 7) Q 341 [(0, .ref b), (1, vo ad1 11 (some 0)), (2, vo ad1 12 (some 0)), (3, vi i)] [vi r2, vi r1] ad1 σ2
  obtain ⟨⟨he, hR2⟩, -⟩ := wpO_ckp.mp h
  refine z_icmp_eq C 2170 hr1 hr2 dL_law_341 (by decide) (fun q => ?_) (fun q => absurd he q)
  refine z_widen (k := cs.1 + 2) (n := cs.2 + 84) (by show _ ≤ _; omega) (by show _ ≤ _; omega) ?_
  exact kz _ _ hR2
set_option maxRecDepth 20000 in
set_option maxHeartbeats 4000000 in
theorem lawc_2 {κ : Cxt} {R : St → Prop} {b L : Nat} {xs : Nat → Int32} {cs : Nat × Nat} {Q : State → Prop} (C : Cx κ RL cL_law 4 ret 11) (T : isT κ) (hcs : csOK κ (cs.1 + 2, cs.2 + 84)) (hX : scX κ b L xs) (hO : OP2 R) {i : Int} (hL : L ≤ 3584) (hi : 0 ≤ i ∧ i + 7 ≤ (L : Int)) (kz : ∀ ad σ, R σ → Z κ (cs.1 + 2, cs.2 + 84) Q 2170 [(0, .ref b), (1, vo ad 11 (some 0)), (2, vo ad 12 (some 0)), (3, vi i)] [] ad σ) : ∀ ad σ, R σ → Z κ cs Q 346 [(0, .ref b), (1, vo ad 11 (some 0)), (2, vo ad 12 (some 0)), (3, vi i)] [] ad σ := by
  intro ad σ hR
  refine z_sf T (fun hSF => ?_)
  have hii : inr i := by constructor <;> omega
  have hc0 : csOK κ cs := csOK_le hcs (by omega) (by omega)
  refine z_aload_n C 1 dL_law_346 rfl ?_
  refine z_aloadR C 0 dL_law_347 rfl ?_
  refine z_iload_n C 3 dL_law_348 rfl ?_
  refine z_iconst C dL_law_349 ?_
  refine z_iadd C dL_law_350 ?_
  refine z_sld C hX (x := i + 1) (by constructor <;> omega) (by omega) dL_law_351 ?_
  show Z κ cs Q 352 _ [vi (sc xs i 1), vo ad 11 (some 0)] ad σ
  have h := hO (sc xs i 1) inr_sc σ hSF hR
  refine z_cV (st := []) T C (ct_X11_shut (sc xs i 1) inr_sc) lm_L_23 lv_vX11_shut dL_law_352 [vi (sc xs i 1)] rfl rfl rfl rfl rfl (sg_11 T) trivial (by decide) (Nat.le_of_ble_eq_true rfl) hc0 h (fun r1 σ1 hr1 eN0 h => ?_)
  show Z κ cs Q 355 [(0, .ref b), (1, vo ad 11 (some 0)), (2, vo ad 12 (some 0)), (3, vi i)] [vi r1] ad σ1
  refine z_aload_n C 2 dL_law_355 rfl ?_
  refine z_aloadR C 0 dL_law_356 rfl ?_
  refine z_iload_n C 3 dL_law_357 rfl ?_
  refine z_iconst C dL_law_358 ?_
  refine z_iadd C dL_law_359 ?_
  refine z_sld C hX (x := i + 1) (by constructor <;> omega) (by omega) dL_law_360 ?_
  show Z κ cs Q 361 _ [vi (sc xs i 1), vo ad 12 (some 0), vi r1] ad σ1
  refine z_cV (st := [vi r1]) T C (ct_X12_shut (sc xs i 1) inr_sc) lm_L_26 lv_vX12_shut dL_law_361 [vi (sc xs i 1)] rfl rfl rfl rfl rfl (sg_12 T) trivial (by decide) (Nat.le_of_ble_eq_true rfl) hc0 h (fun r2 σ2 hr2 eN1 h => ?_)
  show Z κ cs Q 364 [(0, .ref b), (1, vo ad 11 (some 0)), (2, vo ad 12 (some 0)), (3, vi i)] [vi r2, vi r1] ad σ2
  obtain ⟨⟨he, hR2⟩, -⟩ := wpO_ckp.mp h
  refine z_icmp_eq C 2170 hr1 hr2 dL_law_364 (by decide) (fun q => ?_) (fun q => absurd he q)
  refine z_widen (k := cs.1 + 2) (n := cs.2 + 84) (by show _ ≤ _; omega) (by show _ ≤ _; omega) ?_
  exact kz _ _ hR2
set_option maxRecDepth 20000 in
set_option maxHeartbeats 4000000 in
theorem lawc_3 {κ : Cxt} {R : St → Prop} {b L : Nat} {xs : Nat → Int32} {cs : Nat × Nat} {Q : State → Prop} (C : Cx κ RL cL_law 4 ret 11) (T : isT κ) (hcs : csOK κ (cs.1 + 2, cs.2 + 84)) (hX : scX κ b L xs) (hO : OP3 R) {i : Int} (hL : L ≤ 3584) (hi : 0 ≤ i ∧ i + 7 ≤ (L : Int)) (kz : ∀ ad σ, R σ → Z κ (cs.1 + 2, cs.2 + 84) Q 2170 [(0, .ref b), (1, vo ad 11 (some 0)), (2, vo ad 12 (some 0)), (3, vi i)] [] ad σ) : ∀ ad σ, R σ → Z κ cs Q 369 [(0, .ref b), (1, vo ad 11 (some 0)), (2, vo ad 12 (some 0)), (3, vi i)] [] ad σ := by
  intro ad σ hR
  refine z_sf T (fun hSF => ?_)
  have hii : inr i := by constructor <;> omega
  have hc0 : csOK κ cs := csOK_le hcs (by omega) (by omega)
  refine z_aload_n C 1 dL_law_369 rfl ?_
  refine z_aloadR C 0 dL_law_370 rfl ?_
  refine z_iload_n C 3 dL_law_371 rfl ?_
  refine z_iconst C dL_law_372 ?_
  refine z_iadd C dL_law_373 ?_
  refine z_sld C hX (x := i + 1) (by constructor <;> omega) (by omega) dL_law_374 ?_
  show Z κ cs Q 375 _ [vi (sc xs i 1), vo ad 11 (some 0)] ad σ
  refine z_aloadR C 0 dL_law_375 rfl ?_
  refine z_iload_n C 3 dL_law_376 rfl ?_
  refine z_iconst C dL_law_377 ?_
  refine z_iadd C dL_law_378 ?_
  refine z_sld C hX (x := i + 2) (by constructor <;> omega) (by omega) dL_law_379 ?_
  show Z κ cs Q 380 _ [vi (sc xs i 2), vi (sc xs i 1), vo ad 11 (some 0)] ad σ
  refine z_aloadR C 0 dL_law_380 rfl ?_
  refine z_iload_n C 3 dL_law_381 rfl ?_
  refine z_iconst C dL_law_382 ?_
  refine z_iadd C dL_law_383 ?_
  refine z_sld C hX (x := i + 3) (by constructor <;> omega) (by omega) dL_law_384 ?_
  show Z κ cs Q 385 _ [vi (sc xs i 3), vi (sc xs i 2), vi (sc xs i 1), vo ad 11 (some 0)] ad σ
  refine z_aloadR C 0 dL_law_385 rfl ?_
  refine z_iload_n C 3 dL_law_386 rfl ?_
  refine z_iconst C dL_law_387 ?_
  refine z_iadd C dL_law_388 ?_
  refine z_sld C hX (x := i + 4) (by constructor <;> omega) (by omega) dL_law_389 ?_
  show Z κ cs Q 390 _ [vi (sc xs i 4), vi (sc xs i 3), vi (sc xs i 2), vi (sc xs i 1), vo ad 11 (some 0)] ad σ
  refine z_if_eq C 397 inr_sc dL_law_390 (by decide) (fun q0 => ?_) (fun q0 => ?_)
  · refine z_iconst C dL_law_397 ?_
    have h := hO (sc xs i 1) (sc xs i 2) (sc xs i 3) 0 inr_sc inr_sc inr_sc (by decide) σ hSF hR
    refine z_cV (st := []) T C (ct_X11_arrival (sc xs i 1) (sc xs i 2) (sc xs i 3) 0 inr_sc inr_sc inr_sc (by decide)) lm_L_27 lv_vX11_arrival dL_law_398 [vi (sc xs i 1), vi (sc xs i 2), vi (sc xs i 3), vi 0] rfl rfl rfl rfl rfl (sg_11 T) trivial (by decide) (Nat.le_of_ble_eq_true rfl) hc0 h (fun r1 σ1 hr1 eN0 h => ?_)
    show Z κ cs Q 401 [(0, .ref b), (1, vo ad 11 (some 0)), (2, vo ad 12 (some 0)), (3, vi i)] [vi r1] ad σ1
    refine z_aload_n C 2 dL_law_401 rfl ?_
    refine z_aloadR C 0 dL_law_402 rfl ?_
    refine z_iload_n C 3 dL_law_403 rfl ?_
    refine z_iconst C dL_law_404 ?_
    refine z_iadd C dL_law_405 ?_
    refine z_sld C hX (x := i + 1) (by constructor <;> omega) (by omega) dL_law_406 ?_
    show Z κ cs Q 407 _ [vi (sc xs i 1), vo ad 12 (some 0), vi r1] ad σ1
    refine z_aloadR C 0 dL_law_407 rfl ?_
    refine z_iload_n C 3 dL_law_408 rfl ?_
    refine z_iconst C dL_law_409 ?_
    refine z_iadd C dL_law_410 ?_
    refine z_sld C hX (x := i + 2) (by constructor <;> omega) (by omega) dL_law_411 ?_
    show Z κ cs Q 412 _ [vi (sc xs i 2), vi (sc xs i 1), vo ad 12 (some 0), vi r1] ad σ1
    refine z_aloadR C 0 dL_law_412 rfl ?_
    refine z_iload_n C 3 dL_law_413 rfl ?_
    refine z_iconst C dL_law_414 ?_
    refine z_iadd C dL_law_415 ?_
    refine z_sld C hX (x := i + 3) (by constructor <;> omega) (by omega) dL_law_416 ?_
    show Z κ cs Q 417 _ [vi (sc xs i 3), vi (sc xs i 2), vi (sc xs i 1), vo ad 12 (some 0), vi r1] ad σ1
    refine z_aloadR C 0 dL_law_417 rfl ?_
    refine z_iload_n C 3 dL_law_418 rfl ?_
    refine z_iconst C dL_law_419 ?_
    refine z_iadd C dL_law_420 ?_
    refine z_sld C hX (x := i + 4) (by constructor <;> omega) (by omega) dL_law_421 ?_
    show Z κ cs Q 422 _ [vi (sc xs i 4), vi (sc xs i 3), vi (sc xs i 2), vi (sc xs i 1), vo ad 12 (some 0), vi r1] ad σ1
    refine z_if_eq C 429 inr_sc dL_law_422 (by decide) (fun q => ?_) (fun q => ?_)
    rotate_left
    · exact absurd q0 q
    refine z_iconst C dL_law_429 ?_
    refine z_cV (st := [vi r1]) T C (ct_X12_arrival (sc xs i 1) (sc xs i 2) (sc xs i 3) 0 inr_sc inr_sc inr_sc (by decide)) lm_L_31 lv_vX12_arrival dL_law_430 [vi (sc xs i 1), vi (sc xs i 2), vi (sc xs i 3), vi 0] rfl rfl rfl rfl rfl (sg_12 T) trivial (by decide) (Nat.le_of_ble_eq_true rfl) hc0 h (fun r2 σ2 hr2 eN1 h => ?_)
    show Z κ cs Q 433 [(0, .ref b), (1, vo ad 11 (some 0)), (2, vo ad 12 (some 0)), (3, vi i)] [vi r2, vi r1] ad σ2
    obtain ⟨⟨he, hR2⟩, -⟩ := wpO_ckp.mp h
    refine z_icmp_eq C 2170 hr1 hr2 dL_law_433 (by decide) (fun q => ?_) (fun q => absurd he q)
    refine z_widen (k := cs.1 + 2) (n := cs.2 + 84) (by show _ ≤ _; omega) (by show _ ≤ _; omega) ?_
    exact kz _ _ hR2
  · refine z_iconst C dL_law_393 ?_
    refine z_goto C 398 dL_law_394 (by decide) ?_
    have h := hO (sc xs i 1) (sc xs i 2) (sc xs i 3) 1 inr_sc inr_sc inr_sc (by decide) σ hSF hR
    refine z_cV (st := []) T C (ct_X11_arrival (sc xs i 1) (sc xs i 2) (sc xs i 3) 1 inr_sc inr_sc inr_sc (by decide)) lm_L_27 lv_vX11_arrival dL_law_398 [vi (sc xs i 1), vi (sc xs i 2), vi (sc xs i 3), vi 1] rfl rfl rfl rfl rfl (sg_11 T) trivial (by decide) (Nat.le_of_ble_eq_true rfl) hc0 h (fun r1 σ1 hr1 eN0 h => ?_)
    show Z κ cs Q 401 [(0, .ref b), (1, vo ad 11 (some 0)), (2, vo ad 12 (some 0)), (3, vi i)] [vi r1] ad σ1
    refine z_aload_n C 2 dL_law_401 rfl ?_
    refine z_aloadR C 0 dL_law_402 rfl ?_
    refine z_iload_n C 3 dL_law_403 rfl ?_
    refine z_iconst C dL_law_404 ?_
    refine z_iadd C dL_law_405 ?_
    refine z_sld C hX (x := i + 1) (by constructor <;> omega) (by omega) dL_law_406 ?_
    show Z κ cs Q 407 _ [vi (sc xs i 1), vo ad 12 (some 0), vi r1] ad σ1
    refine z_aloadR C 0 dL_law_407 rfl ?_
    refine z_iload_n C 3 dL_law_408 rfl ?_
    refine z_iconst C dL_law_409 ?_
    refine z_iadd C dL_law_410 ?_
    refine z_sld C hX (x := i + 2) (by constructor <;> omega) (by omega) dL_law_411 ?_
    show Z κ cs Q 412 _ [vi (sc xs i 2), vi (sc xs i 1), vo ad 12 (some 0), vi r1] ad σ1
    refine z_aloadR C 0 dL_law_412 rfl ?_
    refine z_iload_n C 3 dL_law_413 rfl ?_
    refine z_iconst C dL_law_414 ?_
    refine z_iadd C dL_law_415 ?_
    refine z_sld C hX (x := i + 3) (by constructor <;> omega) (by omega) dL_law_416 ?_
    show Z κ cs Q 417 _ [vi (sc xs i 3), vi (sc xs i 2), vi (sc xs i 1), vo ad 12 (some 0), vi r1] ad σ1
    refine z_aloadR C 0 dL_law_417 rfl ?_
    refine z_iload_n C 3 dL_law_418 rfl ?_
    refine z_iconst C dL_law_419 ?_
    refine z_iadd C dL_law_420 ?_
    refine z_sld C hX (x := i + 4) (by constructor <;> omega) (by omega) dL_law_421 ?_
    show Z κ cs Q 422 _ [vi (sc xs i 4), vi (sc xs i 3), vi (sc xs i 2), vi (sc xs i 1), vo ad 12 (some 0), vi r1] ad σ1
    refine z_if_eq C 429 inr_sc dL_law_422 (by decide) (fun q => ?_) (fun q => ?_)
    · exact absurd q q0
    refine z_iconst C dL_law_425 ?_
    refine z_goto C 430 dL_law_426 (by decide) ?_
    refine z_cV (st := [vi r1]) T C (ct_X12_arrival (sc xs i 1) (sc xs i 2) (sc xs i 3) 1 inr_sc inr_sc inr_sc (by decide)) lm_L_31 lv_vX12_arrival dL_law_430 [vi (sc xs i 1), vi (sc xs i 2), vi (sc xs i 3), vi 1] rfl rfl rfl rfl rfl (sg_12 T) trivial (by decide) (Nat.le_of_ble_eq_true rfl) hc0 h (fun r2 σ2 hr2 eN1 h => ?_)
    show Z κ cs Q 433 [(0, .ref b), (1, vo ad 11 (some 0)), (2, vo ad 12 (some 0)), (3, vi i)] [vi r2, vi r1] ad σ2
    obtain ⟨⟨he, hR2⟩, -⟩ := wpO_ckp.mp h
    refine z_icmp_eq C 2170 hr1 hr2 dL_law_433 (by decide) (fun q => ?_) (fun q => absurd he q)
    refine z_widen (k := cs.1 + 2) (n := cs.2 + 84) (by show _ ≤ _; omega) (by show _ ≤ _; omega) ?_
    exact kz _ _ hR2
set_option maxRecDepth 20000 in
set_option maxHeartbeats 4000000 in
theorem lawc_4 {κ : Cxt} {R : St → Prop} {b L : Nat} {xs : Nat → Int32} {cs : Nat × Nat} {Q : State → Prop} (C : Cx κ RL cL_law 4 ret 11) (T : isT κ) (hcs : csOK κ (cs.1 + 2, cs.2 + 84)) (hX : scX κ b L xs) (hO : OP4 R) {i : Int} (hL : L ≤ 3584) (hi : 0 ≤ i ∧ i + 7 ≤ (L : Int)) (kz : ∀ ad σ, R σ → Z κ (cs.1 + 2, cs.2 + 84) Q 2170 [(0, .ref b), (1, vo ad 11 (some 0)), (2, vo ad 12 (some 0)), (3, vi i)] [] ad σ) : ∀ ad σ, R σ → Z κ cs Q 438 [(0, .ref b), (1, vo ad 11 (some 0)), (2, vo ad 12 (some 0)), (3, vi i)] [] ad σ := by
  intro ad σ hR
  refine z_sf T (fun hSF => ?_)
  have hii : inr i := by constructor <;> omega
  have hc0 : csOK κ cs := csOK_le hcs (by omega) (by omega)
  refine z_aload_n C 1 dL_law_438 rfl ?_
  refine z_aloadR C 0 dL_law_439 rfl ?_
  refine z_iload_n C 3 dL_law_440 rfl ?_
  refine z_iconst C dL_law_441 ?_
  refine z_iadd C dL_law_442 ?_
  refine z_sld C hX (x := i + 1) (by constructor <;> omega) (by omega) dL_law_443 ?_
  show Z κ cs Q 444 _ [vi (sc xs i 1), vo ad 11 (some 0)] ad σ
  refine z_aloadR C 0 dL_law_444 rfl ?_
  refine z_iload_n C 3 dL_law_445 rfl ?_
  refine z_iconst C dL_law_446 ?_
  refine z_iadd C dL_law_447 ?_
  refine z_sld C hX (x := i + 2) (by constructor <;> omega) (by omega) dL_law_448 ?_
  show Z κ cs Q 449 _ [vi (sc xs i 2), vi (sc xs i 1), vo ad 11 (some 0)] ad σ
  refine z_aloadR C 0 dL_law_449 rfl ?_
  refine z_iload_n C 3 dL_law_450 rfl ?_
  refine z_iconst C dL_law_451 ?_
  refine z_iadd C dL_law_452 ?_
  refine z_sld C hX (x := i + 3) (by constructor <;> omega) (by omega) dL_law_453 ?_
  show Z κ cs Q 454 _ [vi (sc xs i 3), vi (sc xs i 2), vi (sc xs i 1), vo ad 11 (some 0)] ad σ
  refine z_aloadR C 0 dL_law_454 rfl ?_
  refine z_iload_n C 3 dL_law_455 rfl ?_
  refine z_iconst C dL_law_456 ?_
  refine z_iadd C dL_law_457 ?_
  refine z_sld C hX (x := i + 4) (by constructor <;> omega) (by omega) dL_law_458 ?_
  show Z κ cs Q 459 _ [vi (sc xs i 4), vi (sc xs i 3), vi (sc xs i 2), vi (sc xs i 1), vo ad 11 (some 0)] ad σ
  refine z_aloadR C 0 dL_law_459 rfl ?_
  refine z_iload_n C 3 dL_law_460 rfl ?_
  refine z_iconst C dL_law_461 ?_
  refine z_iadd C dL_law_462 ?_
  refine z_sld C hX (x := i + 5) (by constructor <;> omega) (by omega) dL_law_463 ?_
  show Z κ cs Q 464 _ [vi (sc xs i 5), vi (sc xs i 4), vi (sc xs i 3), vi (sc xs i 2), vi (sc xs i 1), vo ad 11 (some 0)] ad σ
  refine z_aloadR C 0 dL_law_464 rfl ?_
  refine z_iload_n C 3 dL_law_465 rfl ?_
  refine z_bipush C dL_law_466 (by decide) ?_
  refine z_iadd C dL_law_468 ?_
  refine z_sld C hX (x := i + 6) (by constructor <;> omega) (by omega) dL_law_469 ?_
  show Z κ cs Q 470 _ [vi (sc xs i 6), vi (sc xs i 5), vi (sc xs i 4), vi (sc xs i 3), vi (sc xs i 2), vi (sc xs i 1), vo ad 11 (some 0)] ad σ
  have h := hO (sc xs i 1) (sc xs i 2) (sc xs i 3) (sc xs i 4) (sc xs i 5) (sc xs i 6) inr_sc inr_sc inr_sc inr_sc inr_sc inr_sc σ hSF hR
  refine z_cVA (st := []) T C (ct_X11_shot (sc xs i 1) (sc xs i 2) (sc xs i 3) (sc xs i 4) (sc xs i 5) (sc xs i 6) inr_sc inr_sc inr_sc inr_sc inr_sc inr_sc) lm_L_32 lv_vX11_shot dL_law_470 [vi (sc xs i 1), vi (sc xs i 2), vi (sc xs i 3), vi (sc xs i 4), vi (sc xs i 5), vi (sc xs i 6)] rfl rfl rfl rfl rfl (sg_11 T) trivial (by decide) (Nat.le_of_ble_eq_true rfl) (csOK_le hcs (by show _ ≤ _; omega) (by show _ ≤ _; omega)) h (fun r1 σ1 ad1 hr1 hg h => ?_)
  show Z κ (cs.1 + 1, cs.2 + 13) Q 473 [(0, .ref b), (1, vo ad 11 (some 0)), (2, vo ad 12 (some 0)), (3, vi i)] [vi r1] ad1 σ1
  have hs1 : 0 < gN σ 11 := by rw [hSF.2.2.1 11 (by decide)]; decide
  have hs2 : 0 < gN σ 12 := by rw [hSF.2.2.1 12 (by decide)]; decide
  rw [voG hg hs1, voG hg hs2]
  have hc1 : csOK κ (cs.1 + 1, cs.2 + 13) := csOK_le hcs (by show _ ≤ _; omega) (by show _ ≤ _; omega)
  show Z κ (cs.1 + 1, cs.2 + 13) Q 473 [(0, .ref b), (1, vo ad1 11 (some 0)), (2, vo ad1 12 (some 0)), (3, vi i)] [vi r1] ad1 σ1
  refine z_aload_n C 2 dL_law_473 rfl ?_
  refine z_aloadR C 0 dL_law_474 rfl ?_
  refine z_iload_n C 3 dL_law_475 rfl ?_
  refine z_iconst C dL_law_476 ?_
  refine z_iadd C dL_law_477 ?_
  refine z_sld C hX (x := i + 1) (by constructor <;> omega) (by omega) dL_law_478 ?_
  show Z κ (cs.1 + 1, cs.2 + 13) Q 479 _ [vi (sc xs i 1), vo ad1 12 (some 0), vi r1] ad1 σ1
  refine z_aloadR C 0 dL_law_479 rfl ?_
  refine z_iload_n C 3 dL_law_480 rfl ?_
  refine z_iconst C dL_law_481 ?_
  refine z_iadd C dL_law_482 ?_
  refine z_sld C hX (x := i + 2) (by constructor <;> omega) (by omega) dL_law_483 ?_
  show Z κ (cs.1 + 1, cs.2 + 13) Q 484 _ [vi (sc xs i 2), vi (sc xs i 1), vo ad1 12 (some 0), vi r1] ad1 σ1
  refine z_aloadR C 0 dL_law_484 rfl ?_
  refine z_iload_n C 3 dL_law_485 rfl ?_
  refine z_iconst C dL_law_486 ?_
  refine z_iadd C dL_law_487 ?_
  refine z_sld C hX (x := i + 3) (by constructor <;> omega) (by omega) dL_law_488 ?_
  show Z κ (cs.1 + 1, cs.2 + 13) Q 489 _ [vi (sc xs i 3), vi (sc xs i 2), vi (sc xs i 1), vo ad1 12 (some 0), vi r1] ad1 σ1
  refine z_aloadR C 0 dL_law_489 rfl ?_
  refine z_iload_n C 3 dL_law_490 rfl ?_
  refine z_iconst C dL_law_491 ?_
  refine z_iadd C dL_law_492 ?_
  refine z_sld C hX (x := i + 4) (by constructor <;> omega) (by omega) dL_law_493 ?_
  show Z κ (cs.1 + 1, cs.2 + 13) Q 494 _ [vi (sc xs i 4), vi (sc xs i 3), vi (sc xs i 2), vi (sc xs i 1), vo ad1 12 (some 0), vi r1] ad1 σ1
  refine z_aloadR C 0 dL_law_494 rfl ?_
  refine z_iload_n C 3 dL_law_495 rfl ?_
  refine z_iconst C dL_law_496 ?_
  refine z_iadd C dL_law_497 ?_
  refine z_sld C hX (x := i + 5) (by constructor <;> omega) (by omega) dL_law_498 ?_
  show Z κ (cs.1 + 1, cs.2 + 13) Q 499 _ [vi (sc xs i 5), vi (sc xs i 4), vi (sc xs i 3), vi (sc xs i 2), vi (sc xs i 1), vo ad1 12 (some 0), vi r1] ad1 σ1
  refine z_aloadR C 0 dL_law_499 rfl ?_
  refine z_iload_n C 3 dL_law_500 rfl ?_
  refine z_bipush C dL_law_501 (by decide) ?_
  refine z_iadd C dL_law_503 ?_
  refine z_sld C hX (x := i + 6) (by constructor <;> omega) (by omega) dL_law_504 ?_
  show Z κ (cs.1 + 1, cs.2 + 13) Q 505 _ [vi (sc xs i 6), vi (sc xs i 5), vi (sc xs i 4), vi (sc xs i 3), vi (sc xs i 2), vi (sc xs i 1), vo ad1 12 (some 0), vi r1] ad1 σ1
  refine z_cV (st := [vi r1]) T C (ct_X12_shot (sc xs i 1) (sc xs i 2) (sc xs i 3) (sc xs i 4) (sc xs i 5) (sc xs i 6) inr_sc inr_sc inr_sc inr_sc inr_sc inr_sc) lm_L_35 lv_vX12_shot dL_law_505 [vi (sc xs i 1), vi (sc xs i 2), vi (sc xs i 3), vi (sc xs i 4), vi (sc xs i 5), vi (sc xs i 6)] rfl rfl rfl rfl rfl (sg_12 T) trivial (by decide) (Nat.le_of_ble_eq_true rfl) hc1 h (fun r2 σ2 hr2 eN1 h => ?_)
  show Z κ (cs.1 + 1, cs.2 + 13) Q 508 [(0, .ref b), (1, vo ad1 11 (some 0)), (2, vo ad1 12 (some 0)), (3, vi i)] [vi r2, vi r1] ad1 σ2
  obtain ⟨⟨he, hR2⟩, -⟩ := wpO_ckp.mp h
  refine z_icmp_eq C 2170 hr1 hr2 dL_law_508 (by decide) (fun q => ?_) (fun q => absurd he q)
  refine z_widen (k := cs.1 + 2) (n := cs.2 + 84) (by show _ ≤ _; omega) (by show _ ≤ _; omega) ?_
  exact kz _ _ hR2
set_option maxRecDepth 20000 in
set_option maxHeartbeats 4000000 in
theorem lawc_5 {κ : Cxt} {R : St → Prop} {b L : Nat} {xs : Nat → Int32} {cs : Nat × Nat} {Q : State → Prop} (C : Cx κ RL cL_law 4 ret 11) (T : isT κ) (hcs : csOK κ (cs.1 + 2, cs.2 + 84)) (hX : scX κ b L xs) (hO : OP5 R) {i : Int} (hL : L ≤ 3584) (hi : 0 ≤ i ∧ i + 7 ≤ (L : Int)) (kz : ∀ ad σ, R σ → Z κ (cs.1 + 2, cs.2 + 84) Q 2170 [(0, .ref b), (1, vo ad 11 (some 0)), (2, vo ad 12 (some 0)), (3, vi i)] [] ad σ) : ∀ ad σ, R σ → Z κ cs Q 513 [(0, .ref b), (1, vo ad 11 (some 0)), (2, vo ad 12 (some 0)), (3, vi i)] [] ad σ := by
  intro ad σ hR
  refine z_sf T (fun hSF => ?_)
  have hii : inr i := by constructor <;> omega
  have hc0 : csOK κ cs := csOK_le hcs (by omega) (by omega)
  refine z_aload_n C 1 dL_law_513 rfl ?_
  refine z_aloadR C 0 dL_law_514 rfl ?_
  refine z_iload_n C 3 dL_law_515 rfl ?_
  refine z_iconst C dL_law_516 ?_
  refine z_iadd C dL_law_517 ?_
  refine z_sld C hX (x := i + 1) (by constructor <;> omega) (by omega) dL_law_518 ?_
  show Z κ cs Q 519 _ [vi (sc xs i 1), vo ad 11 (some 0)] ad σ
  refine z_aloadR C 0 dL_law_519 rfl ?_
  refine z_iload_n C 3 dL_law_520 rfl ?_
  refine z_iconst C dL_law_521 ?_
  refine z_iadd C dL_law_522 ?_
  refine z_sld C hX (x := i + 2) (by constructor <;> omega) (by omega) dL_law_523 ?_
  show Z κ cs Q 524 _ [vi (sc xs i 2), vi (sc xs i 1), vo ad 11 (some 0)] ad σ
  have h := hO (sc xs i 1) (sc xs i 2) inr_sc inr_sc σ hSF hR
  refine z_cVp (st := []) T C (ct_X11_about (sc xs i 1) (sc xs i 2) inr_sc inr_sc) lm_L_36 lv_vX11_about dL_law_524 [vi (sc xs i 1), vi (sc xs i 2)] rfl rfl rfl rfl rfl (sg_11 T) trivial (by decide) (Nat.le_of_ble_eq_true rfl) hc0 h (fun r1 hr1 h => ?_)
  show Z κ cs Q 527 [(0, .ref b), (1, vo ad 11 (some 0)), (2, vo ad 12 (some 0)), (3, vi i)] [vi r1] ad σ
  refine z_aload_n C 2 dL_law_527 rfl ?_
  refine z_aloadR C 0 dL_law_528 rfl ?_
  refine z_iload_n C 3 dL_law_529 rfl ?_
  refine z_iconst C dL_law_530 ?_
  refine z_iadd C dL_law_531 ?_
  refine z_sld C hX (x := i + 1) (by constructor <;> omega) (by omega) dL_law_532 ?_
  show Z κ cs Q 533 _ [vi (sc xs i 1), vo ad 12 (some 0), vi r1] ad σ
  refine z_aloadR C 0 dL_law_533 rfl ?_
  refine z_iload_n C 3 dL_law_534 rfl ?_
  refine z_iconst C dL_law_535 ?_
  refine z_iadd C dL_law_536 ?_
  refine z_sld C hX (x := i + 2) (by constructor <;> omega) (by omega) dL_law_537 ?_
  show Z κ cs Q 538 _ [vi (sc xs i 2), vi (sc xs i 1), vo ad 12 (some 0), vi r1] ad σ
  refine z_cVp (st := [vi r1]) T C (ct_X12_about (sc xs i 1) (sc xs i 2) inr_sc inr_sc) lm_L_40 lv_vX12_about dL_law_538 [vi (sc xs i 1), vi (sc xs i 2)] rfl rfl rfl rfl rfl (sg_12 T) trivial (by decide) (Nat.le_of_ble_eq_true rfl) hc0 h (fun r2 hr2 h => ?_)
  show Z κ cs Q 541 [(0, .ref b), (1, vo ad 11 (some 0)), (2, vo ad 12 (some 0)), (3, vi i)] [vi r2, vi r1] ad σ
  obtain ⟨⟨he, hR2⟩, -⟩ := wpO_ckp.mp h
  refine z_icmp_eq C 2170 hr1 hr2 dL_law_541 (by decide) (fun q => ?_) (fun q => absurd he q)
  refine z_widen (k := cs.1 + 2) (n := cs.2 + 84) (by show _ ≤ _; omega) (by show _ ≤ _; omega) ?_
  exact kz _ _ hR2
set_option maxRecDepth 20000 in
set_option maxHeartbeats 4000000 in
theorem lawc_6 {κ : Cxt} {R : St → Prop} {b L : Nat} {xs : Nat → Int32} {cs : Nat × Nat} {Q : State → Prop} (C : Cx κ RL cL_law 4 ret 11) (T : isT κ) (hcs : csOK κ (cs.1 + 2, cs.2 + 84)) (hX : scX κ b L xs) (hO : OP6 R) {i : Int} (hL : L ≤ 3584) (hi : 0 ≤ i ∧ i + 7 ≤ (L : Int)) (kz : ∀ ad σ, R σ → Z κ (cs.1 + 2, cs.2 + 84) Q 2170 [(0, .ref b), (1, vo ad 11 (some 0)), (2, vo ad 12 (some 0)), (3, vi i)] [] ad σ) : ∀ ad σ, R σ → Z κ cs Q 546 [(0, .ref b), (1, vo ad 11 (some 0)), (2, vo ad 12 (some 0)), (3, vi i)] [] ad σ := by
  intro ad σ hR
  refine z_sf T (fun hSF => ?_)
  have hii : inr i := by constructor <;> omega
  have hc0 : csOK κ cs := csOK_le hcs (by omega) (by omega)
  refine z_aload_n C 1 dL_law_546 rfl ?_
  refine z_aloadR C 0 dL_law_547 rfl ?_
  refine z_iload_n C 3 dL_law_548 rfl ?_
  refine z_iconst C dL_law_549 ?_
  refine z_iadd C dL_law_550 ?_
  refine z_sld C hX (x := i + 1) (by constructor <;> omega) (by omega) dL_law_551 ?_
  show Z κ cs Q 552 _ [vi (sc xs i 1), vo ad 11 (some 0)] ad σ
  have h := hO (sc xs i 1) inr_sc σ hSF hR
  refine z_cV (st := []) T C (ct_X11_send (sc xs i 1) inr_sc) lm_L_41 lv_vX11_send dL_law_552 [vi (sc xs i 1)] rfl rfl rfl rfl rfl (sg_11 T) trivial (by decide) (Nat.le_of_ble_eq_true rfl) hc0 h (fun r1 σ1 hr1 eN0 h => ?_)
  show Z κ cs Q 555 [(0, .ref b), (1, vo ad 11 (some 0)), (2, vo ad 12 (some 0)), (3, vi i)] [vi r1] ad σ1
  refine z_aload_n C 2 dL_law_555 rfl ?_
  refine z_aloadR C 0 dL_law_556 rfl ?_
  refine z_iload_n C 3 dL_law_557 rfl ?_
  refine z_iconst C dL_law_558 ?_
  refine z_iadd C dL_law_559 ?_
  refine z_sld C hX (x := i + 1) (by constructor <;> omega) (by omega) dL_law_560 ?_
  show Z κ cs Q 561 _ [vi (sc xs i 1), vo ad 12 (some 0), vi r1] ad σ1
  refine z_cV (st := [vi r1]) T C (ct_X12_send (sc xs i 1) inr_sc) lm_L_44 lv_vX12_send dL_law_561 [vi (sc xs i 1)] rfl rfl rfl rfl rfl (sg_12 T) trivial (by decide) (Nat.le_of_ble_eq_true rfl) hc0 h (fun r2 σ2 hr2 eN1 h => ?_)
  show Z κ cs Q 564 [(0, .ref b), (1, vo ad 11 (some 0)), (2, vo ad 12 (some 0)), (3, vi i)] [vi r2, vi r1] ad σ2
  obtain ⟨⟨he, hR2⟩, -⟩ := wpO_ckp.mp h
  refine z_icmp_eq C 2170 hr1 hr2 dL_law_564 (by decide) (fun q => ?_) (fun q => absurd he q)
  refine z_widen (k := cs.1 + 2) (n := cs.2 + 84) (by show _ ≤ _; omega) (by show _ ≤ _; omega) ?_
  exact kz _ _ hR2
set_option maxRecDepth 20000 in
set_option maxHeartbeats 4000000 in
theorem lawc_7 {κ : Cxt} {R : St → Prop} {b L : Nat} {xs : Nat → Int32} {cs : Nat × Nat} {Q : State → Prop} (C : Cx κ RL cL_law 4 ret 11) (T : isT κ) (hcs : csOK κ (cs.1 + 2, cs.2 + 84)) (hX : scX κ b L xs) (hO : OP7 R) {i : Int} (hL : L ≤ 3584) (hi : 0 ≤ i ∧ i + 7 ≤ (L : Int)) (kz : ∀ ad σ, R σ → Z κ (cs.1 + 2, cs.2 + 84) Q 2170 [(0, .ref b), (1, vo ad 11 (some 0)), (2, vo ad 12 (some 0)), (3, vi i)] [] ad σ) : ∀ ad σ, R σ → Z κ cs Q 569 [(0, .ref b), (1, vo ad 11 (some 0)), (2, vo ad 12 (some 0)), (3, vi i)] [] ad σ := by
  intro ad σ hR
  refine z_sf T (fun hSF => ?_)
  have hii : inr i := by constructor <;> omega
  have hc0 : csOK κ cs := csOK_le hcs (by omega) (by omega)
  refine z_aload_n C 1 dL_law_569 rfl ?_
  refine z_aloadR C 0 dL_law_570 rfl ?_
  refine z_iload_n C 3 dL_law_571 rfl ?_
  refine z_iconst C dL_law_572 ?_
  refine z_iadd C dL_law_573 ?_
  refine z_sld C hX (x := i + 1) (by constructor <;> omega) (by omega) dL_law_574 ?_
  show Z κ cs Q 575 _ [vi (sc xs i 1), vo ad 11 (some 0)] ad σ
  refine z_aloadR C 0 dL_law_575 rfl ?_
  refine z_iload_n C 3 dL_law_576 rfl ?_
  refine z_iconst C dL_law_577 ?_
  refine z_iadd C dL_law_578 ?_
  refine z_sld C hX (x := i + 2) (by constructor <;> omega) (by omega) dL_law_579 ?_
  show Z κ cs Q 580 _ [vi (sc xs i 2), vi (sc xs i 1), vo ad 11 (some 0)] ad σ
  refine z_if_eq C 587 inr_sc dL_law_580 (by decide) (fun q0 => ?_) (fun q0 => ?_)
  · refine z_iconst C dL_law_587 ?_
    have h := hO (sc xs i 1) 0 inr_sc (by decide) σ hSF hR
    refine z_cVp (st := []) T C (ct_X11_expected (sc xs i 1) 0 inr_sc (by decide)) lm_L_45 lv_vX11_expected dL_law_588 [vi (sc xs i 1), vi 0] rfl rfl rfl rfl rfl (sg_11 T) trivial (by decide) (Nat.le_of_ble_eq_true rfl) hc0 h (fun r1 hr1 h => ?_)
    show Z κ cs Q 591 [(0, .ref b), (1, vo ad 11 (some 0)), (2, vo ad 12 (some 0)), (3, vi i)] [vi r1] ad σ
    refine z_aload_n C 2 dL_law_591 rfl ?_
    refine z_aloadR C 0 dL_law_592 rfl ?_
    refine z_iload_n C 3 dL_law_593 rfl ?_
    refine z_iconst C dL_law_594 ?_
    refine z_iadd C dL_law_595 ?_
    refine z_sld C hX (x := i + 1) (by constructor <;> omega) (by omega) dL_law_596 ?_
    show Z κ cs Q 597 _ [vi (sc xs i 1), vo ad 12 (some 0), vi r1] ad σ
    refine z_aloadR C 0 dL_law_597 rfl ?_
    refine z_iload_n C 3 dL_law_598 rfl ?_
    refine z_iconst C dL_law_599 ?_
    refine z_iadd C dL_law_600 ?_
    refine z_sld C hX (x := i + 2) (by constructor <;> omega) (by omega) dL_law_601 ?_
    show Z κ cs Q 602 _ [vi (sc xs i 2), vi (sc xs i 1), vo ad 12 (some 0), vi r1] ad σ
    refine z_if_eq C 609 inr_sc dL_law_602 (by decide) (fun q => ?_) (fun q => ?_)
    rotate_left
    · exact absurd q0 q
    refine z_iconst C dL_law_609 ?_
    refine z_cVp (st := [vi r1]) T C (ct_X12_expected (sc xs i 1) 0 inr_sc (by decide)) lm_L_49 lv_vX12_expected dL_law_610 [vi (sc xs i 1), vi 0] rfl rfl rfl rfl rfl (sg_12 T) trivial (by decide) (Nat.le_of_ble_eq_true rfl) hc0 h (fun r2 hr2 h => ?_)
    show Z κ cs Q 613 [(0, .ref b), (1, vo ad 11 (some 0)), (2, vo ad 12 (some 0)), (3, vi i)] [vi r2, vi r1] ad σ
    obtain ⟨⟨he, hR2⟩, -⟩ := wpO_ckp.mp h
    refine z_icmp_eq C 2170 hr1 hr2 dL_law_613 (by decide) (fun q => ?_) (fun q => absurd he q)
    refine z_widen (k := cs.1 + 2) (n := cs.2 + 84) (by show _ ≤ _; omega) (by show _ ≤ _; omega) ?_
    exact kz _ _ hR2
  · refine z_iconst C dL_law_583 ?_
    refine z_goto C 588 dL_law_584 (by decide) ?_
    have h := hO (sc xs i 1) 1 inr_sc (by decide) σ hSF hR
    refine z_cVp (st := []) T C (ct_X11_expected (sc xs i 1) 1 inr_sc (by decide)) lm_L_45 lv_vX11_expected dL_law_588 [vi (sc xs i 1), vi 1] rfl rfl rfl rfl rfl (sg_11 T) trivial (by decide) (Nat.le_of_ble_eq_true rfl) hc0 h (fun r1 hr1 h => ?_)
    show Z κ cs Q 591 [(0, .ref b), (1, vo ad 11 (some 0)), (2, vo ad 12 (some 0)), (3, vi i)] [vi r1] ad σ
    refine z_aload_n C 2 dL_law_591 rfl ?_
    refine z_aloadR C 0 dL_law_592 rfl ?_
    refine z_iload_n C 3 dL_law_593 rfl ?_
    refine z_iconst C dL_law_594 ?_
    refine z_iadd C dL_law_595 ?_
    refine z_sld C hX (x := i + 1) (by constructor <;> omega) (by omega) dL_law_596 ?_
    show Z κ cs Q 597 _ [vi (sc xs i 1), vo ad 12 (some 0), vi r1] ad σ
    refine z_aloadR C 0 dL_law_597 rfl ?_
    refine z_iload_n C 3 dL_law_598 rfl ?_
    refine z_iconst C dL_law_599 ?_
    refine z_iadd C dL_law_600 ?_
    refine z_sld C hX (x := i + 2) (by constructor <;> omega) (by omega) dL_law_601 ?_
    show Z κ cs Q 602 _ [vi (sc xs i 2), vi (sc xs i 1), vo ad 12 (some 0), vi r1] ad σ
    refine z_if_eq C 609 inr_sc dL_law_602 (by decide) (fun q => ?_) (fun q => ?_)
    · exact absurd q q0
    refine z_iconst C dL_law_605 ?_
    refine z_goto C 610 dL_law_606 (by decide) ?_
    refine z_cVp (st := [vi r1]) T C (ct_X12_expected (sc xs i 1) 1 inr_sc (by decide)) lm_L_49 lv_vX12_expected dL_law_610 [vi (sc xs i 1), vi 1] rfl rfl rfl rfl rfl (sg_12 T) trivial (by decide) (Nat.le_of_ble_eq_true rfl) hc0 h (fun r2 hr2 h => ?_)
    show Z κ cs Q 613 [(0, .ref b), (1, vo ad 11 (some 0)), (2, vo ad 12 (some 0)), (3, vi i)] [vi r2, vi r1] ad σ
    obtain ⟨⟨he, hR2⟩, -⟩ := wpO_ckp.mp h
    refine z_icmp_eq C 2170 hr1 hr2 dL_law_613 (by decide) (fun q => ?_) (fun q => absurd he q)
    refine z_widen (k := cs.1 + 2) (n := cs.2 + 84) (by show _ ≤ _; omega) (by show _ ≤ _; omega) ?_
    exact kz _ _ hR2
set_option maxRecDepth 20000 in
set_option maxHeartbeats 4000000 in
theorem lawc_8 {κ : Cxt} {R : St → Prop} {b L : Nat} {xs : Nat → Int32} {cs : Nat × Nat} {Q : State → Prop} (C : Cx κ RL cL_law 4 ret 11) (T : isT κ) (hcs : csOK κ (cs.1 + 2, cs.2 + 84)) (hX : scX κ b L xs) (hO : OP8 R) {i : Int} (hL : L ≤ 3584) (hi : 0 ≤ i ∧ i + 7 ≤ (L : Int)) (kz : ∀ ad σ, R σ → Z κ (cs.1 + 2, cs.2 + 84) Q 2170 [(0, .ref b), (1, vo ad 11 (some 0)), (2, vo ad 12 (some 0)), (3, vi i)] [] ad σ) : ∀ ad σ, R σ → Z κ cs Q 618 [(0, .ref b), (1, vo ad 11 (some 0)), (2, vo ad 12 (some 0)), (3, vi i)] [] ad σ := by
  intro ad σ hR
  refine z_sf T (fun hSF => ?_)
  have hii : inr i := by constructor <;> omega
  have hc0 : csOK κ cs := csOK_le hcs (by omega) (by omega)
  refine z_aload_n C 1 dL_law_618 rfl ?_
  refine z_aloadR C 0 dL_law_619 rfl ?_
  refine z_iload_n C 3 dL_law_620 rfl ?_
  refine z_iconst C dL_law_621 ?_
  refine z_iadd C dL_law_622 ?_
  refine z_sld C hX (x := i + 1) (by constructor <;> omega) (by omega) dL_law_623 ?_
  show Z κ cs Q 624 _ [vi (sc xs i 1), vo ad 11 (some 0)] ad σ
  have h := hO (sc xs i 1) inr_sc σ hSF hR
  refine z_cV (st := []) T C (ct_X11_come (sc xs i 1) inr_sc) lm_L_50 lv_vX11_come dL_law_624 [vi (sc xs i 1)] rfl rfl rfl rfl rfl (sg_11 T) trivial (by decide) (Nat.le_of_ble_eq_true rfl) hc0 h (fun r1 σ1 hr1 eN0 h => ?_)
  show Z κ cs Q 627 [(0, .ref b), (1, vo ad 11 (some 0)), (2, vo ad 12 (some 0)), (3, vi i)] [vi r1] ad σ1
  refine z_aload_n C 2 dL_law_627 rfl ?_
  refine z_aloadR C 0 dL_law_628 rfl ?_
  refine z_iload_n C 3 dL_law_629 rfl ?_
  refine z_iconst C dL_law_630 ?_
  refine z_iadd C dL_law_631 ?_
  refine z_sld C hX (x := i + 1) (by constructor <;> omega) (by omega) dL_law_632 ?_
  show Z κ cs Q 633 _ [vi (sc xs i 1), vo ad 12 (some 0), vi r1] ad σ1
  refine z_cV (st := [vi r1]) T C (ct_X12_come (sc xs i 1) inr_sc) lm_L_53 lv_vX12_come dL_law_633 [vi (sc xs i 1)] rfl rfl rfl rfl rfl (sg_12 T) trivial (by decide) (Nat.le_of_ble_eq_true rfl) hc0 h (fun r2 σ2 hr2 eN1 h => ?_)
  show Z κ cs Q 636 [(0, .ref b), (1, vo ad 11 (some 0)), (2, vo ad 12 (some 0)), (3, vi i)] [vi r2, vi r1] ad σ2
  obtain ⟨⟨he, hR2⟩, -⟩ := wpO_ckp.mp h
  refine z_icmp_eq C 2170 hr1 hr2 dL_law_636 (by decide) (fun q => ?_) (fun q => absurd he q)
  refine z_widen (k := cs.1 + 2) (n := cs.2 + 84) (by show _ ≤ _; omega) (by show _ ≤ _; omega) ?_
  exact kz _ _ hR2
set_option maxRecDepth 20000 in
set_option maxHeartbeats 4000000 in
theorem lawc_9 {κ : Cxt} {R : St → Prop} {b L : Nat} {xs : Nat → Int32} {cs : Nat × Nat} {Q : State → Prop} (C : Cx κ RL cL_law 4 ret 11) (T : isT κ) (hcs : csOK κ (cs.1 + 2, cs.2 + 84)) (hX : scX κ b L xs) (hO : OP9 R) {i : Int} (hL : L ≤ 3584) (hi : 0 ≤ i ∧ i + 7 ≤ (L : Int)) (kz : ∀ ad σ, R σ → Z κ (cs.1 + 2, cs.2 + 84) Q 2170 [(0, .ref b), (1, vo ad 11 (some 0)), (2, vo ad 12 (some 0)), (3, vi i)] [] ad σ) : ∀ ad σ, R σ → Z κ cs Q 641 [(0, .ref b), (1, vo ad 11 (some 0)), (2, vo ad 12 (some 0)), (3, vi i)] [] ad σ := by
  intro ad σ hR
  refine z_sf T (fun hSF => ?_)
  have hii : inr i := by constructor <;> omega
  have hc0 : csOK κ cs := csOK_le hcs (by omega) (by omega)
  refine z_aload_n C 1 dL_law_641 rfl ?_
  refine z_aloadR C 0 dL_law_642 rfl ?_
  refine z_iload_n C 3 dL_law_643 rfl ?_
  refine z_iconst C dL_law_644 ?_
  refine z_iadd C dL_law_645 ?_
  refine z_sld C hX (x := i + 1) (by constructor <;> omega) (by omega) dL_law_646 ?_
  show Z κ cs Q 647 _ [vi (sc xs i 1), vo ad 11 (some 0)] ad σ
  have h := hO (sc xs i 1) inr_sc σ hSF hR
  refine z_cV (st := []) T C (ct_X11_lose (sc xs i 1) inr_sc) lm_L_54 lv_vX11_lose dL_law_647 [vi (sc xs i 1)] rfl rfl rfl rfl rfl (sg_11 T) trivial (by decide) (Nat.le_of_ble_eq_true rfl) hc0 h (fun r1 σ1 hr1 eN0 h => ?_)
  show Z κ cs Q 650 [(0, .ref b), (1, vo ad 11 (some 0)), (2, vo ad 12 (some 0)), (3, vi i)] [vi r1] ad σ1
  refine z_aload_n C 2 dL_law_650 rfl ?_
  refine z_aloadR C 0 dL_law_651 rfl ?_
  refine z_iload_n C 3 dL_law_652 rfl ?_
  refine z_iconst C dL_law_653 ?_
  refine z_iadd C dL_law_654 ?_
  refine z_sld C hX (x := i + 1) (by constructor <;> omega) (by omega) dL_law_655 ?_
  show Z κ cs Q 656 _ [vi (sc xs i 1), vo ad 12 (some 0), vi r1] ad σ1
  refine z_cV (st := [vi r1]) T C (ct_X12_lose (sc xs i 1) inr_sc) lm_L_57 lv_vX12_lose dL_law_656 [vi (sc xs i 1)] rfl rfl rfl rfl rfl (sg_12 T) trivial (by decide) (Nat.le_of_ble_eq_true rfl) hc0 h (fun r2 σ2 hr2 eN1 h => ?_)
  show Z κ cs Q 659 [(0, .ref b), (1, vo ad 11 (some 0)), (2, vo ad 12 (some 0)), (3, vi i)] [vi r2, vi r1] ad σ2
  obtain ⟨⟨he, hR2⟩, -⟩ := wpO_ckp.mp h
  refine z_icmp_eq C 2170 hr1 hr2 dL_law_659 (by decide) (fun q => ?_) (fun q => absurd he q)
  refine z_widen (k := cs.1 + 2) (n := cs.2 + 84) (by show _ ≤ _; omega) (by show _ ≤ _; omega) ?_
  exact kz _ _ hR2
set_option maxRecDepth 20000 in
set_option maxHeartbeats 4000000 in
theorem lawc_10 {κ : Cxt} {R : St → Prop} {b L : Nat} {xs : Nat → Int32} {cs : Nat × Nat} {Q : State → Prop} (C : Cx κ RL cL_law 4 ret 11) (T : isT κ) (hcs : csOK κ (cs.1 + 2, cs.2 + 84)) (hX : scX κ b L xs) (hO : OP10 R) {i : Int} (hL : L ≤ 3584) (hi : 0 ≤ i ∧ i + 7 ≤ (L : Int)) (kz : ∀ ad σ, R σ → Z κ (cs.1 + 2, cs.2 + 84) Q 2170 [(0, .ref b), (1, vo ad 11 (some 0)), (2, vo ad 12 (some 0)), (3, vi i)] [] ad σ) : ∀ ad σ, R σ → Z κ cs Q 664 [(0, .ref b), (1, vo ad 11 (some 0)), (2, vo ad 12 (some 0)), (3, vi i)] [] ad σ := by
  intro ad σ hR
  refine z_sf T (fun hSF => ?_)
  have hii : inr i := by constructor <;> omega
  have hc0 : csOK κ cs := csOK_le hcs (by omega) (by omega)
  refine z_aload_n C 1 dL_law_664 rfl ?_
  refine z_aloadR C 0 dL_law_665 rfl ?_
  refine z_iload_n C 3 dL_law_666 rfl ?_
  refine z_iconst C dL_law_667 ?_
  refine z_iadd C dL_law_668 ?_
  refine z_sld C hX (x := i + 1) (by constructor <;> omega) (by omega) dL_law_669 ?_
  show Z κ cs Q 670 _ [vi (sc xs i 1), vo ad 11 (some 0)] ad σ
  refine z_aloadR C 0 dL_law_670 rfl ?_
  refine z_iload_n C 3 dL_law_671 rfl ?_
  refine z_iconst C dL_law_672 ?_
  refine z_iadd C dL_law_673 ?_
  refine z_sld C hX (x := i + 2) (by constructor <;> omega) (by omega) dL_law_674 ?_
  show Z κ cs Q 675 _ [vi (sc xs i 2), vi (sc xs i 1), vo ad 11 (some 0)] ad σ
  have h := hO (sc xs i 1) (sc xs i 2) inr_sc inr_sc σ hSF hR
  refine z_cVp (st := []) T C (ct_X11_where (sc xs i 1) (sc xs i 2) inr_sc inr_sc) lm_L_58 lv_vX11_where dL_law_675 [vi (sc xs i 1), vi (sc xs i 2)] rfl rfl rfl rfl rfl (sg_11 T) trivial (by decide) (Nat.le_of_ble_eq_true rfl) hc0 h (fun r1 hr1 h => ?_)
  show Z κ cs Q 678 [(0, .ref b), (1, vo ad 11 (some 0)), (2, vo ad 12 (some 0)), (3, vi i)] [vi r1] ad σ
  refine z_aload_n C 2 dL_law_678 rfl ?_
  refine z_aloadR C 0 dL_law_679 rfl ?_
  refine z_iload_n C 3 dL_law_680 rfl ?_
  refine z_iconst C dL_law_681 ?_
  refine z_iadd C dL_law_682 ?_
  refine z_sld C hX (x := i + 1) (by constructor <;> omega) (by omega) dL_law_683 ?_
  show Z κ cs Q 684 _ [vi (sc xs i 1), vo ad 12 (some 0), vi r1] ad σ
  refine z_aloadR C 0 dL_law_684 rfl ?_
  refine z_iload_n C 3 dL_law_685 rfl ?_
  refine z_iconst C dL_law_686 ?_
  refine z_iadd C dL_law_687 ?_
  refine z_sld C hX (x := i + 2) (by constructor <;> omega) (by omega) dL_law_688 ?_
  show Z κ cs Q 689 _ [vi (sc xs i 2), vi (sc xs i 1), vo ad 12 (some 0), vi r1] ad σ
  refine z_cVp (st := [vi r1]) T C (ct_X12_where (sc xs i 1) (sc xs i 2) inr_sc inr_sc) lm_L_61 lv_vX12_where dL_law_689 [vi (sc xs i 1), vi (sc xs i 2)] rfl rfl rfl rfl rfl (sg_12 T) trivial (by decide) (Nat.le_of_ble_eq_true rfl) hc0 h (fun r2 hr2 h => ?_)
  show Z κ cs Q 692 [(0, .ref b), (1, vo ad 11 (some 0)), (2, vo ad 12 (some 0)), (3, vi i)] [vi r2, vi r1] ad σ
  obtain ⟨⟨he, hR2⟩, -⟩ := wpO_ckp.mp h
  refine z_icmp_eq C 2170 hr1 hr2 dL_law_692 (by decide) (fun q => ?_) (fun q => absurd he q)
  refine z_widen (k := cs.1 + 2) (n := cs.2 + 84) (by show _ ≤ _; omega) (by show _ ≤ _; omega) ?_
  exact kz _ _ hR2
set_option maxRecDepth 20000 in
set_option maxHeartbeats 4000000 in
theorem lawc_11 {κ : Cxt} {R : St → Prop} {b L : Nat} {xs : Nat → Int32} {cs : Nat × Nat} {Q : State → Prop} (C : Cx κ RL cL_law 4 ret 11) (T : isT κ) (hcs : csOK κ (cs.1 + 2, cs.2 + 84)) (hX : scX κ b L xs) (hO : OP11 R) {i : Int} (hL : L ≤ 3584) (hi : 0 ≤ i ∧ i + 7 ≤ (L : Int)) (kz : ∀ ad σ, R σ → Z κ (cs.1 + 2, cs.2 + 84) Q 2170 [(0, .ref b), (1, vo ad 11 (some 0)), (2, vo ad 12 (some 0)), (3, vi i)] [] ad σ) : ∀ ad σ, R σ → Z κ cs Q 697 [(0, .ref b), (1, vo ad 11 (some 0)), (2, vo ad 12 (some 0)), (3, vi i)] [] ad σ := by
  intro ad σ hR
  refine z_sf T (fun hSF => ?_)
  have hii : inr i := by constructor <;> omega
  have hc0 : csOK κ cs := csOK_le hcs (by omega) (by omega)
  refine z_aload_n C 1 dL_law_697 rfl ?_
  have h := hO  σ hSF hR
  refine z_cVp (st := []) T C ct_X11_overdue lm_L_62 lv_vX11_overdue dL_law_698 [] rfl rfl rfl rfl rfl (sg_11 T) trivial (by decide) (Nat.le_of_ble_eq_true rfl) hc0 h (fun r1 hr1 h => ?_)
  show Z κ cs Q 701 [(0, .ref b), (1, vo ad 11 (some 0)), (2, vo ad 12 (some 0)), (3, vi i)] [vi r1] ad σ
  refine z_aload_n C 2 dL_law_701 rfl ?_
  refine z_cVp (st := [vi r1]) T C ct_X12_overdue lm_L_66 lv_vX12_overdue dL_law_702 [] rfl rfl rfl rfl rfl (sg_12 T) trivial (by decide) (Nat.le_of_ble_eq_true rfl) hc0 h (fun r2 hr2 h => ?_)
  show Z κ cs Q 705 [(0, .ref b), (1, vo ad 11 (some 0)), (2, vo ad 12 (some 0)), (3, vi i)] [vi r2, vi r1] ad σ
  obtain ⟨⟨he, hR2⟩, -⟩ := wpO_ckp.mp h
  refine z_icmp_eq C 2170 hr1 hr2 dL_law_705 (by decide) (fun q => ?_) (fun q => absurd he q)
  refine z_widen (k := cs.1 + 2) (n := cs.2 + 84) (by show _ ≤ _; omega) (by show _ ≤ _; omega) ?_
  exact kz _ _ hR2
set_option maxRecDepth 20000 in
set_option maxHeartbeats 4000000 in
theorem lawc_12 {κ : Cxt} {R : St → Prop} {b L : Nat} {xs : Nat → Int32} {cs : Nat × Nat} {Q : State → Prop} (C : Cx κ RL cL_law 4 ret 11) (T : isT κ) (hcs : csOK κ (cs.1 + 2, cs.2 + 84)) (hX : scX κ b L xs) (hO : OP12 R) {i : Int} (hL : L ≤ 3584) (hi : 0 ≤ i ∧ i + 7 ≤ (L : Int)) (kz : ∀ ad σ, R σ → Z κ (cs.1 + 2, cs.2 + 84) Q 2170 [(0, .ref b), (1, vo ad 11 (some 0)), (2, vo ad 12 (some 0)), (3, vi i)] [] ad σ) : ∀ ad σ, R σ → Z κ cs Q 710 [(0, .ref b), (1, vo ad 11 (some 0)), (2, vo ad 12 (some 0)), (3, vi i)] [] ad σ := by
  intro ad σ hR
  refine z_sf T (fun hSF => ?_)
  have hii : inr i := by constructor <;> omega
  have hc0 : csOK κ cs := csOK_le hcs (by omega) (by omega)
  refine z_aload_n C 1 dL_law_710 rfl ?_
  refine z_aloadR C 0 dL_law_711 rfl ?_
  refine z_iload_n C 3 dL_law_712 rfl ?_
  refine z_iconst C dL_law_713 ?_
  refine z_iadd C dL_law_714 ?_
  refine z_sld C hX (x := i + 1) (by constructor <;> omega) (by omega) dL_law_715 ?_
  show Z κ cs Q 716 _ [vi (sc xs i 1), vo ad 11 (some 0)] ad σ
  refine z_aloadR C 0 dL_law_716 rfl ?_
  refine z_iload_n C 3 dL_law_717 rfl ?_
  refine z_iconst C dL_law_718 ?_
  refine z_iadd C dL_law_719 ?_
  refine z_sld C hX (x := i + 2) (by constructor <;> omega) (by omega) dL_law_720 ?_
  show Z κ cs Q 721 _ [vi (sc xs i 2), vi (sc xs i 1), vo ad 11 (some 0)] ad σ
  refine z_aloadR C 0 dL_law_721 rfl ?_
  refine z_iload_n C 3 dL_law_722 rfl ?_
  refine z_iconst C dL_law_723 ?_
  refine z_iadd C dL_law_724 ?_
  refine z_sld C hX (x := i + 3) (by constructor <;> omega) (by omega) dL_law_725 ?_
  show Z κ cs Q 726 _ [vi (sc xs i 3), vi (sc xs i 2), vi (sc xs i 1), vo ad 11 (some 0)] ad σ
  refine z_aloadR C 0 dL_law_726 rfl ?_
  refine z_iload_n C 3 dL_law_727 rfl ?_
  refine z_iconst C dL_law_728 ?_
  refine z_iadd C dL_law_729 ?_
  refine z_sld C hX (x := i + 4) (by constructor <;> omega) (by omega) dL_law_730 ?_
  show Z κ cs Q 731 _ [vi (sc xs i 4), vi (sc xs i 3), vi (sc xs i 2), vi (sc xs i 1), vo ad 11 (some 0)] ad σ
  have h := hO (sc xs i 1) (sc xs i 2) (sc xs i 3) (sc xs i 4) inr_sc inr_sc inr_sc inr_sc σ hSF hR
  refine z_cV (st := []) T C (ct_X11_fact (sc xs i 1) (sc xs i 2) (sc xs i 3) (sc xs i 4) inr_sc inr_sc inr_sc inr_sc) lm_L_67 lv_vX11_fact dL_law_731 [vi (sc xs i 1), vi (sc xs i 2), vi (sc xs i 3), vi (sc xs i 4)] rfl rfl rfl rfl rfl (sg_11 T) trivial (by decide) (Nat.le_of_ble_eq_true rfl) hc0 h (fun r1 σ1 hr1 eN0 h => ?_)
  show Z κ cs Q 734 [(0, .ref b), (1, vo ad 11 (some 0)), (2, vo ad 12 (some 0)), (3, vi i)] [vi r1] ad σ1
  refine z_aload_n C 2 dL_law_734 rfl ?_
  refine z_aloadR C 0 dL_law_735 rfl ?_
  refine z_iload_n C 3 dL_law_736 rfl ?_
  refine z_iconst C dL_law_737 ?_
  refine z_iadd C dL_law_738 ?_
  refine z_sld C hX (x := i + 1) (by constructor <;> omega) (by omega) dL_law_739 ?_
  show Z κ cs Q 740 _ [vi (sc xs i 1), vo ad 12 (some 0), vi r1] ad σ1
  refine z_aloadR C 0 dL_law_740 rfl ?_
  refine z_iload_n C 3 dL_law_741 rfl ?_
  refine z_iconst C dL_law_742 ?_
  refine z_iadd C dL_law_743 ?_
  refine z_sld C hX (x := i + 2) (by constructor <;> omega) (by omega) dL_law_744 ?_
  show Z κ cs Q 745 _ [vi (sc xs i 2), vi (sc xs i 1), vo ad 12 (some 0), vi r1] ad σ1
  refine z_aloadR C 0 dL_law_745 rfl ?_
  refine z_iload_n C 3 dL_law_746 rfl ?_
  refine z_iconst C dL_law_747 ?_
  refine z_iadd C dL_law_748 ?_
  refine z_sld C hX (x := i + 3) (by constructor <;> omega) (by omega) dL_law_749 ?_
  show Z κ cs Q 750 _ [vi (sc xs i 3), vi (sc xs i 2), vi (sc xs i 1), vo ad 12 (some 0), vi r1] ad σ1
  refine z_aloadR C 0 dL_law_750 rfl ?_
  refine z_iload_n C 3 dL_law_751 rfl ?_
  refine z_iconst C dL_law_752 ?_
  refine z_iadd C dL_law_753 ?_
  refine z_sld C hX (x := i + 4) (by constructor <;> omega) (by omega) dL_law_754 ?_
  show Z κ cs Q 755 _ [vi (sc xs i 4), vi (sc xs i 3), vi (sc xs i 2), vi (sc xs i 1), vo ad 12 (some 0), vi r1] ad σ1
  refine z_cV (st := [vi r1]) T C (ct_X12_fact (sc xs i 1) (sc xs i 2) (sc xs i 3) (sc xs i 4) inr_sc inr_sc inr_sc inr_sc) lm_L_71 lv_vX12_fact dL_law_755 [vi (sc xs i 1), vi (sc xs i 2), vi (sc xs i 3), vi (sc xs i 4)] rfl rfl rfl rfl rfl (sg_12 T) trivial (by decide) (Nat.le_of_ble_eq_true rfl) hc0 h (fun r2 σ2 hr2 eN1 h => ?_)
  show Z κ cs Q 758 [(0, .ref b), (1, vo ad 11 (some 0)), (2, vo ad 12 (some 0)), (3, vi i)] [vi r2, vi r1] ad σ2
  obtain ⟨⟨he, hR2⟩, -⟩ := wpO_ckp.mp h
  refine z_icmp_eq C 2170 hr1 hr2 dL_law_758 (by decide) (fun q => ?_) (fun q => absurd he q)
  refine z_widen (k := cs.1 + 2) (n := cs.2 + 84) (by show _ ≤ _; omega) (by show _ ≤ _; omega) ?_
  exact kz _ _ hR2
set_option maxRecDepth 20000 in
set_option maxHeartbeats 4000000 in
theorem lawc_13 {κ : Cxt} {R : St → Prop} {b L : Nat} {xs : Nat → Int32} {cs : Nat × Nat} {Q : State → Prop} (C : Cx κ RL cL_law 4 ret 11) (T : isT κ) (hcs : csOK κ (cs.1 + 2, cs.2 + 84)) (hX : scX κ b L xs) (hO : OP13 R) {i : Int} (hL : L ≤ 3584) (hi : 0 ≤ i ∧ i + 7 ≤ (L : Int)) (kz : ∀ ad σ, R σ → Z κ (cs.1 + 2, cs.2 + 84) Q 2170 [(0, .ref b), (1, vo ad 11 (some 0)), (2, vo ad 12 (some 0)), (3, vi i)] [] ad σ) : ∀ ad σ, R σ → Z κ cs Q 763 [(0, .ref b), (1, vo ad 11 (some 0)), (2, vo ad 12 (some 0)), (3, vi i)] [] ad σ := by
  intro ad σ hR
  refine z_sf T (fun hSF => ?_)
  have hii : inr i := by constructor <;> omega
  have hc0 : csOK κ cs := csOK_le hcs (by omega) (by omega)
  refine z_aload_n C 1 dL_law_763 rfl ?_
  refine z_aloadR C 0 dL_law_764 rfl ?_
  refine z_iload_n C 3 dL_law_765 rfl ?_
  refine z_iconst C dL_law_766 ?_
  refine z_iadd C dL_law_767 ?_
  refine z_sld C hX (x := i + 1) (by constructor <;> omega) (by omega) dL_law_768 ?_
  show Z κ cs Q 769 _ [vi (sc xs i 1), vo ad 11 (some 0)] ad σ
  refine z_aloadR C 0 dL_law_769 rfl ?_
  refine z_iload_n C 3 dL_law_770 rfl ?_
  refine z_iconst C dL_law_771 ?_
  refine z_iadd C dL_law_772 ?_
  refine z_sld C hX (x := i + 2) (by constructor <;> omega) (by omega) dL_law_773 ?_
  show Z κ cs Q 774 _ [vi (sc xs i 2), vi (sc xs i 1), vo ad 11 (some 0)] ad σ
  refine z_aloadR C 0 dL_law_774 rfl ?_
  refine z_iload_n C 3 dL_law_775 rfl ?_
  refine z_iconst C dL_law_776 ?_
  refine z_iadd C dL_law_777 ?_
  refine z_sld C hX (x := i + 3) (by constructor <;> omega) (by omega) dL_law_778 ?_
  show Z κ cs Q 779 _ [vi (sc xs i 3), vi (sc xs i 2), vi (sc xs i 1), vo ad 11 (some 0)] ad σ
  have h := hO (sc xs i 1) (sc xs i 2) (sc xs i 3) inr_sc inr_sc inr_sc σ hSF hR
  refine z_cVp (st := []) T C (ct_X11_lie (sc xs i 1) (sc xs i 2) (sc xs i 3) inr_sc inr_sc inr_sc) lm_L_72 lv_vX11_lie dL_law_779 [vi (sc xs i 1), vi (sc xs i 2), vi (sc xs i 3)] rfl rfl rfl rfl rfl (sg_11 T) trivial (by decide) (Nat.le_of_ble_eq_true rfl) hc0 h (fun r1 hr1 h => ?_)
  show Z κ cs Q 782 [(0, .ref b), (1, vo ad 11 (some 0)), (2, vo ad 12 (some 0)), (3, vi i)] [vi r1] ad σ
  refine z_aload_n C 2 dL_law_782 rfl ?_
  refine z_aloadR C 0 dL_law_783 rfl ?_
  refine z_iload_n C 3 dL_law_784 rfl ?_
  refine z_iconst C dL_law_785 ?_
  refine z_iadd C dL_law_786 ?_
  refine z_sld C hX (x := i + 1) (by constructor <;> omega) (by omega) dL_law_787 ?_
  show Z κ cs Q 788 _ [vi (sc xs i 1), vo ad 12 (some 0), vi r1] ad σ
  refine z_aloadR C 0 dL_law_788 rfl ?_
  refine z_iload_n C 3 dL_law_789 rfl ?_
  refine z_iconst C dL_law_790 ?_
  refine z_iadd C dL_law_791 ?_
  refine z_sld C hX (x := i + 2) (by constructor <;> omega) (by omega) dL_law_792 ?_
  show Z κ cs Q 793 _ [vi (sc xs i 2), vi (sc xs i 1), vo ad 12 (some 0), vi r1] ad σ
  refine z_aloadR C 0 dL_law_793 rfl ?_
  refine z_iload_n C 3 dL_law_794 rfl ?_
  refine z_iconst C dL_law_795 ?_
  refine z_iadd C dL_law_796 ?_
  refine z_sld C hX (x := i + 3) (by constructor <;> omega) (by omega) dL_law_797 ?_
  show Z κ cs Q 798 _ [vi (sc xs i 3), vi (sc xs i 2), vi (sc xs i 1), vo ad 12 (some 0), vi r1] ad σ
  refine z_cVp (st := [vi r1]) T C (ct_X12_lie (sc xs i 1) (sc xs i 2) (sc xs i 3) inr_sc inr_sc inr_sc) lm_L_76 lv_vX12_lie dL_law_798 [vi (sc xs i 1), vi (sc xs i 2), vi (sc xs i 3)] rfl rfl rfl rfl rfl (sg_12 T) trivial (by decide) (Nat.le_of_ble_eq_true rfl) hc0 h (fun r2 hr2 h => ?_)
  show Z κ cs Q 801 [(0, .ref b), (1, vo ad 11 (some 0)), (2, vo ad 12 (some 0)), (3, vi i)] [vi r2, vi r1] ad σ
  obtain ⟨⟨he, hR2⟩, -⟩ := wpO_ckp.mp h
  refine z_icmp_eq C 2170 hr1 hr2 dL_law_801 (by decide) (fun q => ?_) (fun q => absurd he q)
  refine z_widen (k := cs.1 + 2) (n := cs.2 + 84) (by show _ ≤ _; omega) (by show _ ≤ _; omega) ?_
  exact kz _ _ hR2
set_option maxRecDepth 20000 in
set_option maxHeartbeats 4000000 in
theorem lawc_14 {κ : Cxt} {R : St → Prop} {b L : Nat} {xs : Nat → Int32} {cs : Nat × Nat} {Q : State → Prop} (C : Cx κ RL cL_law 4 ret 11) (T : isT κ) (hcs : csOK κ (cs.1 + 2, cs.2 + 84)) (hX : scX κ b L xs) (hO : OP14 R) {i : Int} (hL : L ≤ 3584) (hi : 0 ≤ i ∧ i + 7 ≤ (L : Int)) (kz : ∀ ad σ, R σ → Z κ (cs.1 + 2, cs.2 + 84) Q 2170 [(0, .ref b), (1, vo ad 11 (some 0)), (2, vo ad 12 (some 0)), (3, vi i)] [] ad σ) : ∀ ad σ, R σ → Z κ cs Q 806 [(0, .ref b), (1, vo ad 11 (some 0)), (2, vo ad 12 (some 0)), (3, vi i)] [] ad σ := by
  intro ad σ hR
  refine z_sf T (fun hSF => ?_)
  have hii : inr i := by constructor <;> omega
  have hc0 : csOK κ cs := csOK_le hcs (by omega) (by omega)
  refine z_aload_n C 1 dL_law_806 rfl ?_
  refine z_aloadR C 0 dL_law_807 rfl ?_
  refine z_iload_n C 3 dL_law_808 rfl ?_
  refine z_iconst C dL_law_809 ?_
  refine z_iadd C dL_law_810 ?_
  refine z_sld C hX (x := i + 1) (by constructor <;> omega) (by omega) dL_law_811 ?_
  show Z κ cs Q 812 _ [vi (sc xs i 1), vo ad 11 (some 0)] ad σ
  refine z_aloadR C 0 dL_law_812 rfl ?_
  refine z_iload_n C 3 dL_law_813 rfl ?_
  refine z_iconst C dL_law_814 ?_
  refine z_iadd C dL_law_815 ?_
  refine z_sld C hX (x := i + 2) (by constructor <;> omega) (by omega) dL_law_816 ?_
  show Z κ cs Q 817 _ [vi (sc xs i 2), vi (sc xs i 1), vo ad 11 (some 0)] ad σ
  refine z_aloadR C 0 dL_law_817 rfl ?_
  refine z_iload_n C 3 dL_law_818 rfl ?_
  refine z_iconst C dL_law_819 ?_
  refine z_iadd C dL_law_820 ?_
  refine z_sld C hX (x := i + 3) (by constructor <;> omega) (by omega) dL_law_821 ?_
  show Z κ cs Q 822 _ [vi (sc xs i 3), vi (sc xs i 2), vi (sc xs i 1), vo ad 11 (some 0)] ad σ
  have h := hO (sc xs i 1) (sc xs i 2) (sc xs i 3) inr_sc inr_sc inr_sc σ hSF hR
  refine z_cVp (st := []) T C (ct_X11_find (sc xs i 1) (sc xs i 2) (sc xs i 3) inr_sc inr_sc inr_sc) lm_L_77 lv_vX11_find dL_law_822 [vi (sc xs i 1), vi (sc xs i 2), vi (sc xs i 3)] rfl rfl rfl rfl rfl (sg_11 T) trivial (by decide) (Nat.le_of_ble_eq_true rfl) hc0 h (fun r1 hr1 h => ?_)
  show Z κ cs Q 825 [(0, .ref b), (1, vo ad 11 (some 0)), (2, vo ad 12 (some 0)), (3, vi i)] [vi r1] ad σ
  refine z_aload_n C 2 dL_law_825 rfl ?_
  refine z_aloadR C 0 dL_law_826 rfl ?_
  refine z_iload_n C 3 dL_law_827 rfl ?_
  refine z_iconst C dL_law_828 ?_
  refine z_iadd C dL_law_829 ?_
  refine z_sld C hX (x := i + 1) (by constructor <;> omega) (by omega) dL_law_830 ?_
  show Z κ cs Q 831 _ [vi (sc xs i 1), vo ad 12 (some 0), vi r1] ad σ
  refine z_aloadR C 0 dL_law_831 rfl ?_
  refine z_iload_n C 3 dL_law_832 rfl ?_
  refine z_iconst C dL_law_833 ?_
  refine z_iadd C dL_law_834 ?_
  refine z_sld C hX (x := i + 2) (by constructor <;> omega) (by omega) dL_law_835 ?_
  show Z κ cs Q 836 _ [vi (sc xs i 2), vi (sc xs i 1), vo ad 12 (some 0), vi r1] ad σ
  refine z_aloadR C 0 dL_law_836 rfl ?_
  refine z_iload_n C 3 dL_law_837 rfl ?_
  refine z_iconst C dL_law_838 ?_
  refine z_iadd C dL_law_839 ?_
  refine z_sld C hX (x := i + 3) (by constructor <;> omega) (by omega) dL_law_840 ?_
  show Z κ cs Q 841 _ [vi (sc xs i 3), vi (sc xs i 2), vi (sc xs i 1), vo ad 12 (some 0), vi r1] ad σ
  refine z_cVp (st := [vi r1]) T C (ct_X12_find (sc xs i 1) (sc xs i 2) (sc xs i 3) inr_sc inr_sc inr_sc) lm_L_80 lv_vX12_find dL_law_841 [vi (sc xs i 1), vi (sc xs i 2), vi (sc xs i 3)] rfl rfl rfl rfl rfl (sg_12 T) trivial (by decide) (Nat.le_of_ble_eq_true rfl) hc0 h (fun r2 hr2 h => ?_)
  show Z κ cs Q 844 [(0, .ref b), (1, vo ad 11 (some 0)), (2, vo ad 12 (some 0)), (3, vi i)] [vi r2, vi r1] ad σ
  obtain ⟨⟨he, hR2⟩, -⟩ := wpO_ckp.mp h
  refine z_icmp_eq C 2170 hr1 hr2 dL_law_844 (by decide) (fun q => ?_) (fun q => absurd he q)
  refine z_widen (k := cs.1 + 2) (n := cs.2 + 84) (by show _ ≤ _; omega) (by show _ ≤ _; omega) ?_
  exact kz _ _ hR2
set_option maxRecDepth 20000 in
set_option maxHeartbeats 4000000 in
theorem lawc_15 {κ : Cxt} {R : St → Prop} {b L : Nat} {xs : Nat → Int32} {cs : Nat × Nat} {Q : State → Prop} (C : Cx κ RL cL_law 4 ret 11) (T : isT κ) (hcs : csOK κ (cs.1 + 2, cs.2 + 84)) (hX : scX κ b L xs) (hO : OP15 R) {i : Int} (hL : L ≤ 3584) (hi : 0 ≤ i ∧ i + 7 ≤ (L : Int)) (kz : ∀ ad σ, R σ → Z κ (cs.1 + 2, cs.2 + 84) Q 2170 [(0, .ref b), (1, vo ad 11 (some 0)), (2, vo ad 12 (some 0)), (3, vi i)] [] ad σ) : ∀ ad σ, R σ → Z κ cs Q 849 [(0, .ref b), (1, vo ad 11 (some 0)), (2, vo ad 12 (some 0)), (3, vi i)] [] ad σ := by
  intro ad σ hR
  refine z_sf T (fun hSF => ?_)
  have hii : inr i := by constructor <;> omega
  have hc0 : csOK κ cs := csOK_le hcs (by omega) (by omega)
  refine z_aload_n C 1 dL_law_849 rfl ?_
  refine z_aloadR C 0 dL_law_850 rfl ?_
  refine z_iload_n C 3 dL_law_851 rfl ?_
  refine z_iconst C dL_law_852 ?_
  refine z_iadd C dL_law_853 ?_
  refine z_sld C hX (x := i + 1) (by constructor <;> omega) (by omega) dL_law_854 ?_
  show Z κ cs Q 855 _ [vi (sc xs i 1), vo ad 11 (some 0)] ad σ
  refine z_aloadR C 0 dL_law_855 rfl ?_
  refine z_iload_n C 3 dL_law_856 rfl ?_
  refine z_iconst C dL_law_857 ?_
  refine z_iadd C dL_law_858 ?_
  refine z_sld C hX (x := i + 2) (by constructor <;> omega) (by omega) dL_law_859 ?_
  show Z κ cs Q 860 _ [vi (sc xs i 2), vi (sc xs i 1), vo ad 11 (some 0)] ad σ
  refine z_aloadR C 0 dL_law_860 rfl ?_
  refine z_iload_n C 3 dL_law_861 rfl ?_
  refine z_iconst C dL_law_862 ?_
  refine z_iadd C dL_law_863 ?_
  refine z_sld C hX (x := i + 3) (by constructor <;> omega) (by omega) dL_law_864 ?_
  show Z κ cs Q 865 _ [vi (sc xs i 3), vi (sc xs i 2), vi (sc xs i 1), vo ad 11 (some 0)] ad σ
  refine z_aloadR C 0 dL_law_865 rfl ?_
  refine z_iload_n C 3 dL_law_866 rfl ?_
  refine z_iconst C dL_law_867 ?_
  refine z_iadd C dL_law_868 ?_
  refine z_sld C hX (x := i + 4) (by constructor <;> omega) (by omega) dL_law_869 ?_
  show Z κ cs Q 870 _ [vi (sc xs i 4), vi (sc xs i 3), vi (sc xs i 2), vi (sc xs i 1), vo ad 11 (some 0)] ad σ
  have h := hO (sc xs i 1) (sc xs i 2) (sc xs i 3) (sc xs i 4) inr_sc inr_sc inr_sc inr_sc σ hSF hR
  refine z_cVA (st := []) T C (ct_X11_story (sc xs i 1) (sc xs i 2) (sc xs i 3) (sc xs i 4) inr_sc inr_sc inr_sc inr_sc) lm_L_81 lv_vX11_story dL_law_870 [vi (sc xs i 1), vi (sc xs i 2), vi (sc xs i 3), vi (sc xs i 4)] rfl rfl rfl rfl rfl (sg_11 T) trivial (by decide) (Nat.le_of_ble_eq_true rfl) (csOK_le hcs (by show _ ≤ _; omega) (by show _ ≤ _; omega)) h (fun r1 σ1 ad1 hr1 hg h => ?_)
  show Z κ (cs.1 + 2, cs.2 + 14) Q 873 [(0, .ref b), (1, vo ad 11 (some 0)), (2, vo ad 12 (some 0)), (3, vi i)] [vi r1] ad1 σ1
  have hs1 : 0 < gN σ 11 := by rw [hSF.2.2.1 11 (by decide)]; decide
  have hs2 : 0 < gN σ 12 := by rw [hSF.2.2.1 12 (by decide)]; decide
  rw [voG hg hs1, voG hg hs2]
  have hc1 : csOK κ (cs.1 + 2, cs.2 + 14) := csOK_le hcs (by show _ ≤ _; omega) (by show _ ≤ _; omega)
  show Z κ (cs.1 + 2, cs.2 + 14) Q 873 [(0, .ref b), (1, vo ad1 11 (some 0)), (2, vo ad1 12 (some 0)), (3, vi i)] [vi r1] ad1 σ1
  refine z_aload_n C 2 dL_law_873 rfl ?_
  refine z_aloadR C 0 dL_law_874 rfl ?_
  refine z_iload_n C 3 dL_law_875 rfl ?_
  refine z_iconst C dL_law_876 ?_
  refine z_iadd C dL_law_877 ?_
  refine z_sld C hX (x := i + 1) (by constructor <;> omega) (by omega) dL_law_878 ?_
  show Z κ (cs.1 + 2, cs.2 + 14) Q 879 _ [vi (sc xs i 1), vo ad1 12 (some 0), vi r1] ad1 σ1
  refine z_aloadR C 0 dL_law_879 rfl ?_
  refine z_iload_n C 3 dL_law_880 rfl ?_
  refine z_iconst C dL_law_881 ?_
  refine z_iadd C dL_law_882 ?_
  refine z_sld C hX (x := i + 2) (by constructor <;> omega) (by omega) dL_law_883 ?_
  show Z κ (cs.1 + 2, cs.2 + 14) Q 884 _ [vi (sc xs i 2), vi (sc xs i 1), vo ad1 12 (some 0), vi r1] ad1 σ1
  refine z_aloadR C 0 dL_law_884 rfl ?_
  refine z_iload_n C 3 dL_law_885 rfl ?_
  refine z_iconst C dL_law_886 ?_
  refine z_iadd C dL_law_887 ?_
  refine z_sld C hX (x := i + 3) (by constructor <;> omega) (by omega) dL_law_888 ?_
  show Z κ (cs.1 + 2, cs.2 + 14) Q 889 _ [vi (sc xs i 3), vi (sc xs i 2), vi (sc xs i 1), vo ad1 12 (some 0), vi r1] ad1 σ1
  refine z_aloadR C 0 dL_law_889 rfl ?_
  refine z_iload_n C 3 dL_law_890 rfl ?_
  refine z_iconst C dL_law_891 ?_
  refine z_iadd C dL_law_892 ?_
  refine z_sld C hX (x := i + 4) (by constructor <;> omega) (by omega) dL_law_893 ?_
  show Z κ (cs.1 + 2, cs.2 + 14) Q 894 _ [vi (sc xs i 4), vi (sc xs i 3), vi (sc xs i 2), vi (sc xs i 1), vo ad1 12 (some 0), vi r1] ad1 σ1
  refine z_cV (st := [vi r1]) T C (ct_X12_story (sc xs i 1) (sc xs i 2) (sc xs i 3) (sc xs i 4) inr_sc inr_sc inr_sc inr_sc) lm_L_84 lv_vX12_story dL_law_894 [vi (sc xs i 1), vi (sc xs i 2), vi (sc xs i 3), vi (sc xs i 4)] rfl rfl rfl rfl rfl (sg_12 T) trivial (by decide) (Nat.le_of_ble_eq_true rfl) hc1 h (fun r2 σ2 hr2 eN1 h => ?_)
  show Z κ (cs.1 + 2, cs.2 + 14) Q 897 [(0, .ref b), (1, vo ad1 11 (some 0)), (2, vo ad1 12 (some 0)), (3, vi i)] [vi r2, vi r1] ad1 σ2
  obtain ⟨⟨he, hR2⟩, -⟩ := wpO_ckp.mp h
  refine z_icmp_eq C 2170 hr1 hr2 dL_law_897 (by decide) (fun q => ?_) (fun q => absurd he q)
  refine z_widen (k := cs.1 + 2) (n := cs.2 + 84) (by show _ ≤ _; omega) (by show _ ≤ _; omega) ?_
  exact kz _ _ hR2
set_option maxRecDepth 20000 in
set_option maxHeartbeats 4000000 in
theorem lawc_16 {κ : Cxt} {R : St → Prop} {b L : Nat} {xs : Nat → Int32} {cs : Nat × Nat} {Q : State → Prop} (C : Cx κ RL cL_law 4 ret 11) (T : isT κ) (hcs : csOK κ (cs.1 + 2, cs.2 + 84)) (hX : scX κ b L xs) (hO : OP16 R) {i : Int} (hL : L ≤ 3584) (hi : 0 ≤ i ∧ i + 7 ≤ (L : Int)) (kz : ∀ ad σ, R σ → Z κ (cs.1 + 2, cs.2 + 84) Q 2170 [(0, .ref b), (1, vo ad 11 (some 0)), (2, vo ad 12 (some 0)), (3, vi i)] [] ad σ) : ∀ ad σ, R σ → Z κ cs Q 902 [(0, .ref b), (1, vo ad 11 (some 0)), (2, vo ad 12 (some 0)), (3, vi i)] [] ad σ := by
  intro ad σ hR
  refine z_sf T (fun hSF => ?_)
  have hii : inr i := by constructor <;> omega
  have hc0 : csOK κ cs := csOK_le hcs (by omega) (by omega)
  refine z_aload_n C 1 dL_law_902 rfl ?_
  refine z_aloadR C 0 dL_law_903 rfl ?_
  refine z_iload_n C 3 dL_law_904 rfl ?_
  refine z_iconst C dL_law_905 ?_
  refine z_iadd C dL_law_906 ?_
  refine z_sld C hX (x := i + 1) (by constructor <;> omega) (by omega) dL_law_907 ?_
  show Z κ cs Q 908 _ [vi (sc xs i 1), vo ad 11 (some 0)] ad σ
  refine z_aloadR C 0 dL_law_908 rfl ?_
  refine z_iload_n C 3 dL_law_909 rfl ?_
  refine z_iconst C dL_law_910 ?_
  refine z_iadd C dL_law_911 ?_
  refine z_sld C hX (x := i + 2) (by constructor <;> omega) (by omega) dL_law_912 ?_
  show Z κ cs Q 913 _ [vi (sc xs i 2), vi (sc xs i 1), vo ad 11 (some 0)] ad σ
  have h := hO (sc xs i 1) (sc xs i 2) inr_sc inr_sc σ hSF hR
  refine z_cV (st := []) T C (ct_X11_put (sc xs i 1) (sc xs i 2) inr_sc inr_sc) lm_L_85 lv_vX11_put dL_law_913 [vi (sc xs i 1), vi (sc xs i 2)] rfl rfl rfl rfl rfl (sg_11 T) trivial (by decide) (Nat.le_of_ble_eq_true rfl) hc0 h (fun r1 σ1 hr1 eN0 h => ?_)
  show Z κ cs Q 916 [(0, .ref b), (1, vo ad 11 (some 0)), (2, vo ad 12 (some 0)), (3, vi i)] [vi r1] ad σ1
  refine z_aload_n C 2 dL_law_916 rfl ?_
  refine z_aloadR C 0 dL_law_917 rfl ?_
  refine z_iload_n C 3 dL_law_918 rfl ?_
  refine z_iconst C dL_law_919 ?_
  refine z_iadd C dL_law_920 ?_
  refine z_sld C hX (x := i + 1) (by constructor <;> omega) (by omega) dL_law_921 ?_
  show Z κ cs Q 922 _ [vi (sc xs i 1), vo ad 12 (some 0), vi r1] ad σ1
  refine z_aloadR C 0 dL_law_922 rfl ?_
  refine z_iload_n C 3 dL_law_923 rfl ?_
  refine z_iconst C dL_law_924 ?_
  refine z_iadd C dL_law_925 ?_
  refine z_sld C hX (x := i + 2) (by constructor <;> omega) (by omega) dL_law_926 ?_
  show Z κ cs Q 927 _ [vi (sc xs i 2), vi (sc xs i 1), vo ad 12 (some 0), vi r1] ad σ1
  refine z_cV (st := [vi r1]) T C (ct_X12_put (sc xs i 1) (sc xs i 2) inr_sc inr_sc) lm_L_88 lv_vX12_put dL_law_927 [vi (sc xs i 1), vi (sc xs i 2)] rfl rfl rfl rfl rfl (sg_12 T) trivial (by decide) (Nat.le_of_ble_eq_true rfl) hc0 h (fun r2 σ2 hr2 eN1 h => ?_)
  show Z κ cs Q 930 [(0, .ref b), (1, vo ad 11 (some 0)), (2, vo ad 12 (some 0)), (3, vi i)] [vi r2, vi r1] ad σ2
  obtain ⟨⟨he, hR2⟩, -⟩ := wpO_ckp.mp h
  refine z_icmp_eq C 2170 hr1 hr2 dL_law_930 (by decide) (fun q => ?_) (fun q => absurd he q)
  refine z_widen (k := cs.1 + 2) (n := cs.2 + 84) (by show _ ≤ _; omega) (by show _ ≤ _; omega) ?_
  exact kz _ _ hR2
set_option maxRecDepth 20000 in
set_option maxHeartbeats 4000000 in
theorem lawc_17 {κ : Cxt} {R : St → Prop} {b L : Nat} {xs : Nat → Int32} {cs : Nat × Nat} {Q : State → Prop} (C : Cx κ RL cL_law 4 ret 11) (T : isT κ) (hcs : csOK κ (cs.1 + 2, cs.2 + 84)) (hX : scX κ b L xs) (hO : OP17 R) {i : Int} (hL : L ≤ 3584) (hi : 0 ≤ i ∧ i + 7 ≤ (L : Int)) (kz : ∀ ad σ, R σ → Z κ (cs.1 + 2, cs.2 + 84) Q 2170 [(0, .ref b), (1, vo ad 11 (some 0)), (2, vo ad 12 (some 0)), (3, vi i)] [] ad σ) : ∀ ad σ, R σ → Z κ cs Q 935 [(0, .ref b), (1, vo ad 11 (some 0)), (2, vo ad 12 (some 0)), (3, vi i)] [] ad σ := by
  intro ad σ hR
  refine z_sf T (fun hSF => ?_)
  have hii : inr i := by constructor <;> omega
  have hc0 : csOK κ cs := csOK_le hcs (by omega) (by omega)
  refine z_aload_n C 1 dL_law_935 rfl ?_
  refine z_aloadR C 0 dL_law_936 rfl ?_
  refine z_iload_n C 3 dL_law_937 rfl ?_
  refine z_iconst C dL_law_938 ?_
  refine z_iadd C dL_law_939 ?_
  refine z_sld C hX (x := i + 1) (by constructor <;> omega) (by omega) dL_law_940 ?_
  show Z κ cs Q 941 _ [vi (sc xs i 1), vo ad 11 (some 0)] ad σ
  refine z_aloadR C 0 dL_law_941 rfl ?_
  refine z_iload_n C 3 dL_law_942 rfl ?_
  refine z_iconst C dL_law_943 ?_
  refine z_iadd C dL_law_944 ?_
  refine z_sld C hX (x := i + 2) (by constructor <;> omega) (by omega) dL_law_945 ?_
  show Z κ cs Q 946 _ [vi (sc xs i 2), vi (sc xs i 1), vo ad 11 (some 0)] ad σ
  have h := hO (sc xs i 1) (sc xs i 2) inr_sc inr_sc σ hSF hR
  refine z_cV (st := []) T C (ct_X11_cut (sc xs i 1) (sc xs i 2) inr_sc inr_sc) lm_L_89 lv_vX11_cut dL_law_946 [vi (sc xs i 1), vi (sc xs i 2)] rfl rfl rfl rfl rfl (sg_11 T) trivial (by decide) (Nat.le_of_ble_eq_true rfl) hc0 h (fun r1 σ1 hr1 eN0 h => ?_)
  show Z κ cs Q 949 [(0, .ref b), (1, vo ad 11 (some 0)), (2, vo ad 12 (some 0)), (3, vi i)] [vi r1] ad σ1
  refine z_aload_n C 2 dL_law_949 rfl ?_
  refine z_aloadR C 0 dL_law_950 rfl ?_
  refine z_iload_n C 3 dL_law_951 rfl ?_
  refine z_iconst C dL_law_952 ?_
  refine z_iadd C dL_law_953 ?_
  refine z_sld C hX (x := i + 1) (by constructor <;> omega) (by omega) dL_law_954 ?_
  show Z κ cs Q 955 _ [vi (sc xs i 1), vo ad 12 (some 0), vi r1] ad σ1
  refine z_aloadR C 0 dL_law_955 rfl ?_
  refine z_iload_n C 3 dL_law_956 rfl ?_
  refine z_iconst C dL_law_957 ?_
  refine z_iadd C dL_law_958 ?_
  refine z_sld C hX (x := i + 2) (by constructor <;> omega) (by omega) dL_law_959 ?_
  show Z κ cs Q 960 _ [vi (sc xs i 2), vi (sc xs i 1), vo ad 12 (some 0), vi r1] ad σ1
  refine z_cV (st := [vi r1]) T C (ct_X12_cut (sc xs i 1) (sc xs i 2) inr_sc inr_sc) lm_L_92 lv_vX12_cut dL_law_960 [vi (sc xs i 1), vi (sc xs i 2)] rfl rfl rfl rfl rfl (sg_12 T) trivial (by decide) (Nat.le_of_ble_eq_true rfl) hc0 h (fun r2 σ2 hr2 eN1 h => ?_)
  show Z κ cs Q 963 [(0, .ref b), (1, vo ad 11 (some 0)), (2, vo ad 12 (some 0)), (3, vi i)] [vi r2, vi r1] ad σ2
  obtain ⟨⟨he, hR2⟩, -⟩ := wpO_ckp.mp h
  refine z_icmp_eq C 2170 hr1 hr2 dL_law_963 (by decide) (fun q => ?_) (fun q => absurd he q)
  refine z_widen (k := cs.1 + 2) (n := cs.2 + 84) (by show _ ≤ _; omega) (by show _ ≤ _; omega) ?_
  exact kz _ _ hR2
set_option maxRecDepth 20000 in
set_option maxHeartbeats 4000000 in
theorem lawc_18 {κ : Cxt} {R : St → Prop} {b L : Nat} {xs : Nat → Int32} {cs : Nat × Nat} {Q : State → Prop} (C : Cx κ RL cL_law 4 ret 11) (T : isT κ) (hcs : csOK κ (cs.1 + 2, cs.2 + 84)) (hX : scX κ b L xs) (hO : OP18 R) {i : Int} (hL : L ≤ 3584) (hi : 0 ≤ i ∧ i + 7 ≤ (L : Int)) (kz : ∀ ad σ, R σ → Z κ (cs.1 + 2, cs.2 + 84) Q 2170 [(0, .ref b), (1, vo ad 11 (some 0)), (2, vo ad 12 (some 0)), (3, vi i)] [] ad σ) : ∀ ad σ, R σ → Z κ cs Q 968 [(0, .ref b), (1, vo ad 11 (some 0)), (2, vo ad 12 (some 0)), (3, vi i)] [] ad σ := by
  intro ad σ hR
  refine z_sf T (fun hSF => ?_)
  have hii : inr i := by constructor <;> omega
  have hc0 : csOK κ cs := csOK_le hcs (by omega) (by omega)
  refine z_aload_n C 1 dL_law_968 rfl ?_
  refine z_aloadR C 0 dL_law_969 rfl ?_
  refine z_iload_n C 3 dL_law_970 rfl ?_
  refine z_iconst C dL_law_971 ?_
  refine z_iadd C dL_law_972 ?_
  refine z_sld C hX (x := i + 1) (by constructor <;> omega) (by omega) dL_law_973 ?_
  show Z κ cs Q 974 _ [vi (sc xs i 1), vo ad 11 (some 0)] ad σ
  refine z_aloadR C 0 dL_law_974 rfl ?_
  refine z_iload_n C 3 dL_law_975 rfl ?_
  refine z_iconst C dL_law_976 ?_
  refine z_iadd C dL_law_977 ?_
  refine z_sld C hX (x := i + 2) (by constructor <;> omega) (by omega) dL_law_978 ?_
  show Z κ cs Q 979 _ [vi (sc xs i 2), vi (sc xs i 1), vo ad 11 (some 0)] ad σ
  refine z_if_eq C 986 inr_sc dL_law_979 (by decide) (fun q0 => ?_) (fun q0 => ?_)
  · refine z_iconst C dL_law_986 ?_
    have h := hO (sc xs i 1) 0 inr_sc (by decide) σ hSF hR
    refine z_cV (st := []) T C (ct_X11_say (sc xs i 1) 0 inr_sc (by decide)) lm_L_93 lv_vX11_say dL_law_987 [vi (sc xs i 1), vi 0] rfl rfl rfl rfl rfl (sg_11 T) trivial (by decide) (Nat.le_of_ble_eq_true rfl) hc0 h (fun r1 σ1 hr1 eN0 h => ?_)
    show Z κ cs Q 990 [(0, .ref b), (1, vo ad 11 (some 0)), (2, vo ad 12 (some 0)), (3, vi i)] [vi r1] ad σ1
    refine z_aload_n C 2 dL_law_990 rfl ?_
    refine z_aloadR C 0 dL_law_991 rfl ?_
    refine z_iload_n C 3 dL_law_992 rfl ?_
    refine z_iconst C dL_law_993 ?_
    refine z_iadd C dL_law_994 ?_
    refine z_sld C hX (x := i + 1) (by constructor <;> omega) (by omega) dL_law_995 ?_
    show Z κ cs Q 996 _ [vi (sc xs i 1), vo ad 12 (some 0), vi r1] ad σ1
    refine z_aloadR C 0 dL_law_996 rfl ?_
    refine z_iload_n C 3 dL_law_997 rfl ?_
    refine z_iconst C dL_law_998 ?_
    refine z_iadd C dL_law_999 ?_
    refine z_sld C hX (x := i + 2) (by constructor <;> omega) (by omega) dL_law_1000 ?_
    show Z κ cs Q 1001 _ [vi (sc xs i 2), vi (sc xs i 1), vo ad 12 (some 0), vi r1] ad σ1
    refine z_if_eq C 1008 inr_sc dL_law_1001 (by decide) (fun q => ?_) (fun q => ?_)
    rotate_left
    · exact absurd q0 q
    refine z_iconst C dL_law_1008 ?_
    refine z_cV (st := [vi r1]) T C (ct_X12_say (sc xs i 1) 0 inr_sc (by decide)) lm_L_96 lv_vX12_say dL_law_1009 [vi (sc xs i 1), vi 0] rfl rfl rfl rfl rfl (sg_12 T) trivial (by decide) (Nat.le_of_ble_eq_true rfl) hc0 h (fun r2 σ2 hr2 eN1 h => ?_)
    show Z κ cs Q 1012 [(0, .ref b), (1, vo ad 11 (some 0)), (2, vo ad 12 (some 0)), (3, vi i)] [vi r2, vi r1] ad σ2
    obtain ⟨⟨he, hR2⟩, -⟩ := wpO_ckp.mp h
    refine z_icmp_eq C 2170 hr1 hr2 dL_law_1012 (by decide) (fun q => ?_) (fun q => absurd he q)
    refine z_widen (k := cs.1 + 2) (n := cs.2 + 84) (by show _ ≤ _; omega) (by show _ ≤ _; omega) ?_
    exact kz _ _ hR2
  · refine z_iconst C dL_law_982 ?_
    refine z_goto C 987 dL_law_983 (by decide) ?_
    have h := hO (sc xs i 1) 1 inr_sc (by decide) σ hSF hR
    refine z_cV (st := []) T C (ct_X11_say (sc xs i 1) 1 inr_sc (by decide)) lm_L_93 lv_vX11_say dL_law_987 [vi (sc xs i 1), vi 1] rfl rfl rfl rfl rfl (sg_11 T) trivial (by decide) (Nat.le_of_ble_eq_true rfl) hc0 h (fun r1 σ1 hr1 eN0 h => ?_)
    show Z κ cs Q 990 [(0, .ref b), (1, vo ad 11 (some 0)), (2, vo ad 12 (some 0)), (3, vi i)] [vi r1] ad σ1
    refine z_aload_n C 2 dL_law_990 rfl ?_
    refine z_aloadR C 0 dL_law_991 rfl ?_
    refine z_iload_n C 3 dL_law_992 rfl ?_
    refine z_iconst C dL_law_993 ?_
    refine z_iadd C dL_law_994 ?_
    refine z_sld C hX (x := i + 1) (by constructor <;> omega) (by omega) dL_law_995 ?_
    show Z κ cs Q 996 _ [vi (sc xs i 1), vo ad 12 (some 0), vi r1] ad σ1
    refine z_aloadR C 0 dL_law_996 rfl ?_
    refine z_iload_n C 3 dL_law_997 rfl ?_
    refine z_iconst C dL_law_998 ?_
    refine z_iadd C dL_law_999 ?_
    refine z_sld C hX (x := i + 2) (by constructor <;> omega) (by omega) dL_law_1000 ?_
    show Z κ cs Q 1001 _ [vi (sc xs i 2), vi (sc xs i 1), vo ad 12 (some 0), vi r1] ad σ1
    refine z_if_eq C 1008 inr_sc dL_law_1001 (by decide) (fun q => ?_) (fun q => ?_)
    · exact absurd q q0
    refine z_iconst C dL_law_1004 ?_
    refine z_goto C 1009 dL_law_1005 (by decide) ?_
    refine z_cV (st := [vi r1]) T C (ct_X12_say (sc xs i 1) 1 inr_sc (by decide)) lm_L_96 lv_vX12_say dL_law_1009 [vi (sc xs i 1), vi 1] rfl rfl rfl rfl rfl (sg_12 T) trivial (by decide) (Nat.le_of_ble_eq_true rfl) hc0 h (fun r2 σ2 hr2 eN1 h => ?_)
    show Z κ cs Q 1012 [(0, .ref b), (1, vo ad 11 (some 0)), (2, vo ad 12 (some 0)), (3, vi i)] [vi r2, vi r1] ad σ2
    obtain ⟨⟨he, hR2⟩, -⟩ := wpO_ckp.mp h
    refine z_icmp_eq C 2170 hr1 hr2 dL_law_1012 (by decide) (fun q => ?_) (fun q => absurd he q)
    refine z_widen (k := cs.1 + 2) (n := cs.2 + 84) (by show _ ≤ _; omega) (by show _ ≤ _; omega) ?_
    exact kz _ _ hR2
set_option maxRecDepth 20000 in
set_option maxHeartbeats 4000000 in
theorem lawc_19 {κ : Cxt} {R : St → Prop} {b L : Nat} {xs : Nat → Int32} {cs : Nat × Nat} {Q : State → Prop} (C : Cx κ RL cL_law 4 ret 11) (T : isT κ) (hcs : csOK κ (cs.1 + 2, cs.2 + 84)) (hX : scX κ b L xs) (hO : OP19 R) {i : Int} (hL : L ≤ 3584) (hi : 0 ≤ i ∧ i + 7 ≤ (L : Int)) (kz : ∀ ad σ, R σ → Z κ (cs.1 + 2, cs.2 + 84) Q 2170 [(0, .ref b), (1, vo ad 11 (some 0)), (2, vo ad 12 (some 0)), (3, vi i)] [] ad σ) : ∀ ad σ, R σ → Z κ cs Q 1017 [(0, .ref b), (1, vo ad 11 (some 0)), (2, vo ad 12 (some 0)), (3, vi i)] [] ad σ := by
  intro ad σ hR
  refine z_sf T (fun hSF => ?_)
  have hii : inr i := by constructor <;> omega
  have hc0 : csOK κ cs := csOK_le hcs (by omega) (by omega)
  refine z_aload_n C 1 dL_law_1017 rfl ?_
  refine z_aloadR C 0 dL_law_1018 rfl ?_
  refine z_iload_n C 3 dL_law_1019 rfl ?_
  refine z_iconst C dL_law_1020 ?_
  refine z_iadd C dL_law_1021 ?_
  refine z_sld C hX (x := i + 1) (by constructor <;> omega) (by omega) dL_law_1022 ?_
  show Z κ cs Q 1023 _ [vi (sc xs i 1), vo ad 11 (some 0)] ad σ
  refine z_aloadR C 0 dL_law_1023 rfl ?_
  refine z_iload_n C 3 dL_law_1024 rfl ?_
  refine z_iconst C dL_law_1025 ?_
  refine z_iadd C dL_law_1026 ?_
  refine z_sld C hX (x := i + 2) (by constructor <;> omega) (by omega) dL_law_1027 ?_
  show Z κ cs Q 1028 _ [vi (sc xs i 2), vi (sc xs i 1), vo ad 11 (some 0)] ad σ
  refine z_if_eq C 1035 inr_sc dL_law_1028 (by decide) (fun q0 => ?_) (fun q0 => ?_)
  · refine z_iconst C dL_law_1035 ?_
    have h := hO (sc xs i 1) 0 inr_sc (by decide) σ hSF hR
    refine z_cV (st := []) T C (ct_X11_must (sc xs i 1) 0 inr_sc (by decide)) lm_L_97 lv_vX11_must dL_law_1036 [vi (sc xs i 1), vi 0] rfl rfl rfl rfl rfl (sg_11 T) trivial (by decide) (Nat.le_of_ble_eq_true rfl) hc0 h (fun r1 σ1 hr1 eN0 h => ?_)
    show Z κ cs Q 1039 [(0, .ref b), (1, vo ad 11 (some 0)), (2, vo ad 12 (some 0)), (3, vi i)] [vi r1] ad σ1
    refine z_aload_n C 2 dL_law_1039 rfl ?_
    refine z_aloadR C 0 dL_law_1040 rfl ?_
    refine z_iload_n C 3 dL_law_1041 rfl ?_
    refine z_iconst C dL_law_1042 ?_
    refine z_iadd C dL_law_1043 ?_
    refine z_sld C hX (x := i + 1) (by constructor <;> omega) (by omega) dL_law_1044 ?_
    show Z κ cs Q 1045 _ [vi (sc xs i 1), vo ad 12 (some 0), vi r1] ad σ1
    refine z_aloadR C 0 dL_law_1045 rfl ?_
    refine z_iload_n C 3 dL_law_1046 rfl ?_
    refine z_iconst C dL_law_1047 ?_
    refine z_iadd C dL_law_1048 ?_
    refine z_sld C hX (x := i + 2) (by constructor <;> omega) (by omega) dL_law_1049 ?_
    show Z κ cs Q 1050 _ [vi (sc xs i 2), vi (sc xs i 1), vo ad 12 (some 0), vi r1] ad σ1
    refine z_if_eq C 1057 inr_sc dL_law_1050 (by decide) (fun q => ?_) (fun q => ?_)
    rotate_left
    · exact absurd q0 q
    refine z_iconst C dL_law_1057 ?_
    refine z_cV (st := [vi r1]) T C (ct_X12_must (sc xs i 1) 0 inr_sc (by decide)) lm_L_100 lv_vX12_must dL_law_1058 [vi (sc xs i 1), vi 0] rfl rfl rfl rfl rfl (sg_12 T) trivial (by decide) (Nat.le_of_ble_eq_true rfl) hc0 h (fun r2 σ2 hr2 eN1 h => ?_)
    show Z κ cs Q 1061 [(0, .ref b), (1, vo ad 11 (some 0)), (2, vo ad 12 (some 0)), (3, vi i)] [vi r2, vi r1] ad σ2
    obtain ⟨⟨he, hR2⟩, -⟩ := wpO_ckp.mp h
    refine z_icmp_eq C 2170 hr1 hr2 dL_law_1061 (by decide) (fun q => ?_) (fun q => absurd he q)
    refine z_widen (k := cs.1 + 2) (n := cs.2 + 84) (by show _ ≤ _; omega) (by show _ ≤ _; omega) ?_
    exact kz _ _ hR2
  · refine z_iconst C dL_law_1031 ?_
    refine z_goto C 1036 dL_law_1032 (by decide) ?_
    have h := hO (sc xs i 1) 1 inr_sc (by decide) σ hSF hR
    refine z_cV (st := []) T C (ct_X11_must (sc xs i 1) 1 inr_sc (by decide)) lm_L_97 lv_vX11_must dL_law_1036 [vi (sc xs i 1), vi 1] rfl rfl rfl rfl rfl (sg_11 T) trivial (by decide) (Nat.le_of_ble_eq_true rfl) hc0 h (fun r1 σ1 hr1 eN0 h => ?_)
    show Z κ cs Q 1039 [(0, .ref b), (1, vo ad 11 (some 0)), (2, vo ad 12 (some 0)), (3, vi i)] [vi r1] ad σ1
    refine z_aload_n C 2 dL_law_1039 rfl ?_
    refine z_aloadR C 0 dL_law_1040 rfl ?_
    refine z_iload_n C 3 dL_law_1041 rfl ?_
    refine z_iconst C dL_law_1042 ?_
    refine z_iadd C dL_law_1043 ?_
    refine z_sld C hX (x := i + 1) (by constructor <;> omega) (by omega) dL_law_1044 ?_
    show Z κ cs Q 1045 _ [vi (sc xs i 1), vo ad 12 (some 0), vi r1] ad σ1
    refine z_aloadR C 0 dL_law_1045 rfl ?_
    refine z_iload_n C 3 dL_law_1046 rfl ?_
    refine z_iconst C dL_law_1047 ?_
    refine z_iadd C dL_law_1048 ?_
    refine z_sld C hX (x := i + 2) (by constructor <;> omega) (by omega) dL_law_1049 ?_
    show Z κ cs Q 1050 _ [vi (sc xs i 2), vi (sc xs i 1), vo ad 12 (some 0), vi r1] ad σ1
    refine z_if_eq C 1057 inr_sc dL_law_1050 (by decide) (fun q => ?_) (fun q => ?_)
    · exact absurd q q0
    refine z_iconst C dL_law_1053 ?_
    refine z_goto C 1058 dL_law_1054 (by decide) ?_
    refine z_cV (st := [vi r1]) T C (ct_X12_must (sc xs i 1) 1 inr_sc (by decide)) lm_L_100 lv_vX12_must dL_law_1058 [vi (sc xs i 1), vi 1] rfl rfl rfl rfl rfl (sg_12 T) trivial (by decide) (Nat.le_of_ble_eq_true rfl) hc0 h (fun r2 σ2 hr2 eN1 h => ?_)
    show Z κ cs Q 1061 [(0, .ref b), (1, vo ad 11 (some 0)), (2, vo ad 12 (some 0)), (3, vi i)] [vi r2, vi r1] ad σ2
    obtain ⟨⟨he, hR2⟩, -⟩ := wpO_ckp.mp h
    refine z_icmp_eq C 2170 hr1 hr2 dL_law_1061 (by decide) (fun q => ?_) (fun q => absurd he q)
    refine z_widen (k := cs.1 + 2) (n := cs.2 + 84) (by show _ ≤ _; omega) (by show _ ≤ _; omega) ?_
    exact kz _ _ hR2
set_option maxRecDepth 20000 in
set_option maxHeartbeats 4000000 in
theorem lawc_20 {κ : Cxt} {R : St → Prop} {b L : Nat} {xs : Nat → Int32} {cs : Nat × Nat} {Q : State → Prop} (C : Cx κ RL cL_law 4 ret 11) (T : isT κ) (hcs : csOK κ (cs.1 + 2, cs.2 + 84)) (hX : scX κ b L xs) (hO : OP20 R) {i : Int} (hL : L ≤ 3584) (hi : 0 ≤ i ∧ i + 7 ≤ (L : Int)) (kz : ∀ ad σ, R σ → Z κ (cs.1 + 2, cs.2 + 84) Q 2170 [(0, .ref b), (1, vo ad 11 (some 0)), (2, vo ad 12 (some 0)), (3, vi i)] [] ad σ) : ∀ ad σ, R σ → Z κ cs Q 1066 [(0, .ref b), (1, vo ad 11 (some 0)), (2, vo ad 12 (some 0)), (3, vi i)] [] ad σ := by
  intro ad σ hR
  refine z_sf T (fun hSF => ?_)
  have hii : inr i := by constructor <;> omega
  have hc0 : csOK κ cs := csOK_le hcs (by omega) (by omega)
  refine z_aload_n C 1 dL_law_1066 rfl ?_
  refine z_aloadR C 0 dL_law_1067 rfl ?_
  refine z_iload_n C 3 dL_law_1068 rfl ?_
  refine z_iconst C dL_law_1069 ?_
  refine z_iadd C dL_law_1070 ?_
  refine z_sld C hX (x := i + 1) (by constructor <;> omega) (by omega) dL_law_1071 ?_
  show Z κ cs Q 1072 _ [vi (sc xs i 1), vo ad 11 (some 0)] ad σ
  refine z_aloadR C 0 dL_law_1072 rfl ?_
  refine z_iload_n C 3 dL_law_1073 rfl ?_
  refine z_iconst C dL_law_1074 ?_
  refine z_iadd C dL_law_1075 ?_
  refine z_sld C hX (x := i + 2) (by constructor <;> omega) (by omega) dL_law_1076 ?_
  show Z κ cs Q 1077 _ [vi (sc xs i 2), vi (sc xs i 1), vo ad 11 (some 0)] ad σ
  have h := hO (sc xs i 1) (sc xs i 2) inr_sc inr_sc σ hSF hR
  refine z_cVp (st := []) T C (ct_X11_of (sc xs i 1) (sc xs i 2) inr_sc inr_sc) lm_L_101 lv_vX11_of dL_law_1077 [vi (sc xs i 1), vi (sc xs i 2)] rfl rfl rfl rfl rfl (sg_11 T) trivial (by decide) (Nat.le_of_ble_eq_true rfl) hc0 h (fun r1 hr1 h => ?_)
  show Z κ cs Q 1080 [(0, .ref b), (1, vo ad 11 (some 0)), (2, vo ad 12 (some 0)), (3, vi i)] [vi r1] ad σ
  refine z_aload_n C 2 dL_law_1080 rfl ?_
  refine z_aloadR C 0 dL_law_1081 rfl ?_
  refine z_iload_n C 3 dL_law_1082 rfl ?_
  refine z_iconst C dL_law_1083 ?_
  refine z_iadd C dL_law_1084 ?_
  refine z_sld C hX (x := i + 1) (by constructor <;> omega) (by omega) dL_law_1085 ?_
  show Z κ cs Q 1086 _ [vi (sc xs i 1), vo ad 12 (some 0), vi r1] ad σ
  refine z_aloadR C 0 dL_law_1086 rfl ?_
  refine z_iload_n C 3 dL_law_1087 rfl ?_
  refine z_iconst C dL_law_1088 ?_
  refine z_iadd C dL_law_1089 ?_
  refine z_sld C hX (x := i + 2) (by constructor <;> omega) (by omega) dL_law_1090 ?_
  show Z κ cs Q 1091 _ [vi (sc xs i 2), vi (sc xs i 1), vo ad 12 (some 0), vi r1] ad σ
  refine z_cVp (st := [vi r1]) T C (ct_X12_of (sc xs i 1) (sc xs i 2) inr_sc inr_sc) lm_L_104 lv_vX12_of dL_law_1091 [vi (sc xs i 1), vi (sc xs i 2)] rfl rfl rfl rfl rfl (sg_12 T) trivial (by decide) (Nat.le_of_ble_eq_true rfl) hc0 h (fun r2 hr2 h => ?_)
  show Z κ cs Q 1094 [(0, .ref b), (1, vo ad 11 (some 0)), (2, vo ad 12 (some 0)), (3, vi i)] [vi r2, vi r1] ad σ
  obtain ⟨⟨he, hR2⟩, -⟩ := wpO_ckp.mp h
  refine z_icmp_eq C 2170 hr1 hr2 dL_law_1094 (by decide) (fun q => ?_) (fun q => absurd he q)
  refine z_widen (k := cs.1 + 2) (n := cs.2 + 84) (by show _ ≤ _; omega) (by show _ ≤ _; omega) ?_
  exact kz _ _ hR2
set_option maxRecDepth 20000 in
set_option maxHeartbeats 4000000 in
theorem lawc_21 {κ : Cxt} {R : St → Prop} {b L : Nat} {xs : Nat → Int32} {cs : Nat × Nat} {Q : State → Prop} (C : Cx κ RL cL_law 4 ret 11) (T : isT κ) (hcs : csOK κ (cs.1 + 2, cs.2 + 84)) (hX : scX κ b L xs) (hO : OP21 R) {i : Int} (hL : L ≤ 3584) (hi : 0 ≤ i ∧ i + 7 ≤ (L : Int)) (kz : ∀ ad σ, R σ → Z κ (cs.1 + 2, cs.2 + 84) Q 2170 [(0, .ref b), (1, vo ad 11 (some 0)), (2, vo ad 12 (some 0)), (3, vi i)] [] ad σ) : ∀ ad σ, R σ → Z κ cs Q 1099 [(0, .ref b), (1, vo ad 11 (some 0)), (2, vo ad 12 (some 0)), (3, vi i)] [] ad σ := by
  intro ad σ hR
  refine z_sf T (fun hSF => ?_)
  have hii : inr i := by constructor <;> omega
  have hc0 : csOK κ cs := csOK_le hcs (by omega) (by omega)
  refine z_aload_n C 1 dL_law_1099 rfl ?_
  refine z_aloadR C 0 dL_law_1100 rfl ?_
  refine z_iload_n C 3 dL_law_1101 rfl ?_
  refine z_iconst C dL_law_1102 ?_
  refine z_iadd C dL_law_1103 ?_
  refine z_sld C hX (x := i + 1) (by constructor <;> omega) (by omega) dL_law_1104 ?_
  show Z κ cs Q 1105 _ [vi (sc xs i 1), vo ad 11 (some 0)] ad σ
  have h := hO (sc xs i 1) inr_sc σ hSF hR
  refine z_cV (st := []) T C (ct_X11_age (sc xs i 1) inr_sc) lm_L_105 lv_vX11_age dL_law_1105 [vi (sc xs i 1)] rfl rfl rfl rfl rfl (sg_11 T) trivial (by decide) (Nat.le_of_ble_eq_true rfl) hc0 h (fun r1 σ1 hr1 eN0 h => ?_)
  show Z κ cs Q 1108 [(0, .ref b), (1, vo ad 11 (some 0)), (2, vo ad 12 (some 0)), (3, vi i)] [vi r1] ad σ1
  refine z_aload_n C 2 dL_law_1108 rfl ?_
  refine z_aloadR C 0 dL_law_1109 rfl ?_
  refine z_iload_n C 3 dL_law_1110 rfl ?_
  refine z_iconst C dL_law_1111 ?_
  refine z_iadd C dL_law_1112 ?_
  refine z_sld C hX (x := i + 1) (by constructor <;> omega) (by omega) dL_law_1113 ?_
  show Z κ cs Q 1114 _ [vi (sc xs i 1), vo ad 12 (some 0), vi r1] ad σ1
  refine z_cV (st := [vi r1]) T C (ct_X12_age (sc xs i 1) inr_sc) lm_L_108 lv_vX12_age dL_law_1114 [vi (sc xs i 1)] rfl rfl rfl rfl rfl (sg_12 T) trivial (by decide) (Nat.le_of_ble_eq_true rfl) hc0 h (fun r2 σ2 hr2 eN1 h => ?_)
  show Z κ cs Q 1117 [(0, .ref b), (1, vo ad 11 (some 0)), (2, vo ad 12 (some 0)), (3, vi i)] [vi r2, vi r1] ad σ2
  obtain ⟨⟨he, hR2⟩, -⟩ := wpO_ckp.mp h
  refine z_icmp_eq C 2170 hr1 hr2 dL_law_1117 (by decide) (fun q => ?_) (fun q => absurd he q)
  refine z_widen (k := cs.1 + 2) (n := cs.2 + 84) (by show _ ≤ _; omega) (by show _ ≤ _; omega) ?_
  exact kz _ _ hR2
set_option maxRecDepth 20000 in
set_option maxHeartbeats 4000000 in
theorem lawc_22 {κ : Cxt} {R : St → Prop} {b L : Nat} {xs : Nat → Int32} {cs : Nat × Nat} {Q : State → Prop} (C : Cx κ RL cL_law 4 ret 11) (T : isT κ) (hcs : csOK κ (cs.1 + 2, cs.2 + 84)) (hX : scX κ b L xs) (hO : OP22 R) {i : Int} (hL : L ≤ 3584) (hi : 0 ≤ i ∧ i + 7 ≤ (L : Int)) (kz : ∀ ad σ, R σ → Z κ (cs.1 + 2, cs.2 + 84) Q 2170 [(0, .ref b), (1, vo ad 11 (some 0)), (2, vo ad 12 (some 0)), (3, vi i)] [] ad σ) : ∀ ad σ, R σ → Z κ cs Q 1122 [(0, .ref b), (1, vo ad 11 (some 0)), (2, vo ad 12 (some 0)), (3, vi i)] [] ad σ := by
  intro ad σ hR
  refine z_sf T (fun hSF => ?_)
  have hii : inr i := by constructor <;> omega
  have hc0 : csOK κ cs := csOK_le hcs (by omega) (by omega)
  refine z_aload_n C 1 dL_law_1122 rfl ?_
  refine z_aloadR C 0 dL_law_1123 rfl ?_
  refine z_iload_n C 3 dL_law_1124 rfl ?_
  refine z_iconst C dL_law_1125 ?_
  refine z_iadd C dL_law_1126 ?_
  refine z_sld C hX (x := i + 1) (by constructor <;> omega) (by omega) dL_law_1127 ?_
  show Z κ cs Q 1128 _ [vi (sc xs i 1), vo ad 11 (some 0)] ad σ
  have h := hO (sc xs i 1) inr_sc σ hSF hR
  refine z_cVp (st := []) T C (ct_X11_cost (sc xs i 1) inr_sc) lm_L_109 lv_vX11_cost dL_law_1128 [vi (sc xs i 1)] rfl rfl rfl rfl rfl (sg_11 T) trivial (by decide) (Nat.le_of_ble_eq_true rfl) hc0 h (fun r1 hr1 h => ?_)
  show Z κ cs Q 1131 [(0, .ref b), (1, vo ad 11 (some 0)), (2, vo ad 12 (some 0)), (3, vi i)] [vi r1] ad σ
  refine z_aload_n C 2 dL_law_1131 rfl ?_
  refine z_aloadR C 0 dL_law_1132 rfl ?_
  refine z_iload_n C 3 dL_law_1133 rfl ?_
  refine z_iconst C dL_law_1134 ?_
  refine z_iadd C dL_law_1135 ?_
  refine z_sld C hX (x := i + 1) (by constructor <;> omega) (by omega) dL_law_1136 ?_
  show Z κ cs Q 1137 _ [vi (sc xs i 1), vo ad 12 (some 0), vi r1] ad σ
  refine z_cVp (st := [vi r1]) T C (ct_X12_cost (sc xs i 1) inr_sc) lm_L_112 lv_vX12_cost dL_law_1137 [vi (sc xs i 1)] rfl rfl rfl rfl rfl (sg_12 T) trivial (by decide) (Nat.le_of_ble_eq_true rfl) hc0 h (fun r2 hr2 h => ?_)
  show Z κ cs Q 1140 [(0, .ref b), (1, vo ad 11 (some 0)), (2, vo ad 12 (some 0)), (3, vi i)] [vi r2, vi r1] ad σ
  obtain ⟨⟨he, hR2⟩, -⟩ := wpO_ckp.mp h
  refine z_icmp_eq C 2170 hr1 hr2 dL_law_1140 (by decide) (fun q => ?_) (fun q => absurd he q)
  refine z_widen (k := cs.1 + 2) (n := cs.2 + 84) (by show _ ≤ _; omega) (by show _ ≤ _; omega) ?_
  exact kz _ _ hR2
set_option maxRecDepth 20000 in
set_option maxHeartbeats 4000000 in
theorem lawc_23 {κ : Cxt} {R : St → Prop} {b L : Nat} {xs : Nat → Int32} {cs : Nat × Nat} {Q : State → Prop} (C : Cx κ RL cL_law 4 ret 11) (T : isT κ) (hcs : csOK κ (cs.1 + 2, cs.2 + 84)) (hX : scX κ b L xs) (hO : OP23 R) {i : Int} (hL : L ≤ 3584) (hi : 0 ≤ i ∧ i + 7 ≤ (L : Int)) (kz : ∀ ad σ, R σ → Z κ (cs.1 + 2, cs.2 + 84) Q 2170 [(0, .ref b), (1, vo ad 11 (some 0)), (2, vo ad 12 (some 0)), (3, vi i)] [] ad σ) : ∀ ad σ, R σ → Z κ cs Q 1145 [(0, .ref b), (1, vo ad 11 (some 0)), (2, vo ad 12 (some 0)), (3, vi i)] [] ad σ := by
  intro ad σ hR
  refine z_sf T (fun hSF => ?_)
  have hii : inr i := by constructor <;> omega
  have hc0 : csOK κ cs := csOK_le hcs (by omega) (by omega)
  refine z_aload_n C 1 dL_law_1145 rfl ?_
  refine z_aloadR C 0 dL_law_1146 rfl ?_
  refine z_iload_n C 3 dL_law_1147 rfl ?_
  refine z_iconst C dL_law_1148 ?_
  refine z_iadd C dL_law_1149 ?_
  refine z_sld C hX (x := i + 1) (by constructor <;> omega) (by omega) dL_law_1150 ?_
  show Z κ cs Q 1151 _ [vi (sc xs i 1), vo ad 11 (some 0)] ad σ
  refine z_aloadR C 0 dL_law_1151 rfl ?_
  refine z_iload_n C 3 dL_law_1152 rfl ?_
  refine z_iconst C dL_law_1153 ?_
  refine z_iadd C dL_law_1154 ?_
  refine z_sld C hX (x := i + 2) (by constructor <;> omega) (by omega) dL_law_1155 ?_
  show Z κ cs Q 1156 _ [vi (sc xs i 2), vi (sc xs i 1), vo ad 11 (some 0)] ad σ
  have h := hO (sc xs i 1) (sc xs i 2) inr_sc inr_sc σ hSF hR
  refine z_cV (st := []) T C (ct_X11_rate (sc xs i 1) (sc xs i 2) inr_sc inr_sc) lm_L_113 lv_vX11_rate dL_law_1156 [vi (sc xs i 1), vi (sc xs i 2)] rfl rfl rfl rfl rfl (sg_11 T) trivial (by decide) (Nat.le_of_ble_eq_true rfl) hc0 h (fun r1 σ1 hr1 eN0 h => ?_)
  show Z κ cs Q 1159 [(0, .ref b), (1, vo ad 11 (some 0)), (2, vo ad 12 (some 0)), (3, vi i)] [vi r1] ad σ1
  refine z_aload_n C 2 dL_law_1159 rfl ?_
  refine z_aloadR C 0 dL_law_1160 rfl ?_
  refine z_iload_n C 3 dL_law_1161 rfl ?_
  refine z_iconst C dL_law_1162 ?_
  refine z_iadd C dL_law_1163 ?_
  refine z_sld C hX (x := i + 1) (by constructor <;> omega) (by omega) dL_law_1164 ?_
  show Z κ cs Q 1165 _ [vi (sc xs i 1), vo ad 12 (some 0), vi r1] ad σ1
  refine z_aloadR C 0 dL_law_1165 rfl ?_
  refine z_iload_n C 3 dL_law_1166 rfl ?_
  refine z_iconst C dL_law_1167 ?_
  refine z_iadd C dL_law_1168 ?_
  refine z_sld C hX (x := i + 2) (by constructor <;> omega) (by omega) dL_law_1169 ?_
  show Z κ cs Q 1170 _ [vi (sc xs i 2), vi (sc xs i 1), vo ad 12 (some 0), vi r1] ad σ1
  refine z_cV (st := [vi r1]) T C (ct_X12_rate (sc xs i 1) (sc xs i 2) inr_sc inr_sc) lm_L_116 lv_vX12_rate dL_law_1170 [vi (sc xs i 1), vi (sc xs i 2)] rfl rfl rfl rfl rfl (sg_12 T) trivial (by decide) (Nat.le_of_ble_eq_true rfl) hc0 h (fun r2 σ2 hr2 eN1 h => ?_)
  show Z κ cs Q 1173 [(0, .ref b), (1, vo ad 11 (some 0)), (2, vo ad 12 (some 0)), (3, vi i)] [vi r2, vi r1] ad σ2
  obtain ⟨⟨he, hR2⟩, -⟩ := wpO_ckp.mp h
  refine z_icmp_eq C 2170 hr1 hr2 dL_law_1173 (by decide) (fun q => ?_) (fun q => absurd he q)
  refine z_widen (k := cs.1 + 2) (n := cs.2 + 84) (by show _ ≤ _; omega) (by show _ ≤ _; omega) ?_
  exact kz _ _ hR2
set_option maxRecDepth 20000 in
set_option maxHeartbeats 4000000 in
theorem lawc_24 {κ : Cxt} {R : St → Prop} {b L : Nat} {xs : Nat → Int32} {cs : Nat × Nat} {Q : State → Prop} (C : Cx κ RL cL_law 4 ret 11) (T : isT κ) (hcs : csOK κ (cs.1 + 2, cs.2 + 84)) (hX : scX κ b L xs) (hO : OP24 R) {i : Int} (hL : L ≤ 3584) (hi : 0 ≤ i ∧ i + 7 ≤ (L : Int)) (kz : ∀ ad σ, R σ → Z κ (cs.1 + 2, cs.2 + 84) Q 2170 [(0, .ref b), (1, vo ad 11 (some 0)), (2, vo ad 12 (some 0)), (3, vi i)] [] ad σ) : ∀ ad σ, R σ → Z κ cs Q 1178 [(0, .ref b), (1, vo ad 11 (some 0)), (2, vo ad 12 (some 0)), (3, vi i)] [] ad σ := by
  intro ad σ hR
  refine z_sf T (fun hSF => ?_)
  have hii : inr i := by constructor <;> omega
  have hc0 : csOK κ cs := csOK_le hcs (by omega) (by omega)
  refine z_aload_n C 1 dL_law_1178 rfl ?_
  refine z_aloadR C 0 dL_law_1179 rfl ?_
  refine z_iload_n C 3 dL_law_1180 rfl ?_
  refine z_iconst C dL_law_1181 ?_
  refine z_iadd C dL_law_1182 ?_
  refine z_sld C hX (x := i + 1) (by constructor <;> omega) (by omega) dL_law_1183 ?_
  show Z κ cs Q 1184 _ [vi (sc xs i 1), vo ad 11 (some 0)] ad σ
  have h := hO (sc xs i 1) inr_sc σ hSF hR
  refine z_cVA (st := []) T C (ct_X11_rule (sc xs i 1) inr_sc) lm_L_117 lv_vX11_rule dL_law_1184 [vi (sc xs i 1)] rfl rfl rfl rfl rfl (sg_11 T) trivial (by decide) (Nat.le_of_ble_eq_true rfl) (csOK_le hcs (by show _ ≤ _; omega) (by show _ ≤ _; omega)) h (fun r1 σ1 ad1 hr1 hg h => ?_)
  show Z κ (cs.1 + 2, cs.2 + 84) Q 1187 [(0, .ref b), (1, vo ad 11 (some 0)), (2, vo ad 12 (some 0)), (3, vi i)] [vi r1] ad1 σ1
  have hs1 : 0 < gN σ 11 := by rw [hSF.2.2.1 11 (by decide)]; decide
  have hs2 : 0 < gN σ 12 := by rw [hSF.2.2.1 12 (by decide)]; decide
  rw [voG hg hs1, voG hg hs2]
  have hc1 : csOK κ (cs.1 + 2, cs.2 + 84) := csOK_le hcs (by show _ ≤ _; omega) (by show _ ≤ _; omega)
  show Z κ (cs.1 + 2, cs.2 + 84) Q 1187 [(0, .ref b), (1, vo ad1 11 (some 0)), (2, vo ad1 12 (some 0)), (3, vi i)] [vi r1] ad1 σ1
  refine z_aload_n C 2 dL_law_1187 rfl ?_
  refine z_aloadR C 0 dL_law_1188 rfl ?_
  refine z_iload_n C 3 dL_law_1189 rfl ?_
  refine z_iconst C dL_law_1190 ?_
  refine z_iadd C dL_law_1191 ?_
  refine z_sld C hX (x := i + 1) (by constructor <;> omega) (by omega) dL_law_1192 ?_
  show Z κ (cs.1 + 2, cs.2 + 84) Q 1193 _ [vi (sc xs i 1), vo ad1 12 (some 0), vi r1] ad1 σ1
  refine z_cV (st := [vi r1]) T C (ct_X12_rule (sc xs i 1) inr_sc) lm_L_120 lv_vX12_rule dL_law_1193 [vi (sc xs i 1)] rfl rfl rfl rfl rfl (sg_12 T) trivial (by decide) (Nat.le_of_ble_eq_true rfl) hc1 h (fun r2 σ2 hr2 eN1 h => ?_)
  show Z κ (cs.1 + 2, cs.2 + 84) Q 1196 [(0, .ref b), (1, vo ad1 11 (some 0)), (2, vo ad1 12 (some 0)), (3, vi i)] [vi r2, vi r1] ad1 σ2
  obtain ⟨⟨he, hR2⟩, -⟩ := wpO_ckp.mp h
  refine z_icmp_eq C 2170 hr1 hr2 dL_law_1196 (by decide) (fun q => ?_) (fun q => absurd he q)
  refine z_widen (k := cs.1 + 2) (n := cs.2 + 84) (by show _ ≤ _; omega) (by show _ ≤ _; omega) ?_
  exact kz _ _ hR2
set_option maxRecDepth 20000 in
set_option maxHeartbeats 4000000 in
theorem lawc_25 {κ : Cxt} {R : St → Prop} {b L : Nat} {xs : Nat → Int32} {cs : Nat × Nat} {Q : State → Prop} (C : Cx κ RL cL_law 4 ret 11) (T : isT κ) (hcs : csOK κ (cs.1 + 2, cs.2 + 84)) (hX : scX κ b L xs) (hO : OP25 R) {i : Int} (hL : L ≤ 3584) (hi : 0 ≤ i ∧ i + 7 ≤ (L : Int)) (kz : ∀ ad σ, R σ → Z κ (cs.1 + 2, cs.2 + 84) Q 2170 [(0, .ref b), (1, vo ad 11 (some 0)), (2, vo ad 12 (some 0)), (3, vi i)] [] ad σ) : ∀ ad σ, R σ → Z κ cs Q 1201 [(0, .ref b), (1, vo ad 11 (some 0)), (2, vo ad 12 (some 0)), (3, vi i)] [] ad σ := by
  intro ad σ hR
  refine z_sf T (fun hSF => ?_)
  have hii : inr i := by constructor <;> omega
  have hc0 : csOK κ cs := csOK_le hcs (by omega) (by omega)
  refine z_aload_n C 1 dL_law_1201 rfl ?_
  refine z_aloadR C 0 dL_law_1202 rfl ?_
  refine z_iload_n C 3 dL_law_1203 rfl ?_
  refine z_iconst C dL_law_1204 ?_
  refine z_iadd C dL_law_1205 ?_
  refine z_sld C hX (x := i + 1) (by constructor <;> omega) (by omega) dL_law_1206 ?_
  show Z κ cs Q 1207 _ [vi (sc xs i 1), vo ad 11 (some 0)] ad σ
  refine z_aloadR C 0 dL_law_1207 rfl ?_
  refine z_iload_n C 3 dL_law_1208 rfl ?_
  refine z_iconst C dL_law_1209 ?_
  refine z_iadd C dL_law_1210 ?_
  refine z_sld C hX (x := i + 2) (by constructor <;> omega) (by omega) dL_law_1211 ?_
  show Z κ cs Q 1212 _ [vi (sc xs i 2), vi (sc xs i 1), vo ad 11 (some 0)] ad σ
  refine z_i2l C inr_sc dL_law_1212 ?_
  refine z_bipush C dL_law_1213 (by decide) ?_
  refine z_lshl C dL_law_1215 ?_
  refine z_aloadR C 0 dL_law_1216 rfl ?_
  refine z_iload_n C 3 dL_law_1217 rfl ?_
  refine z_iconst C dL_law_1218 ?_
  refine z_iadd C dL_law_1219 ?_
  refine z_sld C hX (x := i + 3) (by constructor <;> omega) (by omega) dL_law_1220 ?_
  show Z κ cs Q 1221 _ [vi (sc xs i 3), vj (jshl (sc xs i 2) 32), vi (sc xs i 1), vo ad 11 (some 0)] ad σ
  refine z_i2l C inr_sc dL_law_1221 ?_
  refine z_ldc2_w C lc_L_121 dL_law_1222 ?_
  refine z_land C dL_law_1225 ?_
  refine z_lor C dL_law_1226 ?_
  have h := hO (sc xs i 1) (jor (jshl (sc xs i 2) 32) (jand (sc xs i 3) 4294967295)) inr_sc (inq_jor _ _) σ hSF hR
  refine z_cV (st := []) T C (ct_X11_feed (sc xs i 1) (jor (jshl (sc xs i 2) 32) (jand (sc xs i 3) 4294967295)) inr_sc (inq_jor _ _)) lm_L_123 lv_vX11_feed dL_law_1227 [vi (sc xs i 1), vj (jor (jshl (sc xs i 2) 32) (jand (sc xs i 3) 4294967295))] rfl rfl rfl rfl rfl (sg_11 T) trivial (by decide) (Nat.le_of_ble_eq_true rfl) hc0 h (fun r1 σ1 hr1 eN0 h => ?_)
  show Z κ cs Q 1230 [(0, .ref b), (1, vo ad 11 (some 0)), (2, vo ad 12 (some 0)), (3, vi i)] [vi r1] ad σ1
  refine z_aload_n C 2 dL_law_1230 rfl ?_
  refine z_aloadR C 0 dL_law_1231 rfl ?_
  refine z_iload_n C 3 dL_law_1232 rfl ?_
  refine z_iconst C dL_law_1233 ?_
  refine z_iadd C dL_law_1234 ?_
  refine z_sld C hX (x := i + 1) (by constructor <;> omega) (by omega) dL_law_1235 ?_
  show Z κ cs Q 1236 _ [vi (sc xs i 1), vo ad 12 (some 0), vi r1] ad σ1
  refine z_aloadR C 0 dL_law_1236 rfl ?_
  refine z_iload_n C 3 dL_law_1237 rfl ?_
  refine z_iconst C dL_law_1238 ?_
  refine z_iadd C dL_law_1239 ?_
  refine z_sld C hX (x := i + 2) (by constructor <;> omega) (by omega) dL_law_1240 ?_
  show Z κ cs Q 1241 _ [vi (sc xs i 2), vi (sc xs i 1), vo ad 12 (some 0), vi r1] ad σ1
  refine z_i2l C inr_sc dL_law_1241 ?_
  refine z_bipush C dL_law_1242 (by decide) ?_
  refine z_lshl C dL_law_1244 ?_
  refine z_aloadR C 0 dL_law_1245 rfl ?_
  refine z_iload_n C 3 dL_law_1246 rfl ?_
  refine z_iconst C dL_law_1247 ?_
  refine z_iadd C dL_law_1248 ?_
  refine z_sld C hX (x := i + 3) (by constructor <;> omega) (by omega) dL_law_1249 ?_
  show Z κ cs Q 1250 _ [vi (sc xs i 3), vj (jshl (sc xs i 2) 32), vi (sc xs i 1), vo ad 12 (some 0), vi r1] ad σ1
  refine z_i2l C inr_sc dL_law_1250 ?_
  refine z_ldc2_w C lc_L_121 dL_law_1251 ?_
  refine z_land C dL_law_1254 ?_
  refine z_lor C dL_law_1255 ?_
  refine z_cV (st := [vi r1]) T C (ct_X12_feed (sc xs i 1) (jor (jshl (sc xs i 2) 32) (jand (sc xs i 3) 4294967295)) inr_sc (inq_jor _ _)) lm_L_127 lv_vX12_feed dL_law_1256 [vi (sc xs i 1), vj (jor (jshl (sc xs i 2) 32) (jand (sc xs i 3) 4294967295))] rfl rfl rfl rfl rfl (sg_12 T) trivial (by decide) (Nat.le_of_ble_eq_true rfl) hc0 h (fun r2 σ2 hr2 eN1 h => ?_)
  show Z κ cs Q 1259 [(0, .ref b), (1, vo ad 11 (some 0)), (2, vo ad 12 (some 0)), (3, vi i)] [vi r2, vi r1] ad σ2
  obtain ⟨⟨he, hR2⟩, -⟩ := wpO_ckp.mp h
  refine z_icmp_eq C 2170 hr1 hr2 dL_law_1259 (by decide) (fun q => ?_) (fun q => absurd he q)
  refine z_widen (k := cs.1 + 2) (n := cs.2 + 84) (by show _ ≤ _; omega) (by show _ ≤ _; omega) ?_
  exact kz _ _ hR2
set_option maxRecDepth 20000 in
set_option maxHeartbeats 4000000 in
theorem lawc_26 {κ : Cxt} {R : St → Prop} {b L : Nat} {xs : Nat → Int32} {cs : Nat × Nat} {Q : State → Prop} (C : Cx κ RL cL_law 4 ret 11) (T : isT κ) (hcs : csOK κ (cs.1 + 2, cs.2 + 84)) (hX : scX κ b L xs) (hO : OP26 R) {i : Int} (hL : L ≤ 3584) (hi : 0 ≤ i ∧ i + 7 ≤ (L : Int)) (kz : ∀ ad σ, R σ → Z κ (cs.1 + 2, cs.2 + 84) Q 2170 [(0, .ref b), (1, vo ad 11 (some 0)), (2, vo ad 12 (some 0)), (3, vi i)] [] ad σ) : ∀ ad σ, R σ → Z κ cs Q 1264 [(0, .ref b), (1, vo ad 11 (some 0)), (2, vo ad 12 (some 0)), (3, vi i)] [] ad σ := by
  intro ad σ hR
  refine z_sf T (fun hSF => ?_)
  have hii : inr i := by constructor <;> omega
  have hc0 : csOK κ cs := csOK_le hcs (by omega) (by omega)
  refine z_aload_n C 1 dL_law_1264 rfl ?_
  refine z_aloadR C 0 dL_law_1265 rfl ?_
  refine z_iload_n C 3 dL_law_1266 rfl ?_
  refine z_iconst C dL_law_1267 ?_
  refine z_iadd C dL_law_1268 ?_
  refine z_sld C hX (x := i + 1) (by constructor <;> omega) (by omega) dL_law_1269 ?_
  show Z κ cs Q 1270 _ [vi (sc xs i 1), vo ad 11 (some 0)] ad σ
  have h := hO (sc xs i 1) inr_sc σ hSF hR
  refine z_cV (st := []) T C (ct_X11_fault (sc xs i 1) inr_sc) lm_L_128 lv_vX11_fault dL_law_1270 [vi (sc xs i 1)] rfl rfl rfl rfl rfl (sg_11 T) trivial (by decide) (Nat.le_of_ble_eq_true rfl) hc0 h (fun r1 σ1 hr1 eN0 h => ?_)
  show Z κ cs Q 1273 [(0, .ref b), (1, vo ad 11 (some 0)), (2, vo ad 12 (some 0)), (3, vi i)] [vi r1] ad σ1
  refine z_aload_n C 2 dL_law_1273 rfl ?_
  refine z_aloadR C 0 dL_law_1274 rfl ?_
  refine z_iload_n C 3 dL_law_1275 rfl ?_
  refine z_iconst C dL_law_1276 ?_
  refine z_iadd C dL_law_1277 ?_
  refine z_sld C hX (x := i + 1) (by constructor <;> omega) (by omega) dL_law_1278 ?_
  show Z κ cs Q 1279 _ [vi (sc xs i 1), vo ad 12 (some 0), vi r1] ad σ1
  refine z_cV (st := [vi r1]) T C (ct_X12_fault (sc xs i 1) inr_sc) lm_L_131 lv_vX12_fault dL_law_1279 [vi (sc xs i 1)] rfl rfl rfl rfl rfl (sg_12 T) trivial (by decide) (Nat.le_of_ble_eq_true rfl) hc0 h (fun r2 σ2 hr2 eN1 h => ?_)
  show Z κ cs Q 1282 [(0, .ref b), (1, vo ad 11 (some 0)), (2, vo ad 12 (some 0)), (3, vi i)] [vi r2, vi r1] ad σ2
  obtain ⟨⟨he, hR2⟩, -⟩ := wpO_ckp.mp h
  refine z_icmp_eq C 2170 hr1 hr2 dL_law_1282 (by decide) (fun q => ?_) (fun q => absurd he q)
  refine z_widen (k := cs.1 + 2) (n := cs.2 + 84) (by show _ ≤ _; omega) (by show _ ≤ _; omega) ?_
  exact kz _ _ hR2
set_option maxRecDepth 20000 in
set_option maxHeartbeats 4000000 in
theorem lawc_27 {κ : Cxt} {R : St → Prop} {b L : Nat} {xs : Nat → Int32} {cs : Nat × Nat} {Q : State → Prop} (C : Cx κ RL cL_law 4 ret 11) (T : isT κ) (hcs : csOK κ (cs.1 + 2, cs.2 + 84)) (hX : scX κ b L xs) (hO : OP27 R) {i : Int} (hL : L ≤ 3584) (hi : 0 ≤ i ∧ i + 7 ≤ (L : Int)) (kz : ∀ ad σ, R σ → Z κ (cs.1 + 2, cs.2 + 84) Q 2170 [(0, .ref b), (1, vo ad 11 (some 0)), (2, vo ad 12 (some 0)), (3, vi i)] [] ad σ) : ∀ ad σ, R σ → Z κ cs Q 1287 [(0, .ref b), (1, vo ad 11 (some 0)), (2, vo ad 12 (some 0)), (3, vi i)] [] ad σ := by
  intro ad σ hR
  refine z_sf T (fun hSF => ?_)
  have hii : inr i := by constructor <;> omega
  have hc0 : csOK κ cs := csOK_le hcs (by omega) (by omega)
  refine z_aload_n C 1 dL_law_1287 rfl ?_
  refine z_aloadR C 0 dL_law_1288 rfl ?_
  refine z_iload_n C 3 dL_law_1289 rfl ?_
  refine z_iconst C dL_law_1290 ?_
  refine z_iadd C dL_law_1291 ?_
  refine z_sld C hX (x := i + 1) (by constructor <;> omega) (by omega) dL_law_1292 ?_
  show Z κ cs Q 1293 _ [vi (sc xs i 1), vo ad 11 (some 0)] ad σ
  refine z_aloadR C 0 dL_law_1293 rfl ?_
  refine z_iload_n C 3 dL_law_1294 rfl ?_
  refine z_iconst C dL_law_1295 ?_
  refine z_iadd C dL_law_1296 ?_
  refine z_sld C hX (x := i + 2) (by constructor <;> omega) (by omega) dL_law_1297 ?_
  show Z κ cs Q 1298 _ [vi (sc xs i 2), vi (sc xs i 1), vo ad 11 (some 0)] ad σ
  have h := hO (sc xs i 1) (sc xs i 2) inr_sc inr_sc σ hSF hR
  refine z_cV (st := []) T C (ct_X11_strike (sc xs i 1) (sc xs i 2) inr_sc inr_sc) lm_L_132 lv_vX11_strike dL_law_1298 [vi (sc xs i 1), vi (sc xs i 2)] rfl rfl rfl rfl rfl (sg_11 T) trivial (by decide) (Nat.le_of_ble_eq_true rfl) hc0 h (fun r1 σ1 hr1 eN0 h => ?_)
  show Z κ cs Q 1301 [(0, .ref b), (1, vo ad 11 (some 0)), (2, vo ad 12 (some 0)), (3, vi i)] [vi r1] ad σ1
  refine z_aload_n C 2 dL_law_1301 rfl ?_
  refine z_aloadR C 0 dL_law_1302 rfl ?_
  refine z_iload_n C 3 dL_law_1303 rfl ?_
  refine z_iconst C dL_law_1304 ?_
  refine z_iadd C dL_law_1305 ?_
  refine z_sld C hX (x := i + 1) (by constructor <;> omega) (by omega) dL_law_1306 ?_
  show Z κ cs Q 1307 _ [vi (sc xs i 1), vo ad 12 (some 0), vi r1] ad σ1
  refine z_aloadR C 0 dL_law_1307 rfl ?_
  refine z_iload_n C 3 dL_law_1308 rfl ?_
  refine z_iconst C dL_law_1309 ?_
  refine z_iadd C dL_law_1310 ?_
  refine z_sld C hX (x := i + 2) (by constructor <;> omega) (by omega) dL_law_1311 ?_
  show Z κ cs Q 1312 _ [vi (sc xs i 2), vi (sc xs i 1), vo ad 12 (some 0), vi r1] ad σ1
  refine z_cV (st := [vi r1]) T C (ct_X12_strike (sc xs i 1) (sc xs i 2) inr_sc inr_sc) lm_L_135 lv_vX12_strike dL_law_1312 [vi (sc xs i 1), vi (sc xs i 2)] rfl rfl rfl rfl rfl (sg_12 T) trivial (by decide) (Nat.le_of_ble_eq_true rfl) hc0 h (fun r2 σ2 hr2 eN1 h => ?_)
  show Z κ cs Q 1315 [(0, .ref b), (1, vo ad 11 (some 0)), (2, vo ad 12 (some 0)), (3, vi i)] [vi r2, vi r1] ad σ2
  obtain ⟨⟨he, hR2⟩, -⟩ := wpO_ckp.mp h
  refine z_icmp_eq C 2170 hr1 hr2 dL_law_1315 (by decide) (fun q => ?_) (fun q => absurd he q)
  refine z_widen (k := cs.1 + 2) (n := cs.2 + 84) (by show _ ≤ _; omega) (by show _ ≤ _; omega) ?_
  exact kz _ _ hR2
set_option maxRecDepth 20000 in
set_option maxHeartbeats 4000000 in
theorem lawc_28 {κ : Cxt} {R : St → Prop} {b L : Nat} {xs : Nat → Int32} {cs : Nat × Nat} {Q : State → Prop} (C : Cx κ RL cL_law 4 ret 11) (T : isT κ) (hcs : csOK κ (cs.1 + 2, cs.2 + 84)) (hX : scX κ b L xs) (hO : OP28 R) {i : Int} (hL : L ≤ 3584) (hi : 0 ≤ i ∧ i + 7 ≤ (L : Int)) (kz : ∀ ad σ, R σ → Z κ (cs.1 + 2, cs.2 + 84) Q 2170 [(0, .ref b), (1, vo ad 11 (some 0)), (2, vo ad 12 (some 0)), (3, vi i)] [] ad σ) : ∀ ad σ, R σ → Z κ cs Q 1320 [(0, .ref b), (1, vo ad 11 (some 0)), (2, vo ad 12 (some 0)), (3, vi i)] [] ad σ := by
  intro ad σ hR
  refine z_sf T (fun hSF => ?_)
  have hii : inr i := by constructor <;> omega
  have hc0 : csOK κ cs := csOK_le hcs (by omega) (by omega)
  refine z_aload_n C 1 dL_law_1320 rfl ?_
  refine z_aloadR C 0 dL_law_1321 rfl ?_
  refine z_iload_n C 3 dL_law_1322 rfl ?_
  refine z_iconst C dL_law_1323 ?_
  refine z_iadd C dL_law_1324 ?_
  refine z_sld C hX (x := i + 1) (by constructor <;> omega) (by omega) dL_law_1325 ?_
  show Z κ cs Q 1326 _ [vi (sc xs i 1), vo ad 11 (some 0)] ad σ
  refine z_aloadR C 0 dL_law_1326 rfl ?_
  refine z_iload_n C 3 dL_law_1327 rfl ?_
  refine z_iconst C dL_law_1328 ?_
  refine z_iadd C dL_law_1329 ?_
  refine z_sld C hX (x := i + 2) (by constructor <;> omega) (by omega) dL_law_1330 ?_
  show Z κ cs Q 1331 _ [vi (sc xs i 2), vi (sc xs i 1), vo ad 11 (some 0)] ad σ
  refine z_aloadR C 0 dL_law_1331 rfl ?_
  refine z_iload_n C 3 dL_law_1332 rfl ?_
  refine z_iconst C dL_law_1333 ?_
  refine z_iadd C dL_law_1334 ?_
  refine z_sld C hX (x := i + 3) (by constructor <;> omega) (by omega) dL_law_1335 ?_
  show Z κ cs Q 1336 _ [vi (sc xs i 3), vi (sc xs i 2), vi (sc xs i 1), vo ad 11 (some 0)] ad σ
  have h := hO (sc xs i 1) (sc xs i 2) (sc xs i 3) inr_sc inr_sc inr_sc σ hSF hR
  refine z_cV (st := []) T C (ct_X11_bars (sc xs i 1) (sc xs i 2) (sc xs i 3) inr_sc inr_sc inr_sc) lm_L_136 lv_vX11_bars dL_law_1336 [vi (sc xs i 1), vi (sc xs i 2), vi (sc xs i 3)] rfl rfl rfl rfl rfl (sg_11 T) trivial (by decide) (Nat.le_of_ble_eq_true rfl) hc0 h (fun r1 σ1 hr1 eN0 h => ?_)
  show Z κ cs Q 1339 [(0, .ref b), (1, vo ad 11 (some 0)), (2, vo ad 12 (some 0)), (3, vi i)] [vi r1] ad σ1
  refine z_aload_n C 2 dL_law_1339 rfl ?_
  refine z_aloadR C 0 dL_law_1340 rfl ?_
  refine z_iload_n C 3 dL_law_1341 rfl ?_
  refine z_iconst C dL_law_1342 ?_
  refine z_iadd C dL_law_1343 ?_
  refine z_sld C hX (x := i + 1) (by constructor <;> omega) (by omega) dL_law_1344 ?_
  show Z κ cs Q 1345 _ [vi (sc xs i 1), vo ad 12 (some 0), vi r1] ad σ1
  refine z_aloadR C 0 dL_law_1345 rfl ?_
  refine z_iload_n C 3 dL_law_1346 rfl ?_
  refine z_iconst C dL_law_1347 ?_
  refine z_iadd C dL_law_1348 ?_
  refine z_sld C hX (x := i + 2) (by constructor <;> omega) (by omega) dL_law_1349 ?_
  show Z κ cs Q 1350 _ [vi (sc xs i 2), vi (sc xs i 1), vo ad 12 (some 0), vi r1] ad σ1
  refine z_aloadR C 0 dL_law_1350 rfl ?_
  refine z_iload_n C 3 dL_law_1351 rfl ?_
  refine z_iconst C dL_law_1352 ?_
  refine z_iadd C dL_law_1353 ?_
  refine z_sld C hX (x := i + 3) (by constructor <;> omega) (by omega) dL_law_1354 ?_
  show Z κ cs Q 1355 _ [vi (sc xs i 3), vi (sc xs i 2), vi (sc xs i 1), vo ad 12 (some 0), vi r1] ad σ1
  refine z_cV (st := [vi r1]) T C (ct_X12_bars (sc xs i 1) (sc xs i 2) (sc xs i 3) inr_sc inr_sc inr_sc) lm_L_139 lv_vX12_bars dL_law_1355 [vi (sc xs i 1), vi (sc xs i 2), vi (sc xs i 3)] rfl rfl rfl rfl rfl (sg_12 T) trivial (by decide) (Nat.le_of_ble_eq_true rfl) hc0 h (fun r2 σ2 hr2 eN1 h => ?_)
  show Z κ cs Q 1358 [(0, .ref b), (1, vo ad 11 (some 0)), (2, vo ad 12 (some 0)), (3, vi i)] [vi r2, vi r1] ad σ2
  obtain ⟨⟨he, hR2⟩, -⟩ := wpO_ckp.mp h
  refine z_icmp_eq C 2170 hr1 hr2 dL_law_1358 (by decide) (fun q => ?_) (fun q => absurd he q)
  refine z_widen (k := cs.1 + 2) (n := cs.2 + 84) (by show _ ≤ _; omega) (by show _ ≤ _; omega) ?_
  exact kz _ _ hR2
set_option maxRecDepth 20000 in
set_option maxHeartbeats 4000000 in
theorem lawc_29 {κ : Cxt} {R : St → Prop} {b L : Nat} {xs : Nat → Int32} {cs : Nat × Nat} {Q : State → Prop} (C : Cx κ RL cL_law 4 ret 11) (T : isT κ) (hcs : csOK κ (cs.1 + 2, cs.2 + 84)) (hX : scX κ b L xs) (hO : OP29 R) {i : Int} (hL : L ≤ 3584) (hi : 0 ≤ i ∧ i + 7 ≤ (L : Int)) (kz : ∀ ad σ, R σ → Z κ (cs.1 + 2, cs.2 + 84) Q 2170 [(0, .ref b), (1, vo ad 11 (some 0)), (2, vo ad 12 (some 0)), (3, vi i)] [] ad σ) : ∀ ad σ, R σ → Z κ cs Q 1363 [(0, .ref b), (1, vo ad 11 (some 0)), (2, vo ad 12 (some 0)), (3, vi i)] [] ad σ := by
  intro ad σ hR
  refine z_sf T (fun hSF => ?_)
  have hii : inr i := by constructor <;> omega
  have hc0 : csOK κ cs := csOK_le hcs (by omega) (by omega)
  refine z_aload_n C 1 dL_law_1363 rfl ?_
  refine z_aloadR C 0 dL_law_1364 rfl ?_
  refine z_iload_n C 3 dL_law_1365 rfl ?_
  refine z_iconst C dL_law_1366 ?_
  refine z_iadd C dL_law_1367 ?_
  refine z_sld C hX (x := i + 1) (by constructor <;> omega) (by omega) dL_law_1368 ?_
  show Z κ cs Q 1369 _ [vi (sc xs i 1), vo ad 11 (some 0)] ad σ
  refine z_aloadR C 0 dL_law_1369 rfl ?_
  refine z_iload_n C 3 dL_law_1370 rfl ?_
  refine z_iconst C dL_law_1371 ?_
  refine z_iadd C dL_law_1372 ?_
  refine z_sld C hX (x := i + 2) (by constructor <;> omega) (by omega) dL_law_1373 ?_
  show Z κ cs Q 1374 _ [vi (sc xs i 2), vi (sc xs i 1), vo ad 11 (some 0)] ad σ
  refine z_if_eq C 1381 inr_sc dL_law_1374 (by decide) (fun q0 => ?_) (fun q0 => ?_)
  · refine z_iconst C dL_law_1381 ?_
    have h := hO (sc xs i 1) 0 inr_sc (by decide) σ hSF hR
    refine z_cV (st := []) T C (ct_X11_reserve (sc xs i 1) 0 inr_sc (by decide)) lm_L_140 lv_vX11_reserve dL_law_1382 [vi (sc xs i 1), vi 0] rfl rfl rfl rfl rfl (sg_11 T) trivial (by decide) (Nat.le_of_ble_eq_true rfl) hc0 h (fun r1 σ1 hr1 eN0 h => ?_)
    show Z κ cs Q 1385 [(0, .ref b), (1, vo ad 11 (some 0)), (2, vo ad 12 (some 0)), (3, vi i)] [vi r1] ad σ1
    refine z_aload_n C 2 dL_law_1385 rfl ?_
    refine z_aloadR C 0 dL_law_1386 rfl ?_
    refine z_iload_n C 3 dL_law_1387 rfl ?_
    refine z_iconst C dL_law_1388 ?_
    refine z_iadd C dL_law_1389 ?_
    refine z_sld C hX (x := i + 1) (by constructor <;> omega) (by omega) dL_law_1390 ?_
    show Z κ cs Q 1391 _ [vi (sc xs i 1), vo ad 12 (some 0), vi r1] ad σ1
    refine z_aloadR C 0 dL_law_1391 rfl ?_
    refine z_iload_n C 3 dL_law_1392 rfl ?_
    refine z_iconst C dL_law_1393 ?_
    refine z_iadd C dL_law_1394 ?_
    refine z_sld C hX (x := i + 2) (by constructor <;> omega) (by omega) dL_law_1395 ?_
    show Z κ cs Q 1396 _ [vi (sc xs i 2), vi (sc xs i 1), vo ad 12 (some 0), vi r1] ad σ1
    refine z_if_eq C 1403 inr_sc dL_law_1396 (by decide) (fun q => ?_) (fun q => ?_)
    rotate_left
    · exact absurd q0 q
    refine z_iconst C dL_law_1403 ?_
    refine z_cV (st := [vi r1]) T C (ct_X12_reserve (sc xs i 1) 0 inr_sc (by decide)) lm_L_143 lv_vX12_reserve dL_law_1404 [vi (sc xs i 1), vi 0] rfl rfl rfl rfl rfl (sg_12 T) trivial (by decide) (Nat.le_of_ble_eq_true rfl) hc0 h (fun r2 σ2 hr2 eN1 h => ?_)
    show Z κ cs Q 1407 [(0, .ref b), (1, vo ad 11 (some 0)), (2, vo ad 12 (some 0)), (3, vi i)] [vi r2, vi r1] ad σ2
    obtain ⟨⟨he, hR2⟩, -⟩ := wpO_ckp.mp h
    refine z_icmp_eq C 2170 hr1 hr2 dL_law_1407 (by decide) (fun q => ?_) (fun q => absurd he q)
    refine z_widen (k := cs.1 + 2) (n := cs.2 + 84) (by show _ ≤ _; omega) (by show _ ≤ _; omega) ?_
    exact kz _ _ hR2
  · refine z_iconst C dL_law_1377 ?_
    refine z_goto C 1382 dL_law_1378 (by decide) ?_
    have h := hO (sc xs i 1) 1 inr_sc (by decide) σ hSF hR
    refine z_cV (st := []) T C (ct_X11_reserve (sc xs i 1) 1 inr_sc (by decide)) lm_L_140 lv_vX11_reserve dL_law_1382 [vi (sc xs i 1), vi 1] rfl rfl rfl rfl rfl (sg_11 T) trivial (by decide) (Nat.le_of_ble_eq_true rfl) hc0 h (fun r1 σ1 hr1 eN0 h => ?_)
    show Z κ cs Q 1385 [(0, .ref b), (1, vo ad 11 (some 0)), (2, vo ad 12 (some 0)), (3, vi i)] [vi r1] ad σ1
    refine z_aload_n C 2 dL_law_1385 rfl ?_
    refine z_aloadR C 0 dL_law_1386 rfl ?_
    refine z_iload_n C 3 dL_law_1387 rfl ?_
    refine z_iconst C dL_law_1388 ?_
    refine z_iadd C dL_law_1389 ?_
    refine z_sld C hX (x := i + 1) (by constructor <;> omega) (by omega) dL_law_1390 ?_
    show Z κ cs Q 1391 _ [vi (sc xs i 1), vo ad 12 (some 0), vi r1] ad σ1
    refine z_aloadR C 0 dL_law_1391 rfl ?_
    refine z_iload_n C 3 dL_law_1392 rfl ?_
    refine z_iconst C dL_law_1393 ?_
    refine z_iadd C dL_law_1394 ?_
    refine z_sld C hX (x := i + 2) (by constructor <;> omega) (by omega) dL_law_1395 ?_
    show Z κ cs Q 1396 _ [vi (sc xs i 2), vi (sc xs i 1), vo ad 12 (some 0), vi r1] ad σ1
    refine z_if_eq C 1403 inr_sc dL_law_1396 (by decide) (fun q => ?_) (fun q => ?_)
    · exact absurd q q0
    refine z_iconst C dL_law_1399 ?_
    refine z_goto C 1404 dL_law_1400 (by decide) ?_
    refine z_cV (st := [vi r1]) T C (ct_X12_reserve (sc xs i 1) 1 inr_sc (by decide)) lm_L_143 lv_vX12_reserve dL_law_1404 [vi (sc xs i 1), vi 1] rfl rfl rfl rfl rfl (sg_12 T) trivial (by decide) (Nat.le_of_ble_eq_true rfl) hc0 h (fun r2 σ2 hr2 eN1 h => ?_)
    show Z κ cs Q 1407 [(0, .ref b), (1, vo ad 11 (some 0)), (2, vo ad 12 (some 0)), (3, vi i)] [vi r2, vi r1] ad σ2
    obtain ⟨⟨he, hR2⟩, -⟩ := wpO_ckp.mp h
    refine z_icmp_eq C 2170 hr1 hr2 dL_law_1407 (by decide) (fun q => ?_) (fun q => absurd he q)
    refine z_widen (k := cs.1 + 2) (n := cs.2 + 84) (by show _ ≤ _; omega) (by show _ ≤ _; omega) ?_
    exact kz _ _ hR2
set_option maxRecDepth 20000 in
set_option maxHeartbeats 4000000 in
theorem lawc_30 {κ : Cxt} {R : St → Prop} {b L : Nat} {xs : Nat → Int32} {cs : Nat × Nat} {Q : State → Prop} (C : Cx κ RL cL_law 4 ret 11) (T : isT κ) (hcs : csOK κ (cs.1 + 2, cs.2 + 84)) (hX : scX κ b L xs) (hO : OP30 R) {i : Int} (hL : L ≤ 3584) (hi : 0 ≤ i ∧ i + 7 ≤ (L : Int)) (kz : ∀ ad σ, R σ → Z κ (cs.1 + 2, cs.2 + 84) Q 2170 [(0, .ref b), (1, vo ad 11 (some 0)), (2, vo ad 12 (some 0)), (3, vi i)] [] ad σ) : ∀ ad σ, R σ → Z κ cs Q 1412 [(0, .ref b), (1, vo ad 11 (some 0)), (2, vo ad 12 (some 0)), (3, vi i)] [] ad σ := by
  intro ad σ hR
  refine z_sf T (fun hSF => ?_)
  have hii : inr i := by constructor <;> omega
  have hc0 : csOK κ cs := csOK_le hcs (by omega) (by omega)
  refine z_aload_n C 1 dL_law_1412 rfl ?_
  refine z_aloadR C 0 dL_law_1413 rfl ?_
  refine z_iload_n C 3 dL_law_1414 rfl ?_
  refine z_iconst C dL_law_1415 ?_
  refine z_iadd C dL_law_1416 ?_
  refine z_sld C hX (x := i + 1) (by constructor <;> omega) (by omega) dL_law_1417 ?_
  show Z κ cs Q 1418 _ [vi (sc xs i 1), vo ad 11 (some 0)] ad σ
  refine z_aloadR C 0 dL_law_1418 rfl ?_
  refine z_iload_n C 3 dL_law_1419 rfl ?_
  refine z_iconst C dL_law_1420 ?_
  refine z_iadd C dL_law_1421 ?_
  refine z_sld C hX (x := i + 2) (by constructor <;> omega) (by omega) dL_law_1422 ?_
  show Z κ cs Q 1423 _ [vi (sc xs i 2), vi (sc xs i 1), vo ad 11 (some 0)] ad σ
  refine z_aloadR C 0 dL_law_1423 rfl ?_
  refine z_iload_n C 3 dL_law_1424 rfl ?_
  refine z_iconst C dL_law_1425 ?_
  refine z_iadd C dL_law_1426 ?_
  refine z_sld C hX (x := i + 3) (by constructor <;> omega) (by omega) dL_law_1427 ?_
  show Z κ cs Q 1428 _ [vi (sc xs i 3), vi (sc xs i 2), vi (sc xs i 1), vo ad 11 (some 0)] ad σ
  refine z_aloadR C 0 dL_law_1428 rfl ?_
  refine z_iload_n C 3 dL_law_1429 rfl ?_
  refine z_iconst C dL_law_1430 ?_
  refine z_iadd C dL_law_1431 ?_
  refine z_sld C hX (x := i + 4) (by constructor <;> omega) (by omega) dL_law_1432 ?_
  show Z κ cs Q 1433 _ [vi (sc xs i 4), vi (sc xs i 3), vi (sc xs i 2), vi (sc xs i 1), vo ad 11 (some 0)] ad σ
  refine z_aloadR C 0 dL_law_1433 rfl ?_
  refine z_iload_n C 3 dL_law_1434 rfl ?_
  refine z_iconst C dL_law_1435 ?_
  refine z_iadd C dL_law_1436 ?_
  refine z_sld C hX (x := i + 5) (by constructor <;> omega) (by omega) dL_law_1437 ?_
  show Z κ cs Q 1438 _ [vi (sc xs i 5), vi (sc xs i 4), vi (sc xs i 3), vi (sc xs i 2), vi (sc xs i 1), vo ad 11 (some 0)] ad σ
  have h := hO (sc xs i 1) (sc xs i 2) (sc xs i 3) (sc xs i 4) (sc xs i 5) inr_sc inr_sc inr_sc inr_sc inr_sc σ hSF hR
  refine z_cVA (st := []) T C (ct_X11_right (sc xs i 1) (sc xs i 2) (sc xs i 3) (sc xs i 4) (sc xs i 5) inr_sc inr_sc inr_sc inr_sc inr_sc) lm_L_144 lv_vX11_right dL_law_1438 [vi (sc xs i 1), vi (sc xs i 2), vi (sc xs i 3), vi (sc xs i 4), vi (sc xs i 5)] rfl rfl rfl rfl rfl (sg_11 T) trivial (by decide) (Nat.le_of_ble_eq_true rfl) (csOK_le hcs (by show _ ≤ _; omega) (by show _ ≤ _; omega)) h (fun r1 σ1 ad1 hr1 hg h => ?_)
  show Z κ (cs.1 + 1, cs.2 + 5) Q 1441 [(0, .ref b), (1, vo ad 11 (some 0)), (2, vo ad 12 (some 0)), (3, vi i)] [vi r1] ad1 σ1
  have hs1 : 0 < gN σ 11 := by rw [hSF.2.2.1 11 (by decide)]; decide
  have hs2 : 0 < gN σ 12 := by rw [hSF.2.2.1 12 (by decide)]; decide
  rw [voG hg hs1, voG hg hs2]
  have hc1 : csOK κ (cs.1 + 1, cs.2 + 5) := csOK_le hcs (by show _ ≤ _; omega) (by show _ ≤ _; omega)
  show Z κ (cs.1 + 1, cs.2 + 5) Q 1441 [(0, .ref b), (1, vo ad1 11 (some 0)), (2, vo ad1 12 (some 0)), (3, vi i)] [vi r1] ad1 σ1
  refine z_aload_n C 2 dL_law_1441 rfl ?_
  refine z_aloadR C 0 dL_law_1442 rfl ?_
  refine z_iload_n C 3 dL_law_1443 rfl ?_
  refine z_iconst C dL_law_1444 ?_
  refine z_iadd C dL_law_1445 ?_
  refine z_sld C hX (x := i + 1) (by constructor <;> omega) (by omega) dL_law_1446 ?_
  show Z κ (cs.1 + 1, cs.2 + 5) Q 1447 _ [vi (sc xs i 1), vo ad1 12 (some 0), vi r1] ad1 σ1
  refine z_aloadR C 0 dL_law_1447 rfl ?_
  refine z_iload_n C 3 dL_law_1448 rfl ?_
  refine z_iconst C dL_law_1449 ?_
  refine z_iadd C dL_law_1450 ?_
  refine z_sld C hX (x := i + 2) (by constructor <;> omega) (by omega) dL_law_1451 ?_
  show Z κ (cs.1 + 1, cs.2 + 5) Q 1452 _ [vi (sc xs i 2), vi (sc xs i 1), vo ad1 12 (some 0), vi r1] ad1 σ1
  refine z_aloadR C 0 dL_law_1452 rfl ?_
  refine z_iload_n C 3 dL_law_1453 rfl ?_
  refine z_iconst C dL_law_1454 ?_
  refine z_iadd C dL_law_1455 ?_
  refine z_sld C hX (x := i + 3) (by constructor <;> omega) (by omega) dL_law_1456 ?_
  show Z κ (cs.1 + 1, cs.2 + 5) Q 1457 _ [vi (sc xs i 3), vi (sc xs i 2), vi (sc xs i 1), vo ad1 12 (some 0), vi r1] ad1 σ1
  refine z_aloadR C 0 dL_law_1457 rfl ?_
  refine z_iload_n C 3 dL_law_1458 rfl ?_
  refine z_iconst C dL_law_1459 ?_
  refine z_iadd C dL_law_1460 ?_
  refine z_sld C hX (x := i + 4) (by constructor <;> omega) (by omega) dL_law_1461 ?_
  show Z κ (cs.1 + 1, cs.2 + 5) Q 1462 _ [vi (sc xs i 4), vi (sc xs i 3), vi (sc xs i 2), vi (sc xs i 1), vo ad1 12 (some 0), vi r1] ad1 σ1
  refine z_aloadR C 0 dL_law_1462 rfl ?_
  refine z_iload_n C 3 dL_law_1463 rfl ?_
  refine z_iconst C dL_law_1464 ?_
  refine z_iadd C dL_law_1465 ?_
  refine z_sld C hX (x := i + 5) (by constructor <;> omega) (by omega) dL_law_1466 ?_
  show Z κ (cs.1 + 1, cs.2 + 5) Q 1467 _ [vi (sc xs i 5), vi (sc xs i 4), vi (sc xs i 3), vi (sc xs i 2), vi (sc xs i 1), vo ad1 12 (some 0), vi r1] ad1 σ1
  refine z_cV (st := [vi r1]) T C (ct_X12_right (sc xs i 1) (sc xs i 2) (sc xs i 3) (sc xs i 4) (sc xs i 5) inr_sc inr_sc inr_sc inr_sc inr_sc) lm_L_148 lv_vX12_right dL_law_1467 [vi (sc xs i 1), vi (sc xs i 2), vi (sc xs i 3), vi (sc xs i 4), vi (sc xs i 5)] rfl rfl rfl rfl rfl (sg_12 T) trivial (by decide) (Nat.le_of_ble_eq_true rfl) hc1 h (fun r2 σ2 hr2 eN1 h => ?_)
  show Z κ (cs.1 + 1, cs.2 + 5) Q 1470 [(0, .ref b), (1, vo ad1 11 (some 0)), (2, vo ad1 12 (some 0)), (3, vi i)] [vi r2, vi r1] ad1 σ2
  obtain ⟨⟨he, hR2⟩, -⟩ := wpO_ckp.mp h
  refine z_icmp_eq C 2170 hr1 hr2 dL_law_1470 (by decide) (fun q => ?_) (fun q => absurd he q)
  refine z_widen (k := cs.1 + 2) (n := cs.2 + 84) (by show _ ≤ _; omega) (by show _ ≤ _; omega) ?_
  exact kz _ _ hR2
set_option maxRecDepth 20000 in
set_option maxHeartbeats 4000000 in
theorem lawc_31 {κ : Cxt} {R : St → Prop} {b L : Nat} {xs : Nat → Int32} {cs : Nat × Nat} {Q : State → Prop} (C : Cx κ RL cL_law 4 ret 11) (T : isT κ) (hcs : csOK κ (cs.1 + 2, cs.2 + 84)) (hX : scX κ b L xs) (hO : OP31 R) {i : Int} (hL : L ≤ 3584) (hi : 0 ≤ i ∧ i + 7 ≤ (L : Int)) (kz : ∀ ad σ, R σ → Z κ (cs.1 + 2, cs.2 + 84) Q 2170 [(0, .ref b), (1, vo ad 11 (some 0)), (2, vo ad 12 (some 0)), (3, vi i)] [] ad σ) : ∀ ad σ, R σ → Z κ cs Q 1475 [(0, .ref b), (1, vo ad 11 (some 0)), (2, vo ad 12 (some 0)), (3, vi i)] [] ad σ := by
  intro ad σ hR
  refine z_sf T (fun hSF => ?_)
  have hii : inr i := by constructor <;> omega
  have hc0 : csOK κ cs := csOK_le hcs (by omega) (by omega)
  refine z_aload_n C 1 dL_law_1475 rfl ?_
  refine z_aloadR C 0 dL_law_1476 rfl ?_
  refine z_iload_n C 3 dL_law_1477 rfl ?_
  refine z_iconst C dL_law_1478 ?_
  refine z_iadd C dL_law_1479 ?_
  refine z_sld C hX (x := i + 1) (by constructor <;> omega) (by omega) dL_law_1480 ?_
  show Z κ cs Q 1481 _ [vi (sc xs i 1), vo ad 11 (some 0)] ad σ
  have h := hO (sc xs i 1) inr_sc σ hSF hR
  refine z_cVp (st := []) T C (ct_X11_left (sc xs i 1) inr_sc) lm_L_149 lv_vX11_left dL_law_1481 [vi (sc xs i 1)] rfl rfl rfl rfl rfl (sg_11 T) trivial (by decide) (Nat.le_of_ble_eq_true rfl) hc0 h (fun r1 hr1 h => ?_)
  show Z κ cs Q 1484 [(0, .ref b), (1, vo ad 11 (some 0)), (2, vo ad 12 (some 0)), (3, vi i)] [vi r1] ad σ
  refine z_aload_n C 2 dL_law_1484 rfl ?_
  refine z_aloadR C 0 dL_law_1485 rfl ?_
  refine z_iload_n C 3 dL_law_1486 rfl ?_
  refine z_iconst C dL_law_1487 ?_
  refine z_iadd C dL_law_1488 ?_
  refine z_sld C hX (x := i + 1) (by constructor <;> omega) (by omega) dL_law_1489 ?_
  show Z κ cs Q 1490 _ [vi (sc xs i 1), vo ad 12 (some 0), vi r1] ad σ
  refine z_cVp (st := [vi r1]) T C (ct_X12_left (sc xs i 1) inr_sc) lm_L_152 lv_vX12_left dL_law_1490 [vi (sc xs i 1)] rfl rfl rfl rfl rfl (sg_12 T) trivial (by decide) (Nat.le_of_ble_eq_true rfl) hc0 h (fun r2 hr2 h => ?_)
  show Z κ cs Q 1493 [(0, .ref b), (1, vo ad 11 (some 0)), (2, vo ad 12 (some 0)), (3, vi i)] [vi r2, vi r1] ad σ
  obtain ⟨⟨he, hR2⟩, -⟩ := wpO_ckp.mp h
  refine z_icmp_eq C 2170 hr1 hr2 dL_law_1493 (by decide) (fun q => ?_) (fun q => absurd he q)
  refine z_widen (k := cs.1 + 2) (n := cs.2 + 84) (by show _ ≤ _; omega) (by show _ ≤ _; omega) ?_
  exact kz _ _ hR2
set_option maxRecDepth 20000 in
set_option maxHeartbeats 4000000 in
theorem lawc_32 {κ : Cxt} {R : St → Prop} {b L : Nat} {xs : Nat → Int32} {cs : Nat × Nat} {Q : State → Prop} (C : Cx κ RL cL_law 4 ret 11) (T : isT κ) (hcs : csOK κ (cs.1 + 2, cs.2 + 84)) (hX : scX κ b L xs) (hO : OP32 R) {i : Int} (hL : L ≤ 3584) (hi : 0 ≤ i ∧ i + 7 ≤ (L : Int)) (kz : ∀ ad σ, R σ → Z κ (cs.1 + 2, cs.2 + 84) Q 2170 [(0, .ref b), (1, vo ad 11 (some 0)), (2, vo ad 12 (some 0)), (3, vi i)] [] ad σ) : ∀ ad σ, R σ → Z κ cs Q 1498 [(0, .ref b), (1, vo ad 11 (some 0)), (2, vo ad 12 (some 0)), (3, vi i)] [] ad σ := by
  intro ad σ hR
  refine z_sf T (fun hSF => ?_)
  have hii : inr i := by constructor <;> omega
  have hc0 : csOK κ cs := csOK_le hcs (by omega) (by omega)
  refine z_aload_n C 1 dL_law_1498 rfl ?_
  refine z_aloadR C 0 dL_law_1499 rfl ?_
  refine z_iload_n C 3 dL_law_1500 rfl ?_
  refine z_iconst C dL_law_1501 ?_
  refine z_iadd C dL_law_1502 ?_
  refine z_sld C hX (x := i + 1) (by constructor <;> omega) (by omega) dL_law_1503 ?_
  show Z κ cs Q 1504 _ [vi (sc xs i 1), vo ad 11 (some 0)] ad σ
  refine z_aloadR C 0 dL_law_1504 rfl ?_
  refine z_iload_n C 3 dL_law_1505 rfl ?_
  refine z_iconst C dL_law_1506 ?_
  refine z_iadd C dL_law_1507 ?_
  refine z_sld C hX (x := i + 2) (by constructor <;> omega) (by omega) dL_law_1508 ?_
  show Z κ cs Q 1509 _ [vi (sc xs i 2), vi (sc xs i 1), vo ad 11 (some 0)] ad σ
  refine z_aloadR C 0 dL_law_1509 rfl ?_
  refine z_iload_n C 3 dL_law_1510 rfl ?_
  refine z_iconst C dL_law_1511 ?_
  refine z_iadd C dL_law_1512 ?_
  refine z_sld C hX (x := i + 3) (by constructor <;> omega) (by omega) dL_law_1513 ?_
  show Z κ cs Q 1514 _ [vi (sc xs i 3), vi (sc xs i 2), vi (sc xs i 1), vo ad 11 (some 0)] ad σ
  have h := hO (sc xs i 1) (sc xs i 2) (sc xs i 3) inr_sc inr_sc inr_sc σ hSF hR
  refine z_cV (st := []) T C (ct_X11_allowed (sc xs i 1) (sc xs i 2) (sc xs i 3) inr_sc inr_sc inr_sc) lm_L_153 lv_vX11_allowed dL_law_1514 [vi (sc xs i 1), vi (sc xs i 2), vi (sc xs i 3)] rfl rfl rfl rfl rfl (sg_11 T) trivial (by decide) (Nat.le_of_ble_eq_true rfl) hc0 h (fun r1 σ1 hr1 eN0 h => ?_)
  show Z κ cs Q 1517 [(0, .ref b), (1, vo ad 11 (some 0)), (2, vo ad 12 (some 0)), (3, vi i)] [vi r1] ad σ1
  refine z_aload_n C 2 dL_law_1517 rfl ?_
  refine z_aloadR C 0 dL_law_1518 rfl ?_
  refine z_iload_n C 3 dL_law_1519 rfl ?_
  refine z_iconst C dL_law_1520 ?_
  refine z_iadd C dL_law_1521 ?_
  refine z_sld C hX (x := i + 1) (by constructor <;> omega) (by omega) dL_law_1522 ?_
  show Z κ cs Q 1523 _ [vi (sc xs i 1), vo ad 12 (some 0), vi r1] ad σ1
  refine z_aloadR C 0 dL_law_1523 rfl ?_
  refine z_iload_n C 3 dL_law_1524 rfl ?_
  refine z_iconst C dL_law_1525 ?_
  refine z_iadd C dL_law_1526 ?_
  refine z_sld C hX (x := i + 2) (by constructor <;> omega) (by omega) dL_law_1527 ?_
  show Z κ cs Q 1528 _ [vi (sc xs i 2), vi (sc xs i 1), vo ad 12 (some 0), vi r1] ad σ1
  refine z_aloadR C 0 dL_law_1528 rfl ?_
  refine z_iload_n C 3 dL_law_1529 rfl ?_
  refine z_iconst C dL_law_1530 ?_
  refine z_iadd C dL_law_1531 ?_
  refine z_sld C hX (x := i + 3) (by constructor <;> omega) (by omega) dL_law_1532 ?_
  show Z κ cs Q 1533 _ [vi (sc xs i 3), vi (sc xs i 2), vi (sc xs i 1), vo ad 12 (some 0), vi r1] ad σ1
  refine z_cV (st := [vi r1]) T C (ct_X12_allowed (sc xs i 1) (sc xs i 2) (sc xs i 3) inr_sc inr_sc inr_sc) lm_L_156 lv_vX12_allowed dL_law_1533 [vi (sc xs i 1), vi (sc xs i 2), vi (sc xs i 3)] rfl rfl rfl rfl rfl (sg_12 T) trivial (by decide) (Nat.le_of_ble_eq_true rfl) hc0 h (fun r2 σ2 hr2 eN1 h => ?_)
  show Z κ cs Q 1536 [(0, .ref b), (1, vo ad 11 (some 0)), (2, vo ad 12 (some 0)), (3, vi i)] [vi r2, vi r1] ad σ2
  obtain ⟨⟨he, hR2⟩, -⟩ := wpO_ckp.mp h
  refine z_icmp_eq C 2170 hr1 hr2 dL_law_1536 (by decide) (fun q => ?_) (fun q => absurd he q)
  refine z_widen (k := cs.1 + 2) (n := cs.2 + 84) (by show _ ≤ _; omega) (by show _ ≤ _; omega) ?_
  exact kz _ _ hR2
set_option maxRecDepth 20000 in
set_option maxHeartbeats 4000000 in
theorem lawc_33 {κ : Cxt} {R : St → Prop} {b L : Nat} {xs : Nat → Int32} {cs : Nat × Nat} {Q : State → Prop} (C : Cx κ RL cL_law 4 ret 11) (T : isT κ) (hcs : csOK κ (cs.1 + 2, cs.2 + 84)) (hX : scX κ b L xs) (hO : OP33 R) {i : Int} (hL : L ≤ 3584) (hi : 0 ≤ i ∧ i + 7 ≤ (L : Int)) (kz : ∀ ad σ, R σ → Z κ (cs.1 + 2, cs.2 + 84) Q 2170 [(0, .ref b), (1, vo ad 11 (some 0)), (2, vo ad 12 (some 0)), (3, vi i)] [] ad σ) : ∀ ad σ, R σ → Z κ cs Q 1541 [(0, .ref b), (1, vo ad 11 (some 0)), (2, vo ad 12 (some 0)), (3, vi i)] [] ad σ := by
  intro ad σ hR
  refine z_sf T (fun hSF => ?_)
  have hii : inr i := by constructor <;> omega
  have hc0 : csOK κ cs := csOK_le hcs (by omega) (by omega)
  refine z_aload_n C 1 dL_law_1541 rfl ?_
  refine z_aloadR C 0 dL_law_1542 rfl ?_
  refine z_iload_n C 3 dL_law_1543 rfl ?_
  refine z_iconst C dL_law_1544 ?_
  refine z_iadd C dL_law_1545 ?_
  refine z_sld C hX (x := i + 1) (by constructor <;> omega) (by omega) dL_law_1546 ?_
  show Z κ cs Q 1547 _ [vi (sc xs i 1), vo ad 11 (some 0)] ad σ
  refine z_if_eq C 1554 inr_sc dL_law_1547 (by decide) (fun q0 => ?_) (fun q0 => ?_)
  · refine z_iconst C dL_law_1554 ?_
    refine z_aloadR C 0 dL_law_1555 rfl ?_
    refine z_iload_n C 3 dL_law_1556 rfl ?_
    refine z_iconst C dL_law_1557 ?_
    refine z_iadd C dL_law_1558 ?_
    refine z_sld C hX (x := i + 2) (by constructor <;> omega) (by omega) dL_law_1559 ?_
    show Z κ cs Q 1560 _ [vi (sc xs i 2), vi 0, vo ad 11 (some 0)] ad σ
    have h := hO 0 (sc xs i 2) (by decide) inr_sc σ hSF hR
    refine z_cV (st := []) T C (ct_X11_length 0 (sc xs i 2) (by decide) inr_sc) lm_L_157 lv_vX11_length dL_law_1560 [vi 0, vi (sc xs i 2)] rfl rfl rfl rfl rfl (sg_11 T) trivial (by decide) (Nat.le_of_ble_eq_true rfl) hc0 h (fun r1 σ1 hr1 eN0 h => ?_)
    show Z κ cs Q 1563 [(0, .ref b), (1, vo ad 11 (some 0)), (2, vo ad 12 (some 0)), (3, vi i)] [vi r1] ad σ1
    refine z_aload_n C 2 dL_law_1563 rfl ?_
    refine z_aloadR C 0 dL_law_1564 rfl ?_
    refine z_iload_n C 3 dL_law_1565 rfl ?_
    refine z_iconst C dL_law_1566 ?_
    refine z_iadd C dL_law_1567 ?_
    refine z_sld C hX (x := i + 1) (by constructor <;> omega) (by omega) dL_law_1568 ?_
    show Z κ cs Q 1569 _ [vi (sc xs i 1), vo ad 12 (some 0), vi r1] ad σ1
    refine z_if_eq C 1576 inr_sc dL_law_1569 (by decide) (fun q => ?_) (fun q => ?_)
    rotate_left
    · exact absurd q0 q
    refine z_iconst C dL_law_1576 ?_
    refine z_aloadR C 0 dL_law_1577 rfl ?_
    refine z_iload_n C 3 dL_law_1578 rfl ?_
    refine z_iconst C dL_law_1579 ?_
    refine z_iadd C dL_law_1580 ?_
    refine z_sld C hX (x := i + 2) (by constructor <;> omega) (by omega) dL_law_1581 ?_
    show Z κ cs Q 1582 _ [vi (sc xs i 2), vi 0, vo ad 12 (some 0), vi r1] ad σ1
    refine z_cV (st := [vi r1]) T C (ct_X12_length 0 (sc xs i 2) (by decide) inr_sc) lm_L_161 lv_vX12_length dL_law_1582 [vi 0, vi (sc xs i 2)] rfl rfl rfl rfl rfl (sg_12 T) trivial (by decide) (Nat.le_of_ble_eq_true rfl) hc0 h (fun r2 σ2 hr2 eN1 h => ?_)
    show Z κ cs Q 1585 [(0, .ref b), (1, vo ad 11 (some 0)), (2, vo ad 12 (some 0)), (3, vi i)] [vi r2, vi r1] ad σ2
    obtain ⟨⟨he, hR2⟩, -⟩ := wpO_ckp.mp h
    refine z_icmp_eq C 2170 hr1 hr2 dL_law_1585 (by decide) (fun q => ?_) (fun q => absurd he q)
    refine z_widen (k := cs.1 + 2) (n := cs.2 + 84) (by show _ ≤ _; omega) (by show _ ≤ _; omega) ?_
    exact kz _ _ hR2
  · refine z_iconst C dL_law_1550 ?_
    refine z_goto C 1555 dL_law_1551 (by decide) ?_
    refine z_aloadR C 0 dL_law_1555 rfl ?_
    refine z_iload_n C 3 dL_law_1556 rfl ?_
    refine z_iconst C dL_law_1557 ?_
    refine z_iadd C dL_law_1558 ?_
    refine z_sld C hX (x := i + 2) (by constructor <;> omega) (by omega) dL_law_1559 ?_
    show Z κ cs Q 1560 _ [vi (sc xs i 2), vi 1, vo ad 11 (some 0)] ad σ
    have h := hO 1 (sc xs i 2) (by decide) inr_sc σ hSF hR
    refine z_cV (st := []) T C (ct_X11_length 1 (sc xs i 2) (by decide) inr_sc) lm_L_157 lv_vX11_length dL_law_1560 [vi 1, vi (sc xs i 2)] rfl rfl rfl rfl rfl (sg_11 T) trivial (by decide) (Nat.le_of_ble_eq_true rfl) hc0 h (fun r1 σ1 hr1 eN0 h => ?_)
    show Z κ cs Q 1563 [(0, .ref b), (1, vo ad 11 (some 0)), (2, vo ad 12 (some 0)), (3, vi i)] [vi r1] ad σ1
    refine z_aload_n C 2 dL_law_1563 rfl ?_
    refine z_aloadR C 0 dL_law_1564 rfl ?_
    refine z_iload_n C 3 dL_law_1565 rfl ?_
    refine z_iconst C dL_law_1566 ?_
    refine z_iadd C dL_law_1567 ?_
    refine z_sld C hX (x := i + 1) (by constructor <;> omega) (by omega) dL_law_1568 ?_
    show Z κ cs Q 1569 _ [vi (sc xs i 1), vo ad 12 (some 0), vi r1] ad σ1
    refine z_if_eq C 1576 inr_sc dL_law_1569 (by decide) (fun q => ?_) (fun q => ?_)
    · exact absurd q q0
    refine z_iconst C dL_law_1572 ?_
    refine z_goto C 1577 dL_law_1573 (by decide) ?_
    refine z_aloadR C 0 dL_law_1577 rfl ?_
    refine z_iload_n C 3 dL_law_1578 rfl ?_
    refine z_iconst C dL_law_1579 ?_
    refine z_iadd C dL_law_1580 ?_
    refine z_sld C hX (x := i + 2) (by constructor <;> omega) (by omega) dL_law_1581 ?_
    show Z κ cs Q 1582 _ [vi (sc xs i 2), vi 1, vo ad 12 (some 0), vi r1] ad σ1
    refine z_cV (st := [vi r1]) T C (ct_X12_length 1 (sc xs i 2) (by decide) inr_sc) lm_L_161 lv_vX12_length dL_law_1582 [vi 1, vi (sc xs i 2)] rfl rfl rfl rfl rfl (sg_12 T) trivial (by decide) (Nat.le_of_ble_eq_true rfl) hc0 h (fun r2 σ2 hr2 eN1 h => ?_)
    show Z κ cs Q 1585 [(0, .ref b), (1, vo ad 11 (some 0)), (2, vo ad 12 (some 0)), (3, vi i)] [vi r2, vi r1] ad σ2
    obtain ⟨⟨he, hR2⟩, -⟩ := wpO_ckp.mp h
    refine z_icmp_eq C 2170 hr1 hr2 dL_law_1585 (by decide) (fun q => ?_) (fun q => absurd he q)
    refine z_widen (k := cs.1 + 2) (n := cs.2 + 84) (by show _ ≤ _; omega) (by show _ ≤ _; omega) ?_
    exact kz _ _ hR2
set_option maxRecDepth 20000 in
set_option maxHeartbeats 4000000 in
theorem lawc_34 {κ : Cxt} {R : St → Prop} {b L : Nat} {xs : Nat → Int32} {cs : Nat × Nat} {Q : State → Prop} (C : Cx κ RL cL_law 4 ret 11) (T : isT κ) (hcs : csOK κ (cs.1 + 2, cs.2 + 84)) (hX : scX κ b L xs) (hO : OP34 R) {i : Int} (hL : L ≤ 3584) (hi : 0 ≤ i ∧ i + 7 ≤ (L : Int)) (kz : ∀ ad σ, R σ → Z κ (cs.1 + 2, cs.2 + 84) Q 2170 [(0, .ref b), (1, vo ad 11 (some 0)), (2, vo ad 12 (some 0)), (3, vi i)] [] ad σ) : ∀ ad σ, R σ → Z κ cs Q 1590 [(0, .ref b), (1, vo ad 11 (some 0)), (2, vo ad 12 (some 0)), (3, vi i)] [] ad σ := by
  intro ad σ hR
  refine z_sf T (fun hSF => ?_)
  have hii : inr i := by constructor <;> omega
  have hc0 : csOK κ cs := csOK_le hcs (by omega) (by omega)
  refine z_aload_n C 1 dL_law_1590 rfl ?_
  refine z_aloadR C 0 dL_law_1591 rfl ?_
  refine z_iload_n C 3 dL_law_1592 rfl ?_
  refine z_iconst C dL_law_1593 ?_
  refine z_iadd C dL_law_1594 ?_
  refine z_sld C hX (x := i + 1) (by constructor <;> omega) (by omega) dL_law_1595 ?_
  show Z κ cs Q 1596 _ [vi (sc xs i 1), vo ad 11 (some 0)] ad σ
  refine z_aloadR C 0 dL_law_1596 rfl ?_
  refine z_iload_n C 3 dL_law_1597 rfl ?_
  refine z_iconst C dL_law_1598 ?_
  refine z_iadd C dL_law_1599 ?_
  refine z_sld C hX (x := i + 2) (by constructor <;> omega) (by omega) dL_law_1600 ?_
  show Z κ cs Q 1601 _ [vi (sc xs i 2), vi (sc xs i 1), vo ad 11 (some 0)] ad σ
  refine z_aloadR C 0 dL_law_1601 rfl ?_
  refine z_iload_n C 3 dL_law_1602 rfl ?_
  refine z_iconst C dL_law_1603 ?_
  refine z_iadd C dL_law_1604 ?_
  refine z_sld C hX (x := i + 3) (by constructor <;> omega) (by omega) dL_law_1605 ?_
  show Z κ cs Q 1606 _ [vi (sc xs i 3), vi (sc xs i 2), vi (sc xs i 1), vo ad 11 (some 0)] ad σ
  refine z_if_eq C 1613 inr_sc dL_law_1606 (by decide) (fun q0 => ?_) (fun q0 => ?_)
  · refine z_iconst C dL_law_1613 ?_
    have h := hO (sc xs i 1) (sc xs i 2) 0 inr_sc inr_sc (by decide) σ hSF hR
    refine z_cV (st := []) T C (ct_X11_apart (sc xs i 1) (sc xs i 2) 0 inr_sc inr_sc (by decide)) lm_L_162 lv_vX11_apart dL_law_1614 [vi (sc xs i 1), vi (sc xs i 2), vi 0] rfl rfl rfl rfl rfl (sg_11 T) trivial (by decide) (Nat.le_of_ble_eq_true rfl) hc0 h (fun r1 σ1 hr1 eN0 h => ?_)
    show Z κ cs Q 1617 [(0, .ref b), (1, vo ad 11 (some 0)), (2, vo ad 12 (some 0)), (3, vi i)] [vi r1] ad σ1
    refine z_aload_n C 2 dL_law_1617 rfl ?_
    refine z_aloadR C 0 dL_law_1618 rfl ?_
    refine z_iload_n C 3 dL_law_1619 rfl ?_
    refine z_iconst C dL_law_1620 ?_
    refine z_iadd C dL_law_1621 ?_
    refine z_sld C hX (x := i + 1) (by constructor <;> omega) (by omega) dL_law_1622 ?_
    show Z κ cs Q 1623 _ [vi (sc xs i 1), vo ad 12 (some 0), vi r1] ad σ1
    refine z_aloadR C 0 dL_law_1623 rfl ?_
    refine z_iload_n C 3 dL_law_1624 rfl ?_
    refine z_iconst C dL_law_1625 ?_
    refine z_iadd C dL_law_1626 ?_
    refine z_sld C hX (x := i + 2) (by constructor <;> omega) (by omega) dL_law_1627 ?_
    show Z κ cs Q 1628 _ [vi (sc xs i 2), vi (sc xs i 1), vo ad 12 (some 0), vi r1] ad σ1
    refine z_aloadR C 0 dL_law_1628 rfl ?_
    refine z_iload_n C 3 dL_law_1629 rfl ?_
    refine z_iconst C dL_law_1630 ?_
    refine z_iadd C dL_law_1631 ?_
    refine z_sld C hX (x := i + 3) (by constructor <;> omega) (by omega) dL_law_1632 ?_
    show Z κ cs Q 1633 _ [vi (sc xs i 3), vi (sc xs i 2), vi (sc xs i 1), vo ad 12 (some 0), vi r1] ad σ1
    refine z_if_eq C 1640 inr_sc dL_law_1633 (by decide) (fun q => ?_) (fun q => ?_)
    rotate_left
    · exact absurd q0 q
    refine z_iconst C dL_law_1640 ?_
    refine z_cV (st := [vi r1]) T C (ct_X12_apart (sc xs i 1) (sc xs i 2) 0 inr_sc inr_sc (by decide)) lm_L_166 lv_vX12_apart dL_law_1641 [vi (sc xs i 1), vi (sc xs i 2), vi 0] rfl rfl rfl rfl rfl (sg_12 T) trivial (by decide) (Nat.le_of_ble_eq_true rfl) hc0 h (fun r2 σ2 hr2 eN1 h => ?_)
    show Z κ cs Q 1644 [(0, .ref b), (1, vo ad 11 (some 0)), (2, vo ad 12 (some 0)), (3, vi i)] [vi r2, vi r1] ad σ2
    obtain ⟨⟨he, hR2⟩, -⟩ := wpO_ckp.mp h
    refine z_icmp_eq C 2170 hr1 hr2 dL_law_1644 (by decide) (fun q => ?_) (fun q => absurd he q)
    refine z_widen (k := cs.1 + 2) (n := cs.2 + 84) (by show _ ≤ _; omega) (by show _ ≤ _; omega) ?_
    exact kz _ _ hR2
  · refine z_iconst C dL_law_1609 ?_
    refine z_goto C 1614 dL_law_1610 (by decide) ?_
    have h := hO (sc xs i 1) (sc xs i 2) 1 inr_sc inr_sc (by decide) σ hSF hR
    refine z_cV (st := []) T C (ct_X11_apart (sc xs i 1) (sc xs i 2) 1 inr_sc inr_sc (by decide)) lm_L_162 lv_vX11_apart dL_law_1614 [vi (sc xs i 1), vi (sc xs i 2), vi 1] rfl rfl rfl rfl rfl (sg_11 T) trivial (by decide) (Nat.le_of_ble_eq_true rfl) hc0 h (fun r1 σ1 hr1 eN0 h => ?_)
    show Z κ cs Q 1617 [(0, .ref b), (1, vo ad 11 (some 0)), (2, vo ad 12 (some 0)), (3, vi i)] [vi r1] ad σ1
    refine z_aload_n C 2 dL_law_1617 rfl ?_
    refine z_aloadR C 0 dL_law_1618 rfl ?_
    refine z_iload_n C 3 dL_law_1619 rfl ?_
    refine z_iconst C dL_law_1620 ?_
    refine z_iadd C dL_law_1621 ?_
    refine z_sld C hX (x := i + 1) (by constructor <;> omega) (by omega) dL_law_1622 ?_
    show Z κ cs Q 1623 _ [vi (sc xs i 1), vo ad 12 (some 0), vi r1] ad σ1
    refine z_aloadR C 0 dL_law_1623 rfl ?_
    refine z_iload_n C 3 dL_law_1624 rfl ?_
    refine z_iconst C dL_law_1625 ?_
    refine z_iadd C dL_law_1626 ?_
    refine z_sld C hX (x := i + 2) (by constructor <;> omega) (by omega) dL_law_1627 ?_
    show Z κ cs Q 1628 _ [vi (sc xs i 2), vi (sc xs i 1), vo ad 12 (some 0), vi r1] ad σ1
    refine z_aloadR C 0 dL_law_1628 rfl ?_
    refine z_iload_n C 3 dL_law_1629 rfl ?_
    refine z_iconst C dL_law_1630 ?_
    refine z_iadd C dL_law_1631 ?_
    refine z_sld C hX (x := i + 3) (by constructor <;> omega) (by omega) dL_law_1632 ?_
    show Z κ cs Q 1633 _ [vi (sc xs i 3), vi (sc xs i 2), vi (sc xs i 1), vo ad 12 (some 0), vi r1] ad σ1
    refine z_if_eq C 1640 inr_sc dL_law_1633 (by decide) (fun q => ?_) (fun q => ?_)
    · exact absurd q q0
    refine z_iconst C dL_law_1636 ?_
    refine z_goto C 1641 dL_law_1637 (by decide) ?_
    refine z_cV (st := [vi r1]) T C (ct_X12_apart (sc xs i 1) (sc xs i 2) 1 inr_sc inr_sc (by decide)) lm_L_166 lv_vX12_apart dL_law_1641 [vi (sc xs i 1), vi (sc xs i 2), vi 1] rfl rfl rfl rfl rfl (sg_12 T) trivial (by decide) (Nat.le_of_ble_eq_true rfl) hc0 h (fun r2 σ2 hr2 eN1 h => ?_)
    show Z κ cs Q 1644 [(0, .ref b), (1, vo ad 11 (some 0)), (2, vo ad 12 (some 0)), (3, vi i)] [vi r2, vi r1] ad σ2
    obtain ⟨⟨he, hR2⟩, -⟩ := wpO_ckp.mp h
    refine z_icmp_eq C 2170 hr1 hr2 dL_law_1644 (by decide) (fun q => ?_) (fun q => absurd he q)
    refine z_widen (k := cs.1 + 2) (n := cs.2 + 84) (by show _ ≤ _; omega) (by show _ ≤ _; omega) ?_
    exact kz _ _ hR2
set_option maxRecDepth 20000 in
set_option maxHeartbeats 4000000 in
theorem lawc_35 {κ : Cxt} {R : St → Prop} {b L : Nat} {xs : Nat → Int32} {cs : Nat × Nat} {Q : State → Prop} (C : Cx κ RL cL_law 4 ret 11) (T : isT κ) (hcs : csOK κ (cs.1 + 2, cs.2 + 84)) (hX : scX κ b L xs) (hO : OP35 R) {i : Int} (hL : L ≤ 3584) (hi : 0 ≤ i ∧ i + 7 ≤ (L : Int)) (kz : ∀ ad σ, R σ → Z κ (cs.1 + 2, cs.2 + 84) Q 2170 [(0, .ref b), (1, vo ad 11 (some 0)), (2, vo ad 12 (some 0)), (3, vi i)] [] ad σ) : ∀ ad σ, R σ → Z κ cs Q 1649 [(0, .ref b), (1, vo ad 11 (some 0)), (2, vo ad 12 (some 0)), (3, vi i)] [] ad σ := by
  intro ad σ hR
  refine z_sf T (fun hSF => ?_)
  have hii : inr i := by constructor <;> omega
  have hc0 : csOK κ cs := csOK_le hcs (by omega) (by omega)
  refine z_aload_n C 1 dL_law_1649 rfl ?_
  refine z_aloadR C 0 dL_law_1650 rfl ?_
  refine z_iload_n C 3 dL_law_1651 rfl ?_
  refine z_iconst C dL_law_1652 ?_
  refine z_iadd C dL_law_1653 ?_
  refine z_sld C hX (x := i + 1) (by constructor <;> omega) (by omega) dL_law_1654 ?_
  show Z κ cs Q 1655 _ [vi (sc xs i 1), vo ad 11 (some 0)] ad σ
  refine z_aloadR C 0 dL_law_1655 rfl ?_
  refine z_iload_n C 3 dL_law_1656 rfl ?_
  refine z_iconst C dL_law_1657 ?_
  refine z_iadd C dL_law_1658 ?_
  refine z_sld C hX (x := i + 2) (by constructor <;> omega) (by omega) dL_law_1659 ?_
  show Z κ cs Q 1660 _ [vi (sc xs i 2), vi (sc xs i 1), vo ad 11 (some 0)] ad σ
  refine z_if_eq C 1667 inr_sc dL_law_1660 (by decide) (fun q0 => ?_) (fun q0 => ?_)
  · refine z_iconst C dL_law_1667 ?_
    have h := hO (sc xs i 1) 0 inr_sc (by decide) σ hSF hR
    refine z_cV (st := []) T C (ct_X11_rival (sc xs i 1) 0 inr_sc (by decide)) lm_L_167 lv_vX11_rival dL_law_1668 [vi (sc xs i 1), vi 0] rfl rfl rfl rfl rfl (sg_11 T) trivial (by decide) (Nat.le_of_ble_eq_true rfl) hc0 h (fun r1 σ1 hr1 eN0 h => ?_)
    show Z κ cs Q 1671 [(0, .ref b), (1, vo ad 11 (some 0)), (2, vo ad 12 (some 0)), (3, vi i)] [vi r1] ad σ1
    refine z_aload_n C 2 dL_law_1671 rfl ?_
    refine z_aloadR C 0 dL_law_1672 rfl ?_
    refine z_iload_n C 3 dL_law_1673 rfl ?_
    refine z_iconst C dL_law_1674 ?_
    refine z_iadd C dL_law_1675 ?_
    refine z_sld C hX (x := i + 1) (by constructor <;> omega) (by omega) dL_law_1676 ?_
    show Z κ cs Q 1677 _ [vi (sc xs i 1), vo ad 12 (some 0), vi r1] ad σ1
    refine z_aloadR C 0 dL_law_1677 rfl ?_
    refine z_iload_n C 3 dL_law_1678 rfl ?_
    refine z_iconst C dL_law_1679 ?_
    refine z_iadd C dL_law_1680 ?_
    refine z_sld C hX (x := i + 2) (by constructor <;> omega) (by omega) dL_law_1681 ?_
    show Z κ cs Q 1682 _ [vi (sc xs i 2), vi (sc xs i 1), vo ad 12 (some 0), vi r1] ad σ1
    refine z_if_eq C 1689 inr_sc dL_law_1682 (by decide) (fun q => ?_) (fun q => ?_)
    rotate_left
    · exact absurd q0 q
    refine z_iconst C dL_law_1689 ?_
    refine z_cV (st := [vi r1]) T C (ct_X12_rival (sc xs i 1) 0 inr_sc (by decide)) lm_L_170 lv_vX12_rival dL_law_1690 [vi (sc xs i 1), vi 0] rfl rfl rfl rfl rfl (sg_12 T) trivial (by decide) (Nat.le_of_ble_eq_true rfl) hc0 h (fun r2 σ2 hr2 eN1 h => ?_)
    show Z κ cs Q 1693 [(0, .ref b), (1, vo ad 11 (some 0)), (2, vo ad 12 (some 0)), (3, vi i)] [vi r2, vi r1] ad σ2
    obtain ⟨⟨he, hR2⟩, -⟩ := wpO_ckp.mp h
    refine z_icmp_eq C 2170 hr1 hr2 dL_law_1693 (by decide) (fun q => ?_) (fun q => absurd he q)
    refine z_widen (k := cs.1 + 2) (n := cs.2 + 84) (by show _ ≤ _; omega) (by show _ ≤ _; omega) ?_
    exact kz _ _ hR2
  · refine z_iconst C dL_law_1663 ?_
    refine z_goto C 1668 dL_law_1664 (by decide) ?_
    have h := hO (sc xs i 1) 1 inr_sc (by decide) σ hSF hR
    refine z_cV (st := []) T C (ct_X11_rival (sc xs i 1) 1 inr_sc (by decide)) lm_L_167 lv_vX11_rival dL_law_1668 [vi (sc xs i 1), vi 1] rfl rfl rfl rfl rfl (sg_11 T) trivial (by decide) (Nat.le_of_ble_eq_true rfl) hc0 h (fun r1 σ1 hr1 eN0 h => ?_)
    show Z κ cs Q 1671 [(0, .ref b), (1, vo ad 11 (some 0)), (2, vo ad 12 (some 0)), (3, vi i)] [vi r1] ad σ1
    refine z_aload_n C 2 dL_law_1671 rfl ?_
    refine z_aloadR C 0 dL_law_1672 rfl ?_
    refine z_iload_n C 3 dL_law_1673 rfl ?_
    refine z_iconst C dL_law_1674 ?_
    refine z_iadd C dL_law_1675 ?_
    refine z_sld C hX (x := i + 1) (by constructor <;> omega) (by omega) dL_law_1676 ?_
    show Z κ cs Q 1677 _ [vi (sc xs i 1), vo ad 12 (some 0), vi r1] ad σ1
    refine z_aloadR C 0 dL_law_1677 rfl ?_
    refine z_iload_n C 3 dL_law_1678 rfl ?_
    refine z_iconst C dL_law_1679 ?_
    refine z_iadd C dL_law_1680 ?_
    refine z_sld C hX (x := i + 2) (by constructor <;> omega) (by omega) dL_law_1681 ?_
    show Z κ cs Q 1682 _ [vi (sc xs i 2), vi (sc xs i 1), vo ad 12 (some 0), vi r1] ad σ1
    refine z_if_eq C 1689 inr_sc dL_law_1682 (by decide) (fun q => ?_) (fun q => ?_)
    · exact absurd q q0
    refine z_iconst C dL_law_1685 ?_
    refine z_goto C 1690 dL_law_1686 (by decide) ?_
    refine z_cV (st := [vi r1]) T C (ct_X12_rival (sc xs i 1) 1 inr_sc (by decide)) lm_L_170 lv_vX12_rival dL_law_1690 [vi (sc xs i 1), vi 1] rfl rfl rfl rfl rfl (sg_12 T) trivial (by decide) (Nat.le_of_ble_eq_true rfl) hc0 h (fun r2 σ2 hr2 eN1 h => ?_)
    show Z κ cs Q 1693 [(0, .ref b), (1, vo ad 11 (some 0)), (2, vo ad 12 (some 0)), (3, vi i)] [vi r2, vi r1] ad σ2
    obtain ⟨⟨he, hR2⟩, -⟩ := wpO_ckp.mp h
    refine z_icmp_eq C 2170 hr1 hr2 dL_law_1693 (by decide) (fun q => ?_) (fun q => absurd he q)
    refine z_widen (k := cs.1 + 2) (n := cs.2 + 84) (by show _ ≤ _; omega) (by show _ ≤ _; omega) ?_
    exact kz _ _ hR2
set_option maxRecDepth 20000 in
set_option maxHeartbeats 4000000 in
theorem lawc_36 {κ : Cxt} {R : St → Prop} {b L : Nat} {xs : Nat → Int32} {cs : Nat × Nat} {Q : State → Prop} (C : Cx κ RL cL_law 4 ret 11) (T : isT κ) (hcs : csOK κ (cs.1 + 2, cs.2 + 84)) (hX : scX κ b L xs) (hO : OP36 R) {i : Int} (hL : L ≤ 3584) (hi : 0 ≤ i ∧ i + 7 ≤ (L : Int)) (kz : ∀ ad σ, R σ → Z κ (cs.1 + 2, cs.2 + 84) Q 2170 [(0, .ref b), (1, vo ad 11 (some 0)), (2, vo ad 12 (some 0)), (3, vi i)] [] ad σ) : ∀ ad σ, R σ → Z κ cs Q 1698 [(0, .ref b), (1, vo ad 11 (some 0)), (2, vo ad 12 (some 0)), (3, vi i)] [] ad σ := by
  intro ad σ hR
  refine z_sf T (fun hSF => ?_)
  have hii : inr i := by constructor <;> omega
  have hc0 : csOK κ cs := csOK_le hcs (by omega) (by omega)
  refine z_aload_n C 1 dL_law_1698 rfl ?_
  refine z_aloadR C 0 dL_law_1699 rfl ?_
  refine z_iload_n C 3 dL_law_1700 rfl ?_
  refine z_iconst C dL_law_1701 ?_
  refine z_iadd C dL_law_1702 ?_
  refine z_sld C hX (x := i + 1) (by constructor <;> omega) (by omega) dL_law_1703 ?_
  show Z κ cs Q 1704 _ [vi (sc xs i 1), vo ad 11 (some 0)] ad σ
  refine z_aloadR C 0 dL_law_1704 rfl ?_
  refine z_iload_n C 3 dL_law_1705 rfl ?_
  refine z_iconst C dL_law_1706 ?_
  refine z_iadd C dL_law_1707 ?_
  refine z_sld C hX (x := i + 2) (by constructor <;> omega) (by omega) dL_law_1708 ?_
  show Z κ cs Q 1709 _ [vi (sc xs i 2), vi (sc xs i 1), vo ad 11 (some 0)] ad σ
  have h := hO (sc xs i 1) (sc xs i 2) inr_sc inr_sc σ hSF hR
  refine z_cV (st := []) T C (ct_X11_reel (sc xs i 1) (sc xs i 2) inr_sc inr_sc) lm_L_171 lv_vX11_reel dL_law_1709 [vi (sc xs i 1), vi (sc xs i 2)] rfl rfl rfl rfl rfl (sg_11 T) trivial (by decide) (Nat.le_of_ble_eq_true rfl) hc0 h (fun r1 σ1 hr1 eN0 h => ?_)
  show Z κ cs Q 1712 [(0, .ref b), (1, vo ad 11 (some 0)), (2, vo ad 12 (some 0)), (3, vi i)] [vi r1] ad σ1
  refine z_aload_n C 2 dL_law_1712 rfl ?_
  refine z_aloadR C 0 dL_law_1713 rfl ?_
  refine z_iload_n C 3 dL_law_1714 rfl ?_
  refine z_iconst C dL_law_1715 ?_
  refine z_iadd C dL_law_1716 ?_
  refine z_sld C hX (x := i + 1) (by constructor <;> omega) (by omega) dL_law_1717 ?_
  show Z κ cs Q 1718 _ [vi (sc xs i 1), vo ad 12 (some 0), vi r1] ad σ1
  refine z_aloadR C 0 dL_law_1718 rfl ?_
  refine z_iload_n C 3 dL_law_1719 rfl ?_
  refine z_iconst C dL_law_1720 ?_
  refine z_iadd C dL_law_1721 ?_
  refine z_sld C hX (x := i + 2) (by constructor <;> omega) (by omega) dL_law_1722 ?_
  show Z κ cs Q 1723 _ [vi (sc xs i 2), vi (sc xs i 1), vo ad 12 (some 0), vi r1] ad σ1
  refine z_cV (st := [vi r1]) T C (ct_X12_reel (sc xs i 1) (sc xs i 2) inr_sc inr_sc) lm_L_174 lv_vX12_reel dL_law_1723 [vi (sc xs i 1), vi (sc xs i 2)] rfl rfl rfl rfl rfl (sg_12 T) trivial (by decide) (Nat.le_of_ble_eq_true rfl) hc0 h (fun r2 σ2 hr2 eN1 h => ?_)
  show Z κ cs Q 1726 [(0, .ref b), (1, vo ad 11 (some 0)), (2, vo ad 12 (some 0)), (3, vi i)] [vi r2, vi r1] ad σ2
  obtain ⟨⟨he, hR2⟩, -⟩ := wpO_ckp.mp h
  refine z_icmp_eq C 2170 hr1 hr2 dL_law_1726 (by decide) (fun q => ?_) (fun q => absurd he q)
  refine z_widen (k := cs.1 + 2) (n := cs.2 + 84) (by show _ ≤ _; omega) (by show _ ≤ _; omega) ?_
  exact kz _ _ hR2
set_option maxRecDepth 20000 in
set_option maxHeartbeats 4000000 in
theorem lawc_37 {κ : Cxt} {R : St → Prop} {b L : Nat} {xs : Nat → Int32} {cs : Nat × Nat} {Q : State → Prop} (C : Cx κ RL cL_law 4 ret 11) (T : isT κ) (hcs : csOK κ (cs.1 + 2, cs.2 + 84)) (hX : scX κ b L xs) (hO : OP37 R) {i : Int} (hL : L ≤ 3584) (hi : 0 ≤ i ∧ i + 7 ≤ (L : Int)) (kz : ∀ ad σ, R σ → Z κ (cs.1 + 2, cs.2 + 84) Q 2170 [(0, .ref b), (1, vo ad 11 (some 0)), (2, vo ad 12 (some 0)), (3, vi i)] [] ad σ) : ∀ ad σ, R σ → Z κ cs Q 1731 [(0, .ref b), (1, vo ad 11 (some 0)), (2, vo ad 12 (some 0)), (3, vi i)] [] ad σ := by
  intro ad σ hR
  refine z_sf T (fun hSF => ?_)
  have hii : inr i := by constructor <;> omega
  have hc0 : csOK κ cs := csOK_le hcs (by omega) (by omega)
  refine z_aload_n C 1 dL_law_1731 rfl ?_
  refine z_aloadR C 0 dL_law_1732 rfl ?_
  refine z_iload_n C 3 dL_law_1733 rfl ?_
  refine z_iconst C dL_law_1734 ?_
  refine z_iadd C dL_law_1735 ?_
  refine z_sld C hX (x := i + 1) (by constructor <;> omega) (by omega) dL_law_1736 ?_
  show Z κ cs Q 1737 _ [vi (sc xs i 1), vo ad 11 (some 0)] ad σ
  refine z_aloadR C 0 dL_law_1737 rfl ?_
  refine z_iload_n C 3 dL_law_1738 rfl ?_
  refine z_iconst C dL_law_1739 ?_
  refine z_iadd C dL_law_1740 ?_
  refine z_sld C hX (x := i + 2) (by constructor <;> omega) (by omega) dL_law_1741 ?_
  show Z κ cs Q 1742 _ [vi (sc xs i 2), vi (sc xs i 1), vo ad 11 (some 0)] ad σ
  refine z_aloadR C 0 dL_law_1742 rfl ?_
  refine z_iload_n C 3 dL_law_1743 rfl ?_
  refine z_iconst C dL_law_1744 ?_
  refine z_iadd C dL_law_1745 ?_
  refine z_sld C hX (x := i + 3) (by constructor <;> omega) (by omega) dL_law_1746 ?_
  show Z κ cs Q 1747 _ [vi (sc xs i 3), vi (sc xs i 2), vi (sc xs i 1), vo ad 11 (some 0)] ad σ
  have h := hO (sc xs i 1) (sc xs i 2) (sc xs i 3) inr_sc inr_sc inr_sc σ hSF hR
  refine z_cV (st := []) T C (ct_X11_reelAt (sc xs i 1) (sc xs i 2) (sc xs i 3) inr_sc inr_sc inr_sc) lm_L_175 lv_vX11_reelAt dL_law_1747 [vi (sc xs i 1), vi (sc xs i 2), vi (sc xs i 3)] rfl rfl rfl rfl rfl (sg_11 T) trivial (by decide) (Nat.le_of_ble_eq_true rfl) hc0 h (fun r1 σ1 hr1 eN0 h => ?_)
  show Z κ cs Q 1750 [(0, .ref b), (1, vo ad 11 (some 0)), (2, vo ad 12 (some 0)), (3, vi i)] [vi r1] ad σ1
  refine z_aload_n C 2 dL_law_1750 rfl ?_
  refine z_aloadR C 0 dL_law_1751 rfl ?_
  refine z_iload_n C 3 dL_law_1752 rfl ?_
  refine z_iconst C dL_law_1753 ?_
  refine z_iadd C dL_law_1754 ?_
  refine z_sld C hX (x := i + 1) (by constructor <;> omega) (by omega) dL_law_1755 ?_
  show Z κ cs Q 1756 _ [vi (sc xs i 1), vo ad 12 (some 0), vi r1] ad σ1
  refine z_aloadR C 0 dL_law_1756 rfl ?_
  refine z_iload_n C 3 dL_law_1757 rfl ?_
  refine z_iconst C dL_law_1758 ?_
  refine z_iadd C dL_law_1759 ?_
  refine z_sld C hX (x := i + 2) (by constructor <;> omega) (by omega) dL_law_1760 ?_
  show Z κ cs Q 1761 _ [vi (sc xs i 2), vi (sc xs i 1), vo ad 12 (some 0), vi r1] ad σ1
  refine z_aloadR C 0 dL_law_1761 rfl ?_
  refine z_iload_n C 3 dL_law_1762 rfl ?_
  refine z_iconst C dL_law_1763 ?_
  refine z_iadd C dL_law_1764 ?_
  refine z_sld C hX (x := i + 3) (by constructor <;> omega) (by omega) dL_law_1765 ?_
  show Z κ cs Q 1766 _ [vi (sc xs i 3), vi (sc xs i 2), vi (sc xs i 1), vo ad 12 (some 0), vi r1] ad σ1
  refine z_cV (st := [vi r1]) T C (ct_X12_reelAt (sc xs i 1) (sc xs i 2) (sc xs i 3) inr_sc inr_sc inr_sc) lm_L_178 lv_vX12_reelAt dL_law_1766 [vi (sc xs i 1), vi (sc xs i 2), vi (sc xs i 3)] rfl rfl rfl rfl rfl (sg_12 T) trivial (by decide) (Nat.le_of_ble_eq_true rfl) hc0 h (fun r2 σ2 hr2 eN1 h => ?_)
  show Z κ cs Q 1769 [(0, .ref b), (1, vo ad 11 (some 0)), (2, vo ad 12 (some 0)), (3, vi i)] [vi r2, vi r1] ad σ2
  obtain ⟨⟨he, hR2⟩, -⟩ := wpO_ckp.mp h
  refine z_icmp_eq C 2170 hr1 hr2 dL_law_1769 (by decide) (fun q => ?_) (fun q => absurd he q)
  refine z_widen (k := cs.1 + 2) (n := cs.2 + 84) (by show _ ≤ _; omega) (by show _ ≤ _; omega) ?_
  exact kz _ _ hR2
set_option maxRecDepth 20000 in
set_option maxHeartbeats 4000000 in
theorem lawc_38 {κ : Cxt} {R : St → Prop} {b L : Nat} {xs : Nat → Int32} {cs : Nat × Nat} {Q : State → Prop} (C : Cx κ RL cL_law 4 ret 11) (T : isT κ) (hcs : csOK κ (cs.1 + 2, cs.2 + 84)) (hX : scX κ b L xs) (hO : OP38 R) {i : Int} (hL : L ≤ 3584) (hi : 0 ≤ i ∧ i + 7 ≤ (L : Int)) (kz : ∀ ad σ, R σ → Z κ (cs.1 + 2, cs.2 + 84) Q 2170 [(0, .ref b), (1, vo ad 11 (some 0)), (2, vo ad 12 (some 0)), (3, vi i)] [] ad σ) : ∀ ad σ, R σ → Z κ cs Q 1774 [(0, .ref b), (1, vo ad 11 (some 0)), (2, vo ad 12 (some 0)), (3, vi i)] [] ad σ := by
  intro ad σ hR
  refine z_sf T (fun hSF => ?_)
  have hii : inr i := by constructor <;> omega
  have hc0 : csOK κ cs := csOK_le hcs (by omega) (by omega)
  refine z_aload_n C 1 dL_law_1774 rfl ?_
  refine z_aloadR C 0 dL_law_1775 rfl ?_
  refine z_iload_n C 3 dL_law_1776 rfl ?_
  refine z_iconst C dL_law_1777 ?_
  refine z_iadd C dL_law_1778 ?_
  refine z_sld C hX (x := i + 1) (by constructor <;> omega) (by omega) dL_law_1779 ?_
  show Z κ cs Q 1780 _ [vi (sc xs i 1), vo ad 11 (some 0)] ad σ
  refine z_aloadR C 0 dL_law_1780 rfl ?_
  refine z_iload_n C 3 dL_law_1781 rfl ?_
  refine z_iconst C dL_law_1782 ?_
  refine z_iadd C dL_law_1783 ?_
  refine z_sld C hX (x := i + 2) (by constructor <;> omega) (by omega) dL_law_1784 ?_
  show Z κ cs Q 1785 _ [vi (sc xs i 2), vi (sc xs i 1), vo ad 11 (some 0)] ad σ
  refine z_aloadR C 0 dL_law_1785 rfl ?_
  refine z_iload_n C 3 dL_law_1786 rfl ?_
  refine z_iconst C dL_law_1787 ?_
  refine z_iadd C dL_law_1788 ?_
  refine z_sld C hX (x := i + 3) (by constructor <;> omega) (by omega) dL_law_1789 ?_
  show Z κ cs Q 1790 _ [vi (sc xs i 3), vi (sc xs i 2), vi (sc xs i 1), vo ad 11 (some 0)] ad σ
  refine z_i2l C inr_sc dL_law_1790 ?_
  refine z_bipush C dL_law_1791 (by decide) ?_
  refine z_lshl C dL_law_1793 ?_
  refine z_aloadR C 0 dL_law_1794 rfl ?_
  refine z_iload_n C 3 dL_law_1795 rfl ?_
  refine z_iconst C dL_law_1796 ?_
  refine z_iadd C dL_law_1797 ?_
  refine z_sld C hX (x := i + 4) (by constructor <;> omega) (by omega) dL_law_1798 ?_
  show Z κ cs Q 1799 _ [vi (sc xs i 4), vj (jshl (sc xs i 3) 32), vi (sc xs i 2), vi (sc xs i 1), vo ad 11 (some 0)] ad σ
  refine z_i2l C inr_sc dL_law_1799 ?_
  refine z_ldc2_w C lc_L_121 dL_law_1800 ?_
  refine z_land C dL_law_1803 ?_
  refine z_lor C dL_law_1804 ?_
  have h := hO (sc xs i 1) (sc xs i 2) (jor (jshl (sc xs i 3) 32) (jand (sc xs i 4) 4294967295)) inr_sc inr_sc (inq_jor _ _) σ hSF hR
  refine z_cV (st := []) T C (ct_X11_judge (sc xs i 1) (sc xs i 2) (jor (jshl (sc xs i 3) 32) (jand (sc xs i 4) 4294967295)) inr_sc inr_sc (inq_jor _ _)) lm_L_179 lv_vX11_judge dL_law_1805 [vi (sc xs i 1), vi (sc xs i 2), vj (jor (jshl (sc xs i 3) 32) (jand (sc xs i 4) 4294967295))] rfl rfl rfl rfl rfl (sg_11 T) trivial (by decide) (Nat.le_of_ble_eq_true rfl) hc0 h (fun r1 σ1 hr1 eN0 h => ?_)
  show Z κ cs Q 1808 [(0, .ref b), (1, vo ad 11 (some 0)), (2, vo ad 12 (some 0)), (3, vi i)] [vi r1] ad σ1
  refine z_aload_n C 2 dL_law_1808 rfl ?_
  refine z_aloadR C 0 dL_law_1809 rfl ?_
  refine z_iload_n C 3 dL_law_1810 rfl ?_
  refine z_iconst C dL_law_1811 ?_
  refine z_iadd C dL_law_1812 ?_
  refine z_sld C hX (x := i + 1) (by constructor <;> omega) (by omega) dL_law_1813 ?_
  show Z κ cs Q 1814 _ [vi (sc xs i 1), vo ad 12 (some 0), vi r1] ad σ1
  refine z_aloadR C 0 dL_law_1814 rfl ?_
  refine z_iload_n C 3 dL_law_1815 rfl ?_
  refine z_iconst C dL_law_1816 ?_
  refine z_iadd C dL_law_1817 ?_
  refine z_sld C hX (x := i + 2) (by constructor <;> omega) (by omega) dL_law_1818 ?_
  show Z κ cs Q 1819 _ [vi (sc xs i 2), vi (sc xs i 1), vo ad 12 (some 0), vi r1] ad σ1
  refine z_aloadR C 0 dL_law_1819 rfl ?_
  refine z_iload_n C 3 dL_law_1820 rfl ?_
  refine z_iconst C dL_law_1821 ?_
  refine z_iadd C dL_law_1822 ?_
  refine z_sld C hX (x := i + 3) (by constructor <;> omega) (by omega) dL_law_1823 ?_
  show Z κ cs Q 1824 _ [vi (sc xs i 3), vi (sc xs i 2), vi (sc xs i 1), vo ad 12 (some 0), vi r1] ad σ1
  refine z_i2l C inr_sc dL_law_1824 ?_
  refine z_bipush C dL_law_1825 (by decide) ?_
  refine z_lshl C dL_law_1827 ?_
  refine z_aloadR C 0 dL_law_1828 rfl ?_
  refine z_iload_n C 3 dL_law_1829 rfl ?_
  refine z_iconst C dL_law_1830 ?_
  refine z_iadd C dL_law_1831 ?_
  refine z_sld C hX (x := i + 4) (by constructor <;> omega) (by omega) dL_law_1832 ?_
  show Z κ cs Q 1833 _ [vi (sc xs i 4), vj (jshl (sc xs i 3) 32), vi (sc xs i 2), vi (sc xs i 1), vo ad 12 (some 0), vi r1] ad σ1
  refine z_i2l C inr_sc dL_law_1833 ?_
  refine z_ldc2_w C lc_L_121 dL_law_1834 ?_
  refine z_land C dL_law_1837 ?_
  refine z_lor C dL_law_1838 ?_
  refine z_cV (st := [vi r1]) T C (ct_X12_judge (sc xs i 1) (sc xs i 2) (jor (jshl (sc xs i 3) 32) (jand (sc xs i 4) 4294967295)) inr_sc inr_sc (inq_jor _ _)) lm_L_183 lv_vX12_judge dL_law_1839 [vi (sc xs i 1), vi (sc xs i 2), vj (jor (jshl (sc xs i 3) 32) (jand (sc xs i 4) 4294967295))] rfl rfl rfl rfl rfl (sg_12 T) trivial (by decide) (Nat.le_of_ble_eq_true rfl) hc0 h (fun r2 σ2 hr2 eN1 h => ?_)
  show Z κ cs Q 1842 [(0, .ref b), (1, vo ad 11 (some 0)), (2, vo ad 12 (some 0)), (3, vi i)] [vi r2, vi r1] ad σ2
  obtain ⟨⟨he, hR2⟩, -⟩ := wpO_ckp.mp h
  refine z_icmp_eq C 2170 hr1 hr2 dL_law_1842 (by decide) (fun q => ?_) (fun q => absurd he q)
  refine z_widen (k := cs.1 + 2) (n := cs.2 + 84) (by show _ ≤ _; omega) (by show _ ≤ _; omega) ?_
  exact kz _ _ hR2
set_option maxRecDepth 20000 in
set_option maxHeartbeats 4000000 in
theorem lawc_39 {κ : Cxt} {R : St → Prop} {b L : Nat} {xs : Nat → Int32} {cs : Nat × Nat} {Q : State → Prop} (C : Cx κ RL cL_law 4 ret 11) (T : isT κ) (hcs : csOK κ (cs.1 + 2, cs.2 + 84)) (hX : scX κ b L xs) (hO : OP39 R) {i : Int} (hL : L ≤ 3584) (hi : 0 ≤ i ∧ i + 7 ≤ (L : Int)) (kz : ∀ ad σ, R σ → Z κ (cs.1 + 2, cs.2 + 84) Q 2170 [(0, .ref b), (1, vo ad 11 (some 0)), (2, vo ad 12 (some 0)), (3, vi i)] [] ad σ) : ∀ ad σ, R σ → Z κ cs Q 1847 [(0, .ref b), (1, vo ad 11 (some 0)), (2, vo ad 12 (some 0)), (3, vi i)] [] ad σ := by
  intro ad σ hR
  refine z_sf T (fun hSF => ?_)
  have hii : inr i := by constructor <;> omega
  have hc0 : csOK κ cs := csOK_le hcs (by omega) (by omega)
  refine z_aload_n C 1 dL_law_1847 rfl ?_
  refine z_aloadR C 0 dL_law_1848 rfl ?_
  refine z_iload_n C 3 dL_law_1849 rfl ?_
  refine z_iconst C dL_law_1850 ?_
  refine z_iadd C dL_law_1851 ?_
  refine z_sld C hX (x := i + 1) (by constructor <;> omega) (by omega) dL_law_1852 ?_
  show Z κ cs Q 1853 _ [vi (sc xs i 1), vo ad 11 (some 0)] ad σ
  refine z_aloadR C 0 dL_law_1853 rfl ?_
  refine z_iload_n C 3 dL_law_1854 rfl ?_
  refine z_iconst C dL_law_1855 ?_
  refine z_iadd C dL_law_1856 ?_
  refine z_sld C hX (x := i + 2) (by constructor <;> omega) (by omega) dL_law_1857 ?_
  show Z κ cs Q 1858 _ [vi (sc xs i 2), vi (sc xs i 1), vo ad 11 (some 0)] ad σ
  have h := hO (sc xs i 1) (sc xs i 2) inr_sc inr_sc σ hSF hR
  refine z_cV (st := []) T C (ct_X11_show (sc xs i 1) (sc xs i 2) inr_sc inr_sc) lm_L_184 lv_vX11_show dL_law_1858 [vi (sc xs i 1), vi (sc xs i 2)] rfl rfl rfl rfl rfl (sg_11 T) trivial (by decide) (Nat.le_of_ble_eq_true rfl) hc0 h (fun r1 σ1 hr1 eN0 h => ?_)
  show Z κ cs Q 1861 [(0, .ref b), (1, vo ad 11 (some 0)), (2, vo ad 12 (some 0)), (3, vi i)] [vi r1] ad σ1
  refine z_aload_n C 2 dL_law_1861 rfl ?_
  refine z_aloadR C 0 dL_law_1862 rfl ?_
  refine z_iload_n C 3 dL_law_1863 rfl ?_
  refine z_iconst C dL_law_1864 ?_
  refine z_iadd C dL_law_1865 ?_
  refine z_sld C hX (x := i + 1) (by constructor <;> omega) (by omega) dL_law_1866 ?_
  show Z κ cs Q 1867 _ [vi (sc xs i 1), vo ad 12 (some 0), vi r1] ad σ1
  refine z_aloadR C 0 dL_law_1867 rfl ?_
  refine z_iload_n C 3 dL_law_1868 rfl ?_
  refine z_iconst C dL_law_1869 ?_
  refine z_iadd C dL_law_1870 ?_
  refine z_sld C hX (x := i + 2) (by constructor <;> omega) (by omega) dL_law_1871 ?_
  show Z κ cs Q 1872 _ [vi (sc xs i 2), vi (sc xs i 1), vo ad 12 (some 0), vi r1] ad σ1
  refine z_cV (st := [vi r1]) T C (ct_X12_show (sc xs i 1) (sc xs i 2) inr_sc inr_sc) lm_L_187 lv_vX12_show dL_law_1872 [vi (sc xs i 1), vi (sc xs i 2)] rfl rfl rfl rfl rfl (sg_12 T) trivial (by decide) (Nat.le_of_ble_eq_true rfl) hc0 h (fun r2 σ2 hr2 eN1 h => ?_)
  show Z κ cs Q 1875 [(0, .ref b), (1, vo ad 11 (some 0)), (2, vo ad 12 (some 0)), (3, vi i)] [vi r2, vi r1] ad σ2
  obtain ⟨⟨he, hR2⟩, -⟩ := wpO_ckp.mp h
  refine z_icmp_eq C 2170 hr1 hr2 dL_law_1875 (by decide) (fun q => ?_) (fun q => absurd he q)
  refine z_widen (k := cs.1 + 2) (n := cs.2 + 84) (by show _ ≤ _; omega) (by show _ ≤ _; omega) ?_
  exact kz _ _ hR2
set_option maxRecDepth 20000 in
set_option maxHeartbeats 4000000 in
theorem lawc_40 {κ : Cxt} {R : St → Prop} {b L : Nat} {xs : Nat → Int32} {cs : Nat × Nat} {Q : State → Prop} (C : Cx κ RL cL_law 4 ret 11) (T : isT κ) (hcs : csOK κ (cs.1 + 2, cs.2 + 84)) (hX : scX κ b L xs) (hO : OP40 R) {i : Int} (hL : L ≤ 3584) (hi : 0 ≤ i ∧ i + 7 ≤ (L : Int)) (kz : ∀ ad σ, R σ → Z κ (cs.1 + 2, cs.2 + 84) Q 2170 [(0, .ref b), (1, vo ad 11 (some 0)), (2, vo ad 12 (some 0)), (3, vi i)] [] ad σ) : ∀ ad σ, R σ → Z κ cs Q 1880 [(0, .ref b), (1, vo ad 11 (some 0)), (2, vo ad 12 (some 0)), (3, vi i)] [] ad σ := by
  intro ad σ hR
  refine z_sf T (fun hSF => ?_)
  have hii : inr i := by constructor <;> omega
  have hc0 : csOK κ cs := csOK_le hcs (by omega) (by omega)
  refine z_aload_n C 1 dL_law_1880 rfl ?_
  refine z_aloadR C 0 dL_law_1881 rfl ?_
  refine z_iload_n C 3 dL_law_1882 rfl ?_
  refine z_iconst C dL_law_1883 ?_
  refine z_iadd C dL_law_1884 ?_
  refine z_sld C hX (x := i + 1) (by constructor <;> omega) (by omega) dL_law_1885 ?_
  show Z κ cs Q 1886 _ [vi (sc xs i 1), vo ad 11 (some 0)] ad σ
  refine z_aloadR C 0 dL_law_1886 rfl ?_
  refine z_iload_n C 3 dL_law_1887 rfl ?_
  refine z_iconst C dL_law_1888 ?_
  refine z_iadd C dL_law_1889 ?_
  refine z_sld C hX (x := i + 2) (by constructor <;> omega) (by omega) dL_law_1890 ?_
  show Z κ cs Q 1891 _ [vi (sc xs i 2), vi (sc xs i 1), vo ad 11 (some 0)] ad σ
  refine z_aloadR C 0 dL_law_1891 rfl ?_
  refine z_iload_n C 3 dL_law_1892 rfl ?_
  refine z_iconst C dL_law_1893 ?_
  refine z_iadd C dL_law_1894 ?_
  refine z_sld C hX (x := i + 3) (by constructor <;> omega) (by omega) dL_law_1895 ?_
  show Z κ cs Q 1896 _ [vi (sc xs i 3), vi (sc xs i 2), vi (sc xs i 1), vo ad 11 (some 0)] ad σ
  have h := hO (sc xs i 1) (sc xs i 2) (sc xs i 3) inr_sc inr_sc inr_sc σ hSF hR
  refine z_cV (st := []) T C (ct_X11_man (sc xs i 1) (sc xs i 2) (sc xs i 3) inr_sc inr_sc inr_sc) lm_L_188 lv_vX11_man dL_law_1896 [vi (sc xs i 1), vi (sc xs i 2), vi (sc xs i 3)] rfl rfl rfl rfl rfl (sg_11 T) trivial (by decide) (Nat.le_of_ble_eq_true rfl) hc0 h (fun r1 σ1 hr1 eN0 h => ?_)
  show Z κ cs Q 1899 [(0, .ref b), (1, vo ad 11 (some 0)), (2, vo ad 12 (some 0)), (3, vi i)] [vi r1] ad σ1
  refine z_aload_n C 2 dL_law_1899 rfl ?_
  refine z_aloadR C 0 dL_law_1900 rfl ?_
  refine z_iload_n C 3 dL_law_1901 rfl ?_
  refine z_iconst C dL_law_1902 ?_
  refine z_iadd C dL_law_1903 ?_
  refine z_sld C hX (x := i + 1) (by constructor <;> omega) (by omega) dL_law_1904 ?_
  show Z κ cs Q 1905 _ [vi (sc xs i 1), vo ad 12 (some 0), vi r1] ad σ1
  refine z_aloadR C 0 dL_law_1905 rfl ?_
  refine z_iload_n C 3 dL_law_1906 rfl ?_
  refine z_iconst C dL_law_1907 ?_
  refine z_iadd C dL_law_1908 ?_
  refine z_sld C hX (x := i + 2) (by constructor <;> omega) (by omega) dL_law_1909 ?_
  show Z κ cs Q 1910 _ [vi (sc xs i 2), vi (sc xs i 1), vo ad 12 (some 0), vi r1] ad σ1
  refine z_aloadR C 0 dL_law_1910 rfl ?_
  refine z_iload_n C 3 dL_law_1911 rfl ?_
  refine z_iconst C dL_law_1912 ?_
  refine z_iadd C dL_law_1913 ?_
  refine z_sld C hX (x := i + 3) (by constructor <;> omega) (by omega) dL_law_1914 ?_
  show Z κ cs Q 1915 _ [vi (sc xs i 3), vi (sc xs i 2), vi (sc xs i 1), vo ad 12 (some 0), vi r1] ad σ1
  refine z_cV (st := [vi r1]) T C (ct_X12_man (sc xs i 1) (sc xs i 2) (sc xs i 3) inr_sc inr_sc inr_sc) lm_L_191 lv_vX12_man dL_law_1915 [vi (sc xs i 1), vi (sc xs i 2), vi (sc xs i 3)] rfl rfl rfl rfl rfl (sg_12 T) trivial (by decide) (Nat.le_of_ble_eq_true rfl) hc0 h (fun r2 σ2 hr2 eN1 h => ?_)
  show Z κ cs Q 1918 [(0, .ref b), (1, vo ad 11 (some 0)), (2, vo ad 12 (some 0)), (3, vi i)] [vi r2, vi r1] ad σ2
  obtain ⟨⟨he, hR2⟩, -⟩ := wpO_ckp.mp h
  refine z_icmp_eq C 2170 hr1 hr2 dL_law_1918 (by decide) (fun q => ?_) (fun q => absurd he q)
  refine z_widen (k := cs.1 + 2) (n := cs.2 + 84) (by show _ ≤ _; omega) (by show _ ≤ _; omega) ?_
  exact kz _ _ hR2
set_option maxRecDepth 20000 in
set_option maxHeartbeats 4000000 in
theorem lawc_41 {κ : Cxt} {R : St → Prop} {b L : Nat} {xs : Nat → Int32} {cs : Nat × Nat} {Q : State → Prop} (C : Cx κ RL cL_law 4 ret 11) (T : isT κ) (hcs : csOK κ (cs.1 + 2, cs.2 + 84)) (hX : scX κ b L xs) (hO : OP41 R) {i : Int} (hL : L ≤ 3584) (hi : 0 ≤ i ∧ i + 7 ≤ (L : Int)) (kz : ∀ ad σ, R σ → Z κ (cs.1 + 2, cs.2 + 84) Q 2170 [(0, .ref b), (1, vo ad 11 (some 0)), (2, vo ad 12 (some 0)), (3, vi i)] [] ad σ) : ∀ ad σ, R σ → Z κ cs Q 1923 [(0, .ref b), (1, vo ad 11 (some 0)), (2, vo ad 12 (some 0)), (3, vi i)] [] ad σ := by
  intro ad σ hR
  refine z_sf T (fun hSF => ?_)
  have hii : inr i := by constructor <;> omega
  have hc0 : csOK κ cs := csOK_le hcs (by omega) (by omega)
  refine z_aload_n C 1 dL_law_1923 rfl ?_
  refine z_aloadR C 0 dL_law_1924 rfl ?_
  refine z_iload_n C 3 dL_law_1925 rfl ?_
  refine z_iconst C dL_law_1926 ?_
  refine z_iadd C dL_law_1927 ?_
  refine z_sld C hX (x := i + 1) (by constructor <;> omega) (by omega) dL_law_1928 ?_
  show Z κ cs Q 1929 _ [vi (sc xs i 1), vo ad 11 (some 0)] ad σ
  refine z_aloadR C 0 dL_law_1929 rfl ?_
  refine z_iload_n C 3 dL_law_1930 rfl ?_
  refine z_iconst C dL_law_1931 ?_
  refine z_iadd C dL_law_1932 ?_
  refine z_sld C hX (x := i + 2) (by constructor <;> omega) (by omega) dL_law_1933 ?_
  show Z κ cs Q 1934 _ [vi (sc xs i 2), vi (sc xs i 1), vo ad 11 (some 0)] ad σ
  refine z_aloadR C 0 dL_law_1934 rfl ?_
  refine z_iload_n C 3 dL_law_1935 rfl ?_
  refine z_iconst C dL_law_1936 ?_
  refine z_iadd C dL_law_1937 ?_
  refine z_sld C hX (x := i + 3) (by constructor <;> omega) (by omega) dL_law_1938 ?_
  show Z κ cs Q 1939 _ [vi (sc xs i 3), vi (sc xs i 2), vi (sc xs i 1), vo ad 11 (some 0)] ad σ
  have h := hO (sc xs i 1) (sc xs i 2) (sc xs i 3) inr_sc inr_sc inr_sc σ hSF hR
  refine z_cV (st := []) T C (ct_X11_event (sc xs i 1) (sc xs i 2) (sc xs i 3) inr_sc inr_sc inr_sc) lm_L_192 lv_vX11_event dL_law_1939 [vi (sc xs i 1), vi (sc xs i 2), vi (sc xs i 3)] rfl rfl rfl rfl rfl (sg_11 T) trivial (by decide) (Nat.le_of_ble_eq_true rfl) hc0 h (fun r1 σ1 hr1 eN0 h => ?_)
  show Z κ cs Q 1942 [(0, .ref b), (1, vo ad 11 (some 0)), (2, vo ad 12 (some 0)), (3, vi i)] [vi r1] ad σ1
  refine z_aload_n C 2 dL_law_1942 rfl ?_
  refine z_aloadR C 0 dL_law_1943 rfl ?_
  refine z_iload_n C 3 dL_law_1944 rfl ?_
  refine z_iconst C dL_law_1945 ?_
  refine z_iadd C dL_law_1946 ?_
  refine z_sld C hX (x := i + 1) (by constructor <;> omega) (by omega) dL_law_1947 ?_
  show Z κ cs Q 1948 _ [vi (sc xs i 1), vo ad 12 (some 0), vi r1] ad σ1
  refine z_aloadR C 0 dL_law_1948 rfl ?_
  refine z_iload_n C 3 dL_law_1949 rfl ?_
  refine z_iconst C dL_law_1950 ?_
  refine z_iadd C dL_law_1951 ?_
  refine z_sld C hX (x := i + 2) (by constructor <;> omega) (by omega) dL_law_1952 ?_
  show Z κ cs Q 1953 _ [vi (sc xs i 2), vi (sc xs i 1), vo ad 12 (some 0), vi r1] ad σ1
  refine z_aloadR C 0 dL_law_1953 rfl ?_
  refine z_iload_n C 3 dL_law_1954 rfl ?_
  refine z_iconst C dL_law_1955 ?_
  refine z_iadd C dL_law_1956 ?_
  refine z_sld C hX (x := i + 3) (by constructor <;> omega) (by omega) dL_law_1957 ?_
  show Z κ cs Q 1958 _ [vi (sc xs i 3), vi (sc xs i 2), vi (sc xs i 1), vo ad 12 (some 0), vi r1] ad σ1
  refine z_cV (st := [vi r1]) T C (ct_X12_event (sc xs i 1) (sc xs i 2) (sc xs i 3) inr_sc inr_sc inr_sc) lm_L_195 lv_vX12_event dL_law_1958 [vi (sc xs i 1), vi (sc xs i 2), vi (sc xs i 3)] rfl rfl rfl rfl rfl (sg_12 T) trivial (by decide) (Nat.le_of_ble_eq_true rfl) hc0 h (fun r2 σ2 hr2 eN1 h => ?_)
  show Z κ cs Q 1961 [(0, .ref b), (1, vo ad 11 (some 0)), (2, vo ad 12 (some 0)), (3, vi i)] [vi r2, vi r1] ad σ2
  obtain ⟨⟨he, hR2⟩, -⟩ := wpO_ckp.mp h
  refine z_icmp_eq C 2170 hr1 hr2 dL_law_1961 (by decide) (fun q => ?_) (fun q => absurd he q)
  refine z_widen (k := cs.1 + 2) (n := cs.2 + 84) (by show _ ≤ _; omega) (by show _ ≤ _; omega) ?_
  exact kz _ _ hR2
set_option maxRecDepth 20000 in
set_option maxHeartbeats 4000000 in
theorem lawc_42 {κ : Cxt} {R : St → Prop} {b L : Nat} {xs : Nat → Int32} {cs : Nat × Nat} {Q : State → Prop} (C : Cx κ RL cL_law 4 ret 11) (T : isT κ) (hcs : csOK κ (cs.1 + 2, cs.2 + 84)) (hX : scX κ b L xs) (hO : OP42 R) {i : Int} (hL : L ≤ 3584) (hi : 0 ≤ i ∧ i + 7 ≤ (L : Int)) (kz : ∀ ad σ, R σ → Z κ (cs.1 + 2, cs.2 + 84) Q 2170 [(0, .ref b), (1, vo ad 11 (some 0)), (2, vo ad 12 (some 0)), (3, vi i)] [] ad σ) : ∀ ad σ, R σ → Z κ cs Q 1966 [(0, .ref b), (1, vo ad 11 (some 0)), (2, vo ad 12 (some 0)), (3, vi i)] [] ad σ := by
  intro ad σ hR
  refine z_sf T (fun hSF => ?_)
  have hii : inr i := by constructor <;> omega
  have hc0 : csOK κ cs := csOK_le hcs (by omega) (by omega)
  refine z_aload_n C 1 dL_law_1966 rfl ?_
  have h := hO  σ hSF hR
  refine z_cV (st := []) T C ct_X11_cover lm_L_196 lv_vX11_cover dL_law_1967 [] rfl rfl rfl rfl rfl (sg_11 T) trivial (by decide) (Nat.le_of_ble_eq_true rfl) hc0 h (fun r1 σ1 hr1 eN0 h => ?_)
  show Z κ cs Q 1970 [(0, .ref b), (1, vo ad 11 (some 0)), (2, vo ad 12 (some 0)), (3, vi i)] [vi r1] ad σ1
  refine z_aload_n C 2 dL_law_1970 rfl ?_
  refine z_cV (st := [vi r1]) T C ct_X12_cover lm_L_199 lv_vX12_cover dL_law_1971 [] rfl rfl rfl rfl rfl (sg_12 T) trivial (by decide) (Nat.le_of_ble_eq_true rfl) hc0 h (fun r2 σ2 hr2 eN1 h => ?_)
  show Z κ cs Q 1974 [(0, .ref b), (1, vo ad 11 (some 0)), (2, vo ad 12 (some 0)), (3, vi i)] [vi r2, vi r1] ad σ2
  obtain ⟨⟨he, hR2⟩, -⟩ := wpO_ckp.mp h
  refine z_icmp_eq C 2170 hr1 hr2 dL_law_1974 (by decide) (fun q => ?_) (fun q => absurd he q)
  refine z_widen (k := cs.1 + 2) (n := cs.2 + 84) (by show _ ≤ _; omega) (by show _ ≤ _; omega) ?_
  exact kz _ _ hR2
set_option maxRecDepth 20000 in
set_option maxHeartbeats 4000000 in
theorem lawc_43 {κ : Cxt} {R : St → Prop} {b L : Nat} {xs : Nat → Int32} {cs : Nat × Nat} {Q : State → Prop} (C : Cx κ RL cL_law 4 ret 11) (T : isT κ) (hcs : csOK κ (cs.1 + 2, cs.2 + 84)) (hX : scX κ b L xs) (hO : OP43 R) {i : Int} (hL : L ≤ 3584) (hi : 0 ≤ i ∧ i + 7 ≤ (L : Int)) (kz : ∀ ad σ, R σ → Z κ (cs.1 + 2, cs.2 + 84) Q 2170 [(0, .ref b), (1, vo ad 11 (some 0)), (2, vo ad 12 (some 0)), (3, vi i)] [] ad σ) : ∀ ad σ, R σ → Z κ cs Q 1979 [(0, .ref b), (1, vo ad 11 (some 0)), (2, vo ad 12 (some 0)), (3, vi i)] [] ad σ := by
  intro ad σ hR
  refine z_sf T (fun hSF => ?_)
  have hii : inr i := by constructor <;> omega
  have hc0 : csOK κ cs := csOK_le hcs (by omega) (by omega)
  refine z_aload_n C 1 dL_law_1979 rfl ?_
  refine z_aloadR C 0 dL_law_1980 rfl ?_
  refine z_iload_n C 3 dL_law_1981 rfl ?_
  refine z_iconst C dL_law_1982 ?_
  refine z_iadd C dL_law_1983 ?_
  refine z_sld C hX (x := i + 1) (by constructor <;> omega) (by omega) dL_law_1984 ?_
  show Z κ cs Q 1985 _ [vi (sc xs i 1), vo ad 11 (some 0)] ad σ
  have h := hO (sc xs i 1) inr_sc σ hSF hR
  refine z_cV (st := []) T C (ct_X11_covered (sc xs i 1) inr_sc) lm_L_200 lv_vX11_covered dL_law_1985 [vi (sc xs i 1)] rfl rfl rfl rfl rfl (sg_11 T) trivial (by decide) (Nat.le_of_ble_eq_true rfl) hc0 h (fun r1 σ1 hr1 eN0 h => ?_)
  show Z κ cs Q 1988 [(0, .ref b), (1, vo ad 11 (some 0)), (2, vo ad 12 (some 0)), (3, vi i)] [vi r1] ad σ1
  refine z_aload_n C 2 dL_law_1988 rfl ?_
  refine z_aloadR C 0 dL_law_1989 rfl ?_
  refine z_iload_n C 3 dL_law_1990 rfl ?_
  refine z_iconst C dL_law_1991 ?_
  refine z_iadd C dL_law_1992 ?_
  refine z_sld C hX (x := i + 1) (by constructor <;> omega) (by omega) dL_law_1993 ?_
  show Z κ cs Q 1994 _ [vi (sc xs i 1), vo ad 12 (some 0), vi r1] ad σ1
  refine z_cV (st := [vi r1]) T C (ct_X12_covered (sc xs i 1) inr_sc) lm_L_203 lv_vX12_covered dL_law_1994 [vi (sc xs i 1)] rfl rfl rfl rfl rfl (sg_12 T) trivial (by decide) (Nat.le_of_ble_eq_true rfl) hc0 h (fun r2 σ2 hr2 eN1 h => ?_)
  show Z κ cs Q 1997 [(0, .ref b), (1, vo ad 11 (some 0)), (2, vo ad 12 (some 0)), (3, vi i)] [vi r2, vi r1] ad σ2
  obtain ⟨⟨he, hR2⟩, -⟩ := wpO_ckp.mp h
  refine z_icmp_eq C 2170 hr1 hr2 dL_law_1997 (by decide) (fun q => ?_) (fun q => absurd he q)
  refine z_widen (k := cs.1 + 2) (n := cs.2 + 84) (by show _ ≤ _; omega) (by show _ ≤ _; omega) ?_
  exact kz _ _ hR2
set_option maxRecDepth 20000 in
set_option maxHeartbeats 4000000 in
theorem lawc_44 {κ : Cxt} {R : St → Prop} {b L : Nat} {xs : Nat → Int32} {cs : Nat × Nat} {Q : State → Prop} (C : Cx κ RL cL_law 4 ret 11) (T : isT κ) (hcs : csOK κ (cs.1 + 2, cs.2 + 84)) (hX : scX κ b L xs) (hO : OP44 R) {i : Int} (hL : L ≤ 3584) (hi : 0 ≤ i ∧ i + 7 ≤ (L : Int)) (kz : ∀ ad σ, R σ → Z κ (cs.1 + 2, cs.2 + 84) Q 2170 [(0, .ref b), (1, vo ad 11 (some 0)), (2, vo ad 12 (some 0)), (3, vi i)] [] ad σ) : ∀ ad σ, R σ → Z κ cs Q 2002 [(0, .ref b), (1, vo ad 11 (some 0)), (2, vo ad 12 (some 0)), (3, vi i)] [] ad σ := by
  intro ad σ hR
  refine z_sf T (fun hSF => ?_)
  have hii : inr i := by constructor <;> omega
  have hc0 : csOK κ cs := csOK_le hcs (by omega) (by omega)
  refine z_aload_n C 1 dL_law_2002 rfl ?_
  refine z_aloadR C 0 dL_law_2003 rfl ?_
  refine z_iload_n C 3 dL_law_2004 rfl ?_
  refine z_iconst C dL_law_2005 ?_
  refine z_iadd C dL_law_2006 ?_
  refine z_sld C hX (x := i + 1) (by constructor <;> omega) (by omega) dL_law_2007 ?_
  show Z κ cs Q 2008 _ [vi (sc xs i 1), vo ad 11 (some 0)] ad σ
  refine z_aloadR C 0 dL_law_2008 rfl ?_
  refine z_iload_n C 3 dL_law_2009 rfl ?_
  refine z_iconst C dL_law_2010 ?_
  refine z_iadd C dL_law_2011 ?_
  refine z_sld C hX (x := i + 2) (by constructor <;> omega) (by omega) dL_law_2012 ?_
  show Z κ cs Q 2013 _ [vi (sc xs i 2), vi (sc xs i 1), vo ad 11 (some 0)] ad σ
  refine z_aloadR C 0 dL_law_2013 rfl ?_
  refine z_iload_n C 3 dL_law_2014 rfl ?_
  refine z_iconst C dL_law_2015 ?_
  refine z_iadd C dL_law_2016 ?_
  refine z_sld C hX (x := i + 3) (by constructor <;> omega) (by omega) dL_law_2017 ?_
  show Z κ cs Q 2018 _ [vi (sc xs i 3), vi (sc xs i 2), vi (sc xs i 1), vo ad 11 (some 0)] ad σ
  refine z_aloadR C 0 dL_law_2018 rfl ?_
  refine z_iload_n C 3 dL_law_2019 rfl ?_
  refine z_iconst C dL_law_2020 ?_
  refine z_iadd C dL_law_2021 ?_
  refine z_sld C hX (x := i + 4) (by constructor <;> omega) (by omega) dL_law_2022 ?_
  show Z κ cs Q 2023 _ [vi (sc xs i 4), vi (sc xs i 3), vi (sc xs i 2), vi (sc xs i 1), vo ad 11 (some 0)] ad σ
  have h := hO (sc xs i 1) (sc xs i 2) (sc xs i 3) (sc xs i 4) inr_sc inr_sc inr_sc inr_sc σ hSF hR
  refine z_cV (st := []) T C (ct_X11_hall (sc xs i 1) (sc xs i 2) (sc xs i 3) (sc xs i 4) inr_sc inr_sc inr_sc inr_sc) lm_L_204 lv_vX11_hall dL_law_2023 [vi (sc xs i 1), vi (sc xs i 2), vi (sc xs i 3), vi (sc xs i 4)] rfl rfl rfl rfl rfl (sg_11 T) trivial (by decide) (Nat.le_of_ble_eq_true rfl) hc0 h (fun r1 σ1 hr1 eN0 h => ?_)
  show Z κ cs Q 2026 [(0, .ref b), (1, vo ad 11 (some 0)), (2, vo ad 12 (some 0)), (3, vi i)] [vi r1] ad σ1
  refine z_aload_n C 2 dL_law_2026 rfl ?_
  refine z_aloadR C 0 dL_law_2027 rfl ?_
  refine z_iload_n C 3 dL_law_2028 rfl ?_
  refine z_iconst C dL_law_2029 ?_
  refine z_iadd C dL_law_2030 ?_
  refine z_sld C hX (x := i + 1) (by constructor <;> omega) (by omega) dL_law_2031 ?_
  show Z κ cs Q 2032 _ [vi (sc xs i 1), vo ad 12 (some 0), vi r1] ad σ1
  refine z_aloadR C 0 dL_law_2032 rfl ?_
  refine z_iload_n C 3 dL_law_2033 rfl ?_
  refine z_iconst C dL_law_2034 ?_
  refine z_iadd C dL_law_2035 ?_
  refine z_sld C hX (x := i + 2) (by constructor <;> omega) (by omega) dL_law_2036 ?_
  show Z κ cs Q 2037 _ [vi (sc xs i 2), vi (sc xs i 1), vo ad 12 (some 0), vi r1] ad σ1
  refine z_aloadR C 0 dL_law_2037 rfl ?_
  refine z_iload_n C 3 dL_law_2038 rfl ?_
  refine z_iconst C dL_law_2039 ?_
  refine z_iadd C dL_law_2040 ?_
  refine z_sld C hX (x := i + 3) (by constructor <;> omega) (by omega) dL_law_2041 ?_
  show Z κ cs Q 2042 _ [vi (sc xs i 3), vi (sc xs i 2), vi (sc xs i 1), vo ad 12 (some 0), vi r1] ad σ1
  refine z_aloadR C 0 dL_law_2042 rfl ?_
  refine z_iload_n C 3 dL_law_2043 rfl ?_
  refine z_iconst C dL_law_2044 ?_
  refine z_iadd C dL_law_2045 ?_
  refine z_sld C hX (x := i + 4) (by constructor <;> omega) (by omega) dL_law_2046 ?_
  show Z κ cs Q 2047 _ [vi (sc xs i 4), vi (sc xs i 3), vi (sc xs i 2), vi (sc xs i 1), vo ad 12 (some 0), vi r1] ad σ1
  refine z_cV (st := [vi r1]) T C (ct_X12_hall (sc xs i 1) (sc xs i 2) (sc xs i 3) (sc xs i 4) inr_sc inr_sc inr_sc inr_sc) lm_L_207 lv_vX12_hall dL_law_2047 [vi (sc xs i 1), vi (sc xs i 2), vi (sc xs i 3), vi (sc xs i 4)] rfl rfl rfl rfl rfl (sg_12 T) trivial (by decide) (Nat.le_of_ble_eq_true rfl) hc0 h (fun r2 σ2 hr2 eN1 h => ?_)
  show Z κ cs Q 2050 [(0, .ref b), (1, vo ad 11 (some 0)), (2, vo ad 12 (some 0)), (3, vi i)] [vi r2, vi r1] ad σ2
  obtain ⟨⟨he, hR2⟩, -⟩ := wpO_ckp.mp h
  refine z_icmp_eq C 2170 hr1 hr2 dL_law_2050 (by decide) (fun q => ?_) (fun q => absurd he q)
  refine z_widen (k := cs.1 + 2) (n := cs.2 + 84) (by show _ ≤ _; omega) (by show _ ≤ _; omega) ?_
  exact kz _ _ hR2
set_option maxRecDepth 20000 in
set_option maxHeartbeats 4000000 in
theorem lawc_45 {κ : Cxt} {R : St → Prop} {b L : Nat} {xs : Nat → Int32} {cs : Nat × Nat} {Q : State → Prop} (C : Cx κ RL cL_law 4 ret 11) (T : isT κ) (hcs : csOK κ (cs.1 + 2, cs.2 + 84)) (hX : scX κ b L xs) (hO : OP45 R) {i : Int} (hL : L ≤ 3584) (hi : 0 ≤ i ∧ i + 7 ≤ (L : Int)) (kz : ∀ ad σ, R σ → Z κ (cs.1 + 2, cs.2 + 84) Q 2170 [(0, .ref b), (1, vo ad 11 (some 0)), (2, vo ad 12 (some 0)), (3, vi i)] [] ad σ) : ∀ ad σ, R σ → Z κ cs Q 2055 [(0, .ref b), (1, vo ad 11 (some 0)), (2, vo ad 12 (some 0)), (3, vi i)] [] ad σ := by
  intro ad σ hR
  refine z_sf T (fun hSF => ?_)
  have hii : inr i := by constructor <;> omega
  have hc0 : csOK κ cs := csOK_le hcs (by omega) (by omega)
  refine z_aload_n C 1 dL_law_2055 rfl ?_
  refine z_aloadR C 0 dL_law_2056 rfl ?_
  refine z_iload_n C 3 dL_law_2057 rfl ?_
  refine z_iconst C dL_law_2058 ?_
  refine z_iadd C dL_law_2059 ?_
  refine z_sld C hX (x := i + 1) (by constructor <;> omega) (by omega) dL_law_2060 ?_
  show Z κ cs Q 2061 _ [vi (sc xs i 1), vo ad 11 (some 0)] ad σ
  refine z_aloadR C 0 dL_law_2061 rfl ?_
  refine z_iload_n C 3 dL_law_2062 rfl ?_
  refine z_iconst C dL_law_2063 ?_
  refine z_iadd C dL_law_2064 ?_
  refine z_sld C hX (x := i + 2) (by constructor <;> omega) (by omega) dL_law_2065 ?_
  show Z κ cs Q 2066 _ [vi (sc xs i 2), vi (sc xs i 1), vo ad 11 (some 0)] ad σ
  have h := hO (sc xs i 1) (sc xs i 2) inr_sc inr_sc σ hSF hR
  refine z_cV (st := []) T C (ct_X11_part (sc xs i 1) (sc xs i 2) inr_sc inr_sc) lm_L_208 lv_vX11_part dL_law_2066 [vi (sc xs i 1), vi (sc xs i 2)] rfl rfl rfl rfl rfl (sg_11 T) trivial (by decide) (Nat.le_of_ble_eq_true rfl) hc0 h (fun r1 σ1 hr1 eN0 h => ?_)
  show Z κ cs Q 2069 [(0, .ref b), (1, vo ad 11 (some 0)), (2, vo ad 12 (some 0)), (3, vi i)] [vi r1] ad σ1
  refine z_aload_n C 2 dL_law_2069 rfl ?_
  refine z_aloadR C 0 dL_law_2070 rfl ?_
  refine z_iload_n C 3 dL_law_2071 rfl ?_
  refine z_iconst C dL_law_2072 ?_
  refine z_iadd C dL_law_2073 ?_
  refine z_sld C hX (x := i + 1) (by constructor <;> omega) (by omega) dL_law_2074 ?_
  show Z κ cs Q 2075 _ [vi (sc xs i 1), vo ad 12 (some 0), vi r1] ad σ1
  refine z_aloadR C 0 dL_law_2075 rfl ?_
  refine z_iload_n C 3 dL_law_2076 rfl ?_
  refine z_iconst C dL_law_2077 ?_
  refine z_iadd C dL_law_2078 ?_
  refine z_sld C hX (x := i + 2) (by constructor <;> omega) (by omega) dL_law_2079 ?_
  show Z κ cs Q 2080 _ [vi (sc xs i 2), vi (sc xs i 1), vo ad 12 (some 0), vi r1] ad σ1
  refine z_cV (st := [vi r1]) T C (ct_X12_part (sc xs i 1) (sc xs i 2) inr_sc inr_sc) lm_L_211 lv_vX12_part dL_law_2080 [vi (sc xs i 1), vi (sc xs i 2)] rfl rfl rfl rfl rfl (sg_12 T) trivial (by decide) (Nat.le_of_ble_eq_true rfl) hc0 h (fun r2 σ2 hr2 eN1 h => ?_)
  show Z κ cs Q 2083 [(0, .ref b), (1, vo ad 11 (some 0)), (2, vo ad 12 (some 0)), (3, vi i)] [vi r2, vi r1] ad σ2
  obtain ⟨⟨he, hR2⟩, -⟩ := wpO_ckp.mp h
  refine z_icmp_eq C 2170 hr1 hr2 dL_law_2083 (by decide) (fun q => ?_) (fun q => absurd he q)
  refine z_widen (k := cs.1 + 2) (n := cs.2 + 84) (by show _ ≤ _; omega) (by show _ ≤ _; omega) ?_
  exact kz _ _ hR2
set_option maxRecDepth 20000 in
set_option maxHeartbeats 4000000 in
theorem lawc_46 {κ : Cxt} {R : St → Prop} {b L : Nat} {xs : Nat → Int32} {cs : Nat × Nat} {Q : State → Prop} (C : Cx κ RL cL_law 4 ret 11) (T : isT κ) (hcs : csOK κ (cs.1 + 2, cs.2 + 84)) (hX : scX κ b L xs) (hO : OP46 R) {i : Int} (hL : L ≤ 3584) (hi : 0 ≤ i ∧ i + 7 ≤ (L : Int)) (kz : ∀ ad σ, R σ → Z κ (cs.1 + 2, cs.2 + 84) Q 2170 [(0, .ref b), (1, vo ad 11 (some 0)), (2, vo ad 12 (some 0)), (3, vi i)] [] ad σ) : ∀ ad σ, R σ → Z κ cs Q 2088 [(0, .ref b), (1, vo ad 11 (some 0)), (2, vo ad 12 (some 0)), (3, vi i)] [] ad σ := by
  intro ad σ hR
  refine z_sf T (fun hSF => ?_)
  have hii : inr i := by constructor <;> omega
  have hc0 : csOK κ cs := csOK_le hcs (by omega) (by omega)
  refine z_aload_n C 1 dL_law_2088 rfl ?_
  refine z_aloadR C 0 dL_law_2089 rfl ?_
  refine z_iload_n C 3 dL_law_2090 rfl ?_
  refine z_iconst C dL_law_2091 ?_
  refine z_iadd C dL_law_2092 ?_
  refine z_sld C hX (x := i + 1) (by constructor <;> omega) (by omega) dL_law_2093 ?_
  show Z κ cs Q 2094 _ [vi (sc xs i 1), vo ad 11 (some 0)] ad σ
  have h := hO (sc xs i 1) inr_sc σ hSF hR
  refine z_cV (st := []) T C (ct_X11_prints (sc xs i 1) inr_sc) lm_L_212 lv_vX11_prints dL_law_2094 [vi (sc xs i 1)] rfl rfl rfl rfl rfl (sg_11 T) trivial (by decide) (Nat.le_of_ble_eq_true rfl) hc0 h (fun r1 σ1 hr1 eN0 h => ?_)
  show Z κ cs Q 2097 [(0, .ref b), (1, vo ad 11 (some 0)), (2, vo ad 12 (some 0)), (3, vi i)] [vi r1] ad σ1
  refine z_aload_n C 2 dL_law_2097 rfl ?_
  refine z_aloadR C 0 dL_law_2098 rfl ?_
  refine z_iload_n C 3 dL_law_2099 rfl ?_
  refine z_iconst C dL_law_2100 ?_
  refine z_iadd C dL_law_2101 ?_
  refine z_sld C hX (x := i + 1) (by constructor <;> omega) (by omega) dL_law_2102 ?_
  show Z κ cs Q 2103 _ [vi (sc xs i 1), vo ad 12 (some 0), vi r1] ad σ1
  refine z_cV (st := [vi r1]) T C (ct_X12_prints (sc xs i 1) inr_sc) lm_L_215 lv_vX12_prints dL_law_2103 [vi (sc xs i 1)] rfl rfl rfl rfl rfl (sg_12 T) trivial (by decide) (Nat.le_of_ble_eq_true rfl) hc0 h (fun r2 σ2 hr2 eN1 h => ?_)
  show Z κ cs Q 2106 [(0, .ref b), (1, vo ad 11 (some 0)), (2, vo ad 12 (some 0)), (3, vi i)] [vi r2, vi r1] ad σ2
  obtain ⟨⟨he, hR2⟩, -⟩ := wpO_ckp.mp h
  refine z_icmp_eq C 2170 hr1 hr2 dL_law_2106 (by decide) (fun q => ?_) (fun q => absurd he q)
  refine z_widen (k := cs.1 + 2) (n := cs.2 + 84) (by show _ ≤ _; omega) (by show _ ≤ _; omega) ?_
  exact kz _ _ hR2
set_option maxRecDepth 20000 in
set_option maxHeartbeats 4000000 in
theorem lawc_47 {κ : Cxt} {R : St → Prop} {b L : Nat} {xs : Nat → Int32} {cs : Nat × Nat} {Q : State → Prop} (C : Cx κ RL cL_law 4 ret 11) (T : isT κ) (hcs : csOK κ (cs.1 + 2, cs.2 + 84)) (hX : scX κ b L xs) (hO : OP47 R) {i : Int} (hL : L ≤ 3584) (hi : 0 ≤ i ∧ i + 7 ≤ (L : Int)) (kz : ∀ ad σ, R σ → Z κ (cs.1 + 2, cs.2 + 84) Q 2170 [(0, .ref b), (1, vo ad 11 (some 0)), (2, vo ad 12 (some 0)), (3, vi i)] [] ad σ) : ∀ ad σ, R σ → Z κ cs Q 2111 [(0, .ref b), (1, vo ad 11 (some 0)), (2, vo ad 12 (some 0)), (3, vi i)] [] ad σ := by
  intro ad σ hR
  refine z_sf T (fun hSF => ?_)
  have hii : inr i := by constructor <;> omega
  have hc0 : csOK κ cs := csOK_le hcs (by omega) (by omega)
  refine z_aload_n C 1 dL_law_2111 rfl ?_
  have h := hO  σ hSF hR
  refine z_cV (st := []) T C ct_X11_run lm_L_216 lv_vX11_run dL_law_2112 [] rfl rfl rfl rfl rfl (sg_11 T) trivial (by decide) (Nat.le_of_ble_eq_true rfl) hc0 h (fun r1 σ1 hr1 eN0 h => ?_)
  show Z κ cs Q 2115 [(0, .ref b), (1, vo ad 11 (some 0)), (2, vo ad 12 (some 0)), (3, vi i)] [vi r1] ad σ1
  refine z_aload_n C 2 dL_law_2115 rfl ?_
  refine z_cV (st := [vi r1]) T C ct_X12_run lm_L_219 lv_vX12_run dL_law_2116 [] rfl rfl rfl rfl rfl (sg_12 T) trivial (by decide) (Nat.le_of_ble_eq_true rfl) hc0 h (fun r2 σ2 hr2 eN1 h => ?_)
  show Z κ cs Q 2119 [(0, .ref b), (1, vo ad 11 (some 0)), (2, vo ad 12 (some 0)), (3, vi i)] [vi r2, vi r1] ad σ2
  obtain ⟨⟨he, hR2⟩, -⟩ := wpO_ckp.mp h
  refine z_icmp_eq C 2170 hr1 hr2 dL_law_2119 (by decide) (fun q => ?_) (fun q => absurd he q)
  refine z_widen (k := cs.1 + 2) (n := cs.2 + 84) (by show _ ≤ _; omega) (by show _ ≤ _; omega) ?_
  exact kz _ _ hR2
set_option maxRecDepth 20000 in
set_option maxHeartbeats 4000000 in
theorem lawc_48 {κ : Cxt} {R : St → Prop} {b L : Nat} {xs : Nat → Int32} {cs : Nat × Nat} {Q : State → Prop} (C : Cx κ RL cL_law 4 ret 11) (T : isT κ) (hcs : csOK κ (cs.1 + 2, cs.2 + 84)) (hX : scX κ b L xs) (hO : OP48 R) {i : Int} (hL : L ≤ 3584) (hi : 0 ≤ i ∧ i + 7 ≤ (L : Int)) (kz : ∀ ad σ, R σ → Z κ (cs.1 + 2, cs.2 + 84) Q 2170 [(0, .ref b), (1, vo ad 11 (some 0)), (2, vo ad 12 (some 0)), (3, vi i)] [] ad σ) : ∀ ad σ, R σ → Z κ cs Q 2124 [(0, .ref b), (1, vo ad 11 (some 0)), (2, vo ad 12 (some 0)), (3, vi i)] [] ad σ := by
  intro ad σ hR
  refine z_sf T (fun hSF => ?_)
  have hii : inr i := by constructor <;> omega
  have hc0 : csOK κ cs := csOK_le hcs (by omega) (by omega)
  refine z_aload_n C 1 dL_law_2124 rfl ?_
  refine z_aloadR C 0 dL_law_2125 rfl ?_
  refine z_iload_n C 3 dL_law_2126 rfl ?_
  refine z_iconst C dL_law_2127 ?_
  refine z_iadd C dL_law_2128 ?_
  refine z_sld C hX (x := i + 1) (by constructor <;> omega) (by omega) dL_law_2129 ?_
  show Z κ cs Q 2130 _ [vi (sc xs i 1), vo ad 11 (some 0)] ad σ
  have h := hO (sc xs i 1) inr_sc σ hSF hR
  refine z_cV (st := []) T C (ct_X11_week (sc xs i 1) inr_sc) lm_L_220 lv_vX11_week dL_law_2130 [vi (sc xs i 1)] rfl rfl rfl rfl rfl (sg_11 T) trivial (by decide) (Nat.le_of_ble_eq_true rfl) hc0 h (fun r1 σ1 hr1 eN0 h => ?_)
  show Z κ cs Q 2133 [(0, .ref b), (1, vo ad 11 (some 0)), (2, vo ad 12 (some 0)), (3, vi i)] [vi r1] ad σ1
  refine z_aload_n C 2 dL_law_2133 rfl ?_
  refine z_aloadR C 0 dL_law_2134 rfl ?_
  refine z_iload_n C 3 dL_law_2135 rfl ?_
  refine z_iconst C dL_law_2136 ?_
  refine z_iadd C dL_law_2137 ?_
  refine z_sld C hX (x := i + 1) (by constructor <;> omega) (by omega) dL_law_2138 ?_
  show Z κ cs Q 2139 _ [vi (sc xs i 1), vo ad 12 (some 0), vi r1] ad σ1
  refine z_cV (st := [vi r1]) T C (ct_X12_week (sc xs i 1) inr_sc) lm_L_223 lv_vX12_week dL_law_2139 [vi (sc xs i 1)] rfl rfl rfl rfl rfl (sg_12 T) trivial (by decide) (Nat.le_of_ble_eq_true rfl) hc0 h (fun r2 σ2 hr2 eN1 h => ?_)
  show Z κ cs Q 2142 [(0, .ref b), (1, vo ad 11 (some 0)), (2, vo ad 12 (some 0)), (3, vi i)] [vi r2, vi r1] ad σ2
  obtain ⟨⟨he, hR2⟩, -⟩ := wpO_ckp.mp h
  refine z_icmp_eq C 2170 hr1 hr2 dL_law_2142 (by decide) (fun q => ?_) (fun q => absurd he q)
  refine z_widen (k := cs.1 + 2) (n := cs.2 + 84) (by show _ ≤ _; omega) (by show _ ≤ _; omega) ?_
  exact kz _ _ hR2
set_option maxRecDepth 20000 in
set_option maxHeartbeats 4000000 in
theorem lawc_49 {κ : Cxt} {R : St → Prop} {b L : Nat} {xs : Nat → Int32} {cs : Nat × Nat} {Q : State → Prop} (C : Cx κ RL cL_law 4 ret 11) (T : isT κ) (hcs : csOK κ (cs.1 + 2, cs.2 + 84)) (hX : scX κ b L xs) (hO : OP49 R) {i : Int} (hL : L ≤ 3584) (hi : 0 ≤ i ∧ i + 7 ≤ (L : Int)) (kz : ∀ ad σ, R σ → Z κ (cs.1 + 2, cs.2 + 84) Q 2170 [(0, .ref b), (1, vo ad 11 (some 0)), (2, vo ad 12 (some 0)), (3, vi i)] [] ad σ) : ∀ ad σ, R σ → Z κ cs Q 2147 [(0, .ref b), (1, vo ad 11 (some 0)), (2, vo ad 12 (some 0)), (3, vi i)] [] ad σ := by
  intro ad σ hR
  refine z_sf T (fun hSF => ?_)
  have hii : inr i := by constructor <;> omega
  have hc0 : csOK κ cs := csOK_le hcs (by omega) (by omega)
  refine z_aload_n C 1 dL_law_2147 rfl ?_
  refine z_aloadR C 0 dL_law_2148 rfl ?_
  refine z_iload_n C 3 dL_law_2149 rfl ?_
  refine z_iconst C dL_law_2150 ?_
  refine z_iadd C dL_law_2151 ?_
  refine z_sld C hX (x := i + 1) (by constructor <;> omega) (by omega) dL_law_2152 ?_
  show Z κ cs Q 2153 _ [vi (sc xs i 1), vo ad 11 (some 0)] ad σ
  have h := hO (sc xs i 1) inr_sc σ hSF hR
  refine z_cVp (st := []) T C (ct_X11_count (sc xs i 1) inr_sc) lm_L_224 lv_vX11_count dL_law_2153 [vi (sc xs i 1)] rfl rfl rfl rfl rfl (sg_11 T) trivial (by decide) (Nat.le_of_ble_eq_true rfl) hc0 h (fun r1 hr1 h => ?_)
  show Z κ cs Q 2156 [(0, .ref b), (1, vo ad 11 (some 0)), (2, vo ad 12 (some 0)), (3, vi i)] [vi r1] ad σ
  refine z_aload_n C 2 dL_law_2156 rfl ?_
  refine z_aloadR C 0 dL_law_2157 rfl ?_
  refine z_iload_n C 3 dL_law_2158 rfl ?_
  refine z_iconst C dL_law_2159 ?_
  refine z_iadd C dL_law_2160 ?_
  refine z_sld C hX (x := i + 1) (by constructor <;> omega) (by omega) dL_law_2161 ?_
  show Z κ cs Q 2162 _ [vi (sc xs i 1), vo ad 12 (some 0), vi r1] ad σ
  refine z_cVp (st := [vi r1]) T C (ct_X12_count (sc xs i 1) inr_sc) lm_L_227 lv_vX12_count dL_law_2162 [vi (sc xs i 1)] rfl rfl rfl rfl rfl (sg_12 T) trivial (by decide) (Nat.le_of_ble_eq_true rfl) hc0 h (fun r2 hr2 h => ?_)
  show Z κ cs Q 2165 [(0, .ref b), (1, vo ad 11 (some 0)), (2, vo ad 12 (some 0)), (3, vi i)] [vi r2, vi r1] ad σ
  obtain ⟨⟨he, hR2⟩, -⟩ := wpO_ckp.mp h
  refine z_icmp_eq C 2170 hr1 hr2 dL_law_2165 (by decide) (fun q => ?_) (fun q => absurd he q)
  refine z_widen (k := cs.1 + 2) (n := cs.2 + 84) (by show _ ≤ _; omega) (by show _ ≤ _; omega) ?_
  exact kz _ _ hR2
