/-! the law's cases -/
section ZL2
variable {p : Program} {l : Launch} {e : Env} {s : State} {m : MethodId} {below : List Frame} {meth : Method} {c : Code} {H : Heap} {locs : List Loc} {cells slots : Nat} {Q : State → Prop} {b L : Nat} {xs : Nat → Int32}
variable {ls : Array Slot} {D : va_G} {cI cR : ClassId} {ad1 ad2 : Nat → Nat} {hc hm : zz_H} {i : Nat}
theorem law_c0 (S : lw_S p s m c b L xs D cI cR ad1 ad2) (hL : L ≤ 3072) (hi : i + 6 ≤ L) (hcl : cells ≤ 600000) (hsl : slots ≤ 7302250) (hR : Rel hc hm) (I : lw_I s D cI cR ad1 ad2 hc hm H locs) (hl : lv_has ls 4 [(0, .ref b), (1, .ref (ad1 0)), (2, .ref (ad2 0)), (3, .int (nI i))]) (kk : ∀ (hc' hm' : zz_H) (H1 : Heap) (locs1 : List Loc), Rel hc' hm' → lw_I s D cI cR ad1 ad2 hc' hm' H1 locs1 → W p l e room_1 s m #[Value.ref b] below meth c H1 locs1 cells slots Q (F0 m 1688 ls [])) : W p l e room_1 s m #[Value.ref b] below meth c H locs cells slots Q (F0 m 248 ls []) := by
  have hx := S.1
  have hb := S.2.1
  refine lv_aload_n hx hb dL_248 rfl (lv_at hl 1 rfl) ?_
  refine zL_arg S I.2.2.2.2 hl hL 1 (by decide) (by omega) dL_249 dL_250 dL_251 dL_252 dL_253 ?_
  refine zL_arg S I.2.2.2.2 hl hL 2 (by decide) (by omega) dL_254 dL_255 dL_256 dL_257 dL_258 ?_
  refine zL_callC S I hl (ctX4_worth (xs (i + 1)) (xs (i + 2)) hc _ (op_worth hR (xs (i + 1)) (xs (i + 2)))) zy_X4_worth zm_L_13 (by decide) rfl rfl (by decide) hcl hsl dL_259 (fun r hc1 H1 locs1 hw I1 => ?_)
  refine lv_aload_n hx hb dL_262 rfl (lv_at hl 2 rfl) ?_
  refine zL_arg S I1.2.2.2.2 hl hL 1 (by decide) (by omega) dL_263 dL_264 dL_265 dL_266 dL_267 ?_
  refine zL_arg S I1.2.2.2.2 hl hL 2 (by decide) (by omega) dL_268 dL_269 dL_270 dL_271 dL_272 ?_
  refine zL_callM S I1 hl (ctX5_worth (xs (i + 1)) (xs (i + 2)) hm _ hw) zy_X5_worth zm_L_17 (by decide) rfl rfl (Nat.le_of_ble_eq_true rfl) hcl hsl dL_273 (fun r2 hm1 H2 locs2 hw2 I2 => ?_)
  obtain ⟨e1, hR2⟩ := hw2
  exact lv_icmp_eq (tgt := 1688) hx hb dL_276 (by decide) (fun _ => kk _ _ H2 locs2 hR2 I2) (fun q => absurd e1 q)
theorem law_c1 (S : lw_S p s m c b L xs D cI cR ad1 ad2) (hL : L ≤ 3072) (hi : i + 6 ≤ L) (hcl : cells ≤ 600000) (hsl : slots ≤ 7302250) (hR : Rel hc hm) (I : lw_I s D cI cR ad1 ad2 hc hm H locs) (hl : lv_has ls 4 [(0, .ref b), (1, .ref (ad1 0)), (2, .ref (ad2 0)), (3, .int (nI i))]) (kk : ∀ (hc' hm' : zz_H) (H1 : Heap) (locs1 : List Loc), Rel hc' hm' → lw_I s D cI cR ad1 ad2 hc' hm' H1 locs1 → W p l e room_1 s m #[Value.ref b] below meth c H1 locs1 cells slots Q (F0 m 1688 ls [])) : W p l e room_1 s m #[Value.ref b] below meth c H locs cells slots Q (F0 m 281 ls []) := by
  have hx := S.1
  have hb := S.2.1
  refine lv_aload_n hx hb dL_281 rfl (lv_at hl 1 rfl) ?_
  refine zL_arg S I.2.2.2.2 hl hL 1 (by decide) (by omega) dL_282 dL_283 dL_284 dL_285 dL_286 ?_
  refine zL_arg S I.2.2.2.2 hl hL 2 (by decide) (by omega) dL_287 dL_288 dL_289 dL_290 dL_291 ?_
  refine zL_callC S I hl (ctX4_common (xs (i + 1)) (xs (i + 2)) hc _ (op_common hR (xs (i + 1)) (xs (i + 2)))) zy_X4_common zm_L_18 (by decide) rfl rfl (by decide) hcl hsl dL_292 (fun r hc1 H1 locs1 hw I1 => ?_)
  refine lv_aload_n hx hb dL_295 rfl (lv_at hl 2 rfl) ?_
  refine zL_arg S I1.2.2.2.2 hl hL 1 (by decide) (by omega) dL_296 dL_297 dL_298 dL_299 dL_300 ?_
  refine zL_arg S I1.2.2.2.2 hl hL 2 (by decide) (by omega) dL_301 dL_302 dL_303 dL_304 dL_305 ?_
  refine zL_callM S I1 hl (ctX5_common (xs (i + 1)) (xs (i + 2)) hm _ hw) zy_X5_common zm_L_21 (by decide) rfl rfl (Nat.le_of_ble_eq_true rfl) hcl hsl dL_306 (fun r2 hm1 H2 locs2 hw2 I2 => ?_)
  obtain ⟨e1, hR2⟩ := hw2
  exact lv_icmp_eq (tgt := 1688) hx hb dL_309 (by decide) (fun _ => kk _ _ H2 locs2 hR2 I2) (fun q => absurd e1 q)
theorem law_c2 (S : lw_S p s m c b L xs D cI cR ad1 ad2) (hL : L ≤ 3072) (hi : i + 6 ≤ L) (hcl : cells ≤ 600000) (hsl : slots ≤ 7302250) (hR : Rel hc hm) (I : lw_I s D cI cR ad1 ad2 hc hm H locs) (hl : lv_has ls 4 [(0, .ref b), (1, .ref (ad1 0)), (2, .ref (ad2 0)), (3, .int (nI i))]) (kk : ∀ (hc' hm' : zz_H) (H1 : Heap) (locs1 : List Loc), Rel hc' hm' → lw_I s D cI cR ad1 ad2 hc' hm' H1 locs1 → W p l e room_1 s m #[Value.ref b] below meth c H1 locs1 cells slots Q (F0 m 1688 ls [])) : W p l e room_1 s m #[Value.ref b] below meth c H locs cells slots Q (F0 m 314 ls []) := by
  have hx := S.1
  have hb := S.2.1
  refine lv_aload_n hx hb dL_314 rfl (lv_at hl 1 rfl) ?_
  refine zL_arg S I.2.2.2.2 hl hL 1 (by decide) (by omega) dL_315 dL_316 dL_317 dL_318 dL_319 ?_
  refine zL_callC S I hl (ctX4_pupil (xs (i + 1)) hc _ (op_pupil hR (xs (i + 1)))) zy_X4_pupil zm_L_22 (by decide) rfl rfl (by decide) hcl hsl dL_320 (fun r hc1 H1 locs1 hw I1 => ?_)
  refine lv_aload_n hx hb dL_323 rfl (lv_at hl 2 rfl) ?_
  refine zL_arg S I1.2.2.2.2 hl hL 1 (by decide) (by omega) dL_324 dL_325 dL_326 dL_327 dL_328 ?_
  refine zL_callM S I1 hl (ctX5_pupil (xs (i + 1)) hm _ hw) zy_X5_pupil zm_L_26 (by decide) rfl rfl (Nat.le_of_ble_eq_true rfl) hcl hsl dL_329 (fun r2 hm1 H2 locs2 hw2 I2 => ?_)
  obtain ⟨e1, hR2⟩ := hw2
  exact lv_icmp_eq (tgt := 1688) hx hb dL_332 (by decide) (fun _ => kk _ _ H2 locs2 hR2 I2) (fun q => absurd e1 q)
theorem law_c3 (S : lw_S p s m c b L xs D cI cR ad1 ad2) (hL : L ≤ 3072) (hi : i + 6 ≤ L) (hcl : cells ≤ 600000) (hsl : slots ≤ 7302250) (hR : Rel hc hm) (I : lw_I s D cI cR ad1 ad2 hc hm H locs) (hl : lv_has ls 4 [(0, .ref b), (1, .ref (ad1 0)), (2, .ref (ad2 0)), (3, .int (nI i))]) (kk : ∀ (hc' hm' : zz_H) (H1 : Heap) (locs1 : List Loc), Rel hc' hm' → lw_I s D cI cR ad1 ad2 hc' hm' H1 locs1 → W p l e room_1 s m #[Value.ref b] below meth c H1 locs1 cells slots Q (F0 m 1688 ls [])) : W p l e room_1 s m #[Value.ref b] below meth c H locs cells slots Q (F0 m 337 ls []) := by
  have hx := S.1
  have hb := S.2.1
  refine lv_aload_n hx hb dL_337 rfl (lv_at hl 1 rfl) ?_
  refine zL_arg S I.2.2.2.2 hl hL 1 (by decide) (by omega) dL_338 dL_339 dL_340 dL_341 dL_342 ?_
  refine zL_arg S I.2.2.2.2 hl hL 2 (by decide) (by omega) dL_343 dL_344 dL_345 dL_346 dL_347 ?_
  refine zL_arg S I.2.2.2.2 hl hL 3 (by decide) (by omega) dL_348 dL_349 dL_350 dL_351 dL_352 ?_
  refine zL_arg S I.2.2.2.2 hl hL 4 (by decide) (by omega) dL_353 dL_354 dL_355 dL_356 dL_357 ?_
  refine zL_callC S I hl (ctX4_point (xs (i + 1)) (xs (i + 2)) (xs (i + 3)) (xs (i + 4)) hc _ (op_point hR (xs (i + 1)) (xs (i + 2)) (xs (i + 3)) (xs (i + 4)))) zy_X4_point zm_L_27 (by decide) rfl rfl (by decide) hcl hsl dL_358 (fun r hc1 H1 locs1 hw I1 => ?_)
  refine lv_aload_n hx hb dL_361 rfl (lv_at hl 2 rfl) ?_
  refine zL_arg S I1.2.2.2.2 hl hL 1 (by decide) (by omega) dL_362 dL_363 dL_364 dL_365 dL_366 ?_
  refine zL_arg S I1.2.2.2.2 hl hL 2 (by decide) (by omega) dL_367 dL_368 dL_369 dL_370 dL_371 ?_
  refine zL_arg S I1.2.2.2.2 hl hL 3 (by decide) (by omega) dL_372 dL_373 dL_374 dL_375 dL_376 ?_
  refine zL_arg S I1.2.2.2.2 hl hL 4 (by decide) (by omega) dL_377 dL_378 dL_379 dL_380 dL_381 ?_
  refine zL_callM S I1 hl (ctX5_point (xs (i + 1)) (xs (i + 2)) (xs (i + 3)) (xs (i + 4)) hm _ hw) zy_X5_point zm_L_31 (by decide) rfl rfl (Nat.le_of_ble_eq_true rfl) hcl hsl dL_382 (fun r2 hm1 H2 locs2 hw2 I2 => ?_)
  obtain ⟨e1, hR2⟩ := hw2
  exact lv_icmp_eq (tgt := 1688) hx hb dL_385 (by decide) (fun _ => kk _ _ H2 locs2 hR2 I2) (fun q => absurd e1 q)
theorem law_c4 (S : lw_S p s m c b L xs D cI cR ad1 ad2) (hL : L ≤ 3072) (hi : i + 6 ≤ L) (hcl : cells ≤ 600000) (hsl : slots ≤ 7302250) (hR : Rel hc hm) (I : lw_I s D cI cR ad1 ad2 hc hm H locs) (hl : lv_has ls 4 [(0, .ref b), (1, .ref (ad1 0)), (2, .ref (ad2 0)), (3, .int (nI i))]) (kk : ∀ (hc' hm' : zz_H) (H1 : Heap) (locs1 : List Loc), Rel hc' hm' → lw_I s D cI cR ad1 ad2 hc' hm' H1 locs1 → W p l e room_1 s m #[Value.ref b] below meth c H1 locs1 cells slots Q (F0 m 1688 ls [])) : W p l e room_1 s m #[Value.ref b] below meth c H locs cells slots Q (F0 m 390 ls []) := by
  have hx := S.1
  have hb := S.2.1
  refine lv_aload_n hx hb dL_390 rfl (lv_at hl 1 rfl) ?_
  refine zL_arg S I.2.2.2.2 hl hL 1 (by decide) (by omega) dL_391 dL_392 dL_393 dL_394 dL_395 ?_
  refine zL_arg S I.2.2.2.2 hl hL 2 (by decide) (by omega) dL_396 dL_397 dL_398 dL_399 dL_400 ?_
  refine zL_callC S I hl (ctX4_pupilOf (xs (i + 1)) (xs (i + 2)) hc _ (op_pupilOf hR (xs (i + 1)) (xs (i + 2)))) zy_X4_pupilOf zm_L_32 (by decide) rfl rfl (by decide) hcl hsl dL_401 (fun r hc1 H1 locs1 hw I1 => ?_)
  refine lv_aload_n hx hb dL_404 rfl (lv_at hl 2 rfl) ?_
  refine zL_arg S I1.2.2.2.2 hl hL 1 (by decide) (by omega) dL_405 dL_406 dL_407 dL_408 dL_409 ?_
  refine zL_arg S I1.2.2.2.2 hl hL 2 (by decide) (by omega) dL_410 dL_411 dL_412 dL_413 dL_414 ?_
  refine zL_callM S I1 hl (ctX5_pupilOf (xs (i + 1)) (xs (i + 2)) hm _ hw) zy_X5_pupilOf zm_L_35 (by decide) rfl rfl (Nat.le_of_ble_eq_true rfl) hcl hsl dL_415 (fun r2 hm1 H2 locs2 hw2 I2 => ?_)
  obtain ⟨e1, hR2⟩ := hw2
  exact lv_icmp_eq (tgt := 1688) hx hb dL_418 (by decide) (fun _ => kk _ _ H2 locs2 hR2 I2) (fun q => absurd e1 q)
theorem law_c5 (S : lw_S p s m c b L xs D cI cR ad1 ad2) (hL : L ≤ 3072) (hi : i + 6 ≤ L) (hcl : cells ≤ 600000) (hsl : slots ≤ 7302250) (hR : Rel hc hm) (I : lw_I s D cI cR ad1 ad2 hc hm H locs) (hl : lv_has ls 4 [(0, .ref b), (1, .ref (ad1 0)), (2, .ref (ad2 0)), (3, .int (nI i))]) (kk : ∀ (hc' hm' : zz_H) (H1 : Heap) (locs1 : List Loc), Rel hc' hm' → lw_I s D cI cR ad1 ad2 hc' hm' H1 locs1 → W p l e room_1 s m #[Value.ref b] below meth c H1 locs1 cells slots Q (F0 m 1688 ls [])) : W p l e room_1 s m #[Value.ref b] below meth c H locs cells slots Q (F0 m 423 ls []) := by
  have hx := S.1
  have hb := S.2.1
  refine lv_aload_n hx hb dL_423 rfl (lv_at hl 1 rfl) ?_
  refine zL_arg S I.2.2.2.2 hl hL 1 (by decide) (by omega) dL_424 dL_425 dL_426 dL_427 dL_428 ?_
  refine zL_callC S I hl (ctX4_paper (xs (i + 1)) hc _ (op_paper hR (xs (i + 1)))) zy_X4_paper zm_L_36 (by decide) rfl rfl (by decide) hcl hsl dL_429 (fun r hc1 H1 locs1 hw I1 => ?_)
  refine lv_aload_n hx hb dL_432 rfl (lv_at hl 2 rfl) ?_
  refine zL_arg S I1.2.2.2.2 hl hL 1 (by decide) (by omega) dL_433 dL_434 dL_435 dL_436 dL_437 ?_
  refine zL_callM S I1 hl (ctX5_paper (xs (i + 1)) hm _ hw) zy_X5_paper zm_L_39 (by decide) rfl rfl (Nat.le_of_ble_eq_true rfl) hcl hsl dL_438 (fun r2 hm1 H2 locs2 hw2 I2 => ?_)
  obtain ⟨e1, hR2⟩ := hw2
  exact lv_icmp_eq (tgt := 1688) hx hb dL_441 (by decide) (fun _ => kk _ _ H2 locs2 hR2 I2) (fun q => absurd e1 q)
theorem law_c6 (S : lw_S p s m c b L xs D cI cR ad1 ad2) (hL : L ≤ 3072) (hi : i + 6 ≤ L) (hcl : cells ≤ 600000) (hsl : slots ≤ 7302250) (hR : Rel hc hm) (I : lw_I s D cI cR ad1 ad2 hc hm H locs) (hl : lv_has ls 4 [(0, .ref b), (1, .ref (ad1 0)), (2, .ref (ad2 0)), (3, .int (nI i))]) (kk : ∀ (hc' hm' : zz_H) (H1 : Heap) (locs1 : List Loc), Rel hc' hm' → lw_I s D cI cR ad1 ad2 hc' hm' H1 locs1 → W p l e room_1 s m #[Value.ref b] below meth c H1 locs1 cells slots Q (F0 m 1688 ls [])) : W p l e room_1 s m #[Value.ref b] below meth c H locs cells slots Q (F0 m 446 ls []) := by
  have hx := S.1
  have hb := S.2.1
  refine lv_aload_n hx hb dL_446 rfl (lv_at hl 1 rfl) ?_
  refine zL_arg S I.2.2.2.2 hl hL 1 (by decide) (by omega) dL_447 dL_448 dL_449 dL_450 dL_451 ?_
  refine zL_arg S I.2.2.2.2 hl hL 2 (by decide) (by omega) dL_452 dL_453 dL_454 dL_455 dL_456 ?_
  refine zL_callC S I hl (ctX4_drawn (xs (i + 1)) (xs (i + 2)) hc _ (op_drawn hR (xs (i + 1)) (xs (i + 2)))) zy_X4_drawn zm_L_40 (by decide) rfl rfl (by decide) hcl hsl dL_457 (fun r hc1 H1 locs1 hw I1 => ?_)
  refine lv_aload_n hx hb dL_460 rfl (lv_at hl 2 rfl) ?_
  refine zL_arg S I1.2.2.2.2 hl hL 1 (by decide) (by omega) dL_461 dL_462 dL_463 dL_464 dL_465 ?_
  refine zL_arg S I1.2.2.2.2 hl hL 2 (by decide) (by omega) dL_466 dL_467 dL_468 dL_469 dL_470 ?_
  refine zL_callM S I1 hl (ctX5_drawn (xs (i + 1)) (xs (i + 2)) hm _ hw) zy_X5_drawn zm_L_43 (by decide) rfl rfl (Nat.le_of_ble_eq_true rfl) hcl hsl dL_471 (fun r2 hm1 H2 locs2 hw2 I2 => ?_)
  obtain ⟨e1, hR2⟩ := hw2
  exact lv_icmp_eq (tgt := 1688) hx hb dL_474 (by decide) (fun _ => kk _ _ H2 locs2 hR2 I2) (fun q => absurd e1 q)
theorem law_c7 (S : lw_S p s m c b L xs D cI cR ad1 ad2) (hL : L ≤ 3072) (hi : i + 6 ≤ L) (hcl : cells ≤ 600000) (hsl : slots ≤ 7302250) (hR : Rel hc hm) (I : lw_I s D cI cR ad1 ad2 hc hm H locs) (hl : lv_has ls 4 [(0, .ref b), (1, .ref (ad1 0)), (2, .ref (ad2 0)), (3, .int (nI i))]) (kk : ∀ (hc' hm' : zz_H) (H1 : Heap) (locs1 : List Loc), Rel hc' hm' → lw_I s D cI cR ad1 ad2 hc' hm' H1 locs1 → W p l e room_1 s m #[Value.ref b] below meth c H1 locs1 cells slots Q (F0 m 1688 ls [])) : W p l e room_1 s m #[Value.ref b] below meth c H locs cells slots Q (F0 m 479 ls []) := by
  have hx := S.1
  have hb := S.2.1
  refine lv_aload_n hx hb dL_479 rfl (lv_at hl 1 rfl) ?_
  refine zL_callC S I hl (ctX4_drop  hc _ (op_drop hR )) zy_X4_drop zm_L_44 (by decide) rfl rfl (by decide) hcl hsl dL_480 (fun r hc1 H1 locs1 hw I1 => ?_)
  refine lv_aload_n hx hb dL_483 rfl (lv_at hl 2 rfl) ?_
  refine zL_callM S I1 hl (ctX5_drop  hm _ hw) zy_X5_drop zm_L_48 (by decide) rfl rfl (Nat.le_of_ble_eq_true rfl) hcl hsl dL_484 (fun r2 hm1 H2 locs2 hw2 I2 => ?_)
  obtain ⟨e1, hR2⟩ := hw2
  exact lv_icmp_eq (tgt := 1688) hx hb dL_487 (by decide) (fun _ => kk _ _ H2 locs2 hR2 I2) (fun q => absurd e1 q)
theorem law_c8 (S : lw_S p s m c b L xs D cI cR ad1 ad2) (hL : L ≤ 3072) (hi : i + 6 ≤ L) (hcl : cells ≤ 600000) (hsl : slots ≤ 7302250) (hR : Rel hc hm) (I : lw_I s D cI cR ad1 ad2 hc hm H locs) (hl : lv_has ls 4 [(0, .ref b), (1, .ref (ad1 0)), (2, .ref (ad2 0)), (3, .int (nI i))]) (kk : ∀ (hc' hm' : zz_H) (H1 : Heap) (locs1 : List Loc), Rel hc' hm' → lw_I s D cI cR ad1 ad2 hc' hm' H1 locs1 → W p l e room_1 s m #[Value.ref b] below meth c H1 locs1 cells slots Q (F0 m 1688 ls [])) : W p l e room_1 s m #[Value.ref b] below meth c H locs cells slots Q (F0 m 492 ls []) := by
  have hx := S.1
  have hb := S.2.1
  refine lv_aload_n hx hb dL_492 rfl (lv_at hl 1 rfl) ?_
  refine zL_arg S I.2.2.2.2 hl hL 1 (by decide) (by omega) dL_493 dL_494 dL_495 dL_496 dL_497 ?_
  refine zL_arg S I.2.2.2.2 hl hL 2 (by decide) (by omega) dL_498 dL_499 dL_500 dL_501 dL_502 ?_
  refine zL_callC S I hl (ctX4_curve (xs (i + 1)) (xs (i + 2)) hc _ (op_curve hR (xs (i + 1)) (xs (i + 2)))) zy_X4_curve zm_L_49 (by decide) rfl rfl (by decide) hcl hsl dL_503 (fun r hc1 H1 locs1 hw I1 => ?_)
  refine lv_aload_n hx hb dL_506 rfl (lv_at hl 2 rfl) ?_
  refine zL_arg S I1.2.2.2.2 hl hL 1 (by decide) (by omega) dL_507 dL_508 dL_509 dL_510 dL_511 ?_
  refine zL_arg S I1.2.2.2.2 hl hL 2 (by decide) (by omega) dL_512 dL_513 dL_514 dL_515 dL_516 ?_
  refine zL_callM S I1 hl (ctX5_curve (xs (i + 1)) (xs (i + 2)) hm _ hw) zy_X5_curve zm_L_52 (by decide) rfl rfl (Nat.le_of_ble_eq_true rfl) hcl hsl dL_517 (fun r2 hm1 H2 locs2 hw2 I2 => ?_)
  obtain ⟨e1, hR2⟩ := hw2
  exact lv_icmp_eq (tgt := 1688) hx hb dL_520 (by decide) (fun _ => kk _ _ H2 locs2 hR2 I2) (fun q => absurd e1 q)
theorem law_c9 (S : lw_S p s m c b L xs D cI cR ad1 ad2) (hL : L ≤ 3072) (hi : i + 6 ≤ L) (hcl : cells ≤ 600000) (hsl : slots ≤ 7302250) (hR : Rel hc hm) (I : lw_I s D cI cR ad1 ad2 hc hm H locs) (hl : lv_has ls 4 [(0, .ref b), (1, .ref (ad1 0)), (2, .ref (ad2 0)), (3, .int (nI i))]) (kk : ∀ (hc' hm' : zz_H) (H1 : Heap) (locs1 : List Loc), Rel hc' hm' → lw_I s D cI cR ad1 ad2 hc' hm' H1 locs1 → W p l e room_1 s m #[Value.ref b] below meth c H1 locs1 cells slots Q (F0 m 1688 ls [])) : W p l e room_1 s m #[Value.ref b] below meth c H locs cells slots Q (F0 m 525 ls []) := by
  have hx := S.1
  have hb := S.2.1
  refine lv_aload_n hx hb dL_525 rfl (lv_at hl 1 rfl) ?_
  refine zL_arg S I.2.2.2.2 hl hL 1 (by decide) (by omega) dL_526 dL_527 dL_528 dL_529 dL_530 ?_
  refine zL_arg S I.2.2.2.2 hl hL 2 (by decide) (by omega) dL_531 dL_532 dL_533 dL_534 dL_535 ?_
  refine zL_callC S I hl (ctX4_curveOf (xs (i + 1)) (xs (i + 2)) hc _ (op_curveOf hR (xs (i + 1)) (xs (i + 2)))) zy_X4_curveOf zm_L_53 (by decide) rfl rfl (by decide) hcl hsl dL_536 (fun r hc1 H1 locs1 hw I1 => ?_)
  refine lv_aload_n hx hb dL_539 rfl (lv_at hl 2 rfl) ?_
  refine zL_arg S I1.2.2.2.2 hl hL 1 (by decide) (by omega) dL_540 dL_541 dL_542 dL_543 dL_544 ?_
  refine zL_arg S I1.2.2.2.2 hl hL 2 (by decide) (by omega) dL_545 dL_546 dL_547 dL_548 dL_549 ?_
  refine zL_callM S I1 hl (ctX5_curveOf (xs (i + 1)) (xs (i + 2)) hm _ hw) zy_X5_curveOf zm_L_56 (by decide) rfl rfl (Nat.le_of_ble_eq_true rfl) hcl hsl dL_550 (fun r2 hm1 H2 locs2 hw2 I2 => ?_)
  obtain ⟨e1, hR2⟩ := hw2
  exact lv_icmp_eq (tgt := 1688) hx hb dL_553 (by decide) (fun _ => kk _ _ H2 locs2 hR2 I2) (fun q => absurd e1 q)
theorem law_c10 (S : lw_S p s m c b L xs D cI cR ad1 ad2) (hL : L ≤ 3072) (hi : i + 6 ≤ L) (hcl : cells ≤ 600000) (hsl : slots ≤ 7302250) (hR : Rel hc hm) (I : lw_I s D cI cR ad1 ad2 hc hm H locs) (hl : lv_has ls 4 [(0, .ref b), (1, .ref (ad1 0)), (2, .ref (ad2 0)), (3, .int (nI i))]) (kk : ∀ (hc' hm' : zz_H) (H1 : Heap) (locs1 : List Loc), Rel hc' hm' → lw_I s D cI cR ad1 ad2 hc' hm' H1 locs1 → W p l e room_1 s m #[Value.ref b] below meth c H1 locs1 cells slots Q (F0 m 1688 ls [])) : W p l e room_1 s m #[Value.ref b] below meth c H locs cells slots Q (F0 m 558 ls []) := by
  have hx := S.1
  have hb := S.2.1
  refine lv_aload_n hx hb dL_558 rfl (lv_at hl 1 rfl) ?_
  refine zL_arg S I.2.2.2.2 hl hL 1 (by decide) (by omega) dL_559 dL_560 dL_561 dL_562 dL_563 ?_
  refine zL_arg S I.2.2.2.2 hl hL 2 (by decide) (by omega) dL_564 dL_565 dL_566 dL_567 dL_568 ?_
  refine zL_callC S I hl (ctX4_turn (xs (i + 1)) (xs (i + 2)) hc _ (op_turn hR (xs (i + 1)) (xs (i + 2)))) zy_X4_turn zm_L_57 (by decide) rfl rfl (by decide) hcl hsl dL_569 (fun r hc1 H1 locs1 hw I1 => ?_)
  refine lv_aload_n hx hb dL_572 rfl (lv_at hl 2 rfl) ?_
  refine zL_arg S I1.2.2.2.2 hl hL 1 (by decide) (by omega) dL_573 dL_574 dL_575 dL_576 dL_577 ?_
  refine zL_arg S I1.2.2.2.2 hl hL 2 (by decide) (by omega) dL_578 dL_579 dL_580 dL_581 dL_582 ?_
  refine zL_callM S I1 hl (ctX5_turn (xs (i + 1)) (xs (i + 2)) hm _ hw) zy_X5_turn zm_L_60 (by decide) rfl rfl (Nat.le_of_ble_eq_true rfl) hcl hsl dL_583 (fun r2 hm1 H2 locs2 hw2 I2 => ?_)
  obtain ⟨e1, hR2⟩ := hw2
  exact lv_icmp_eq (tgt := 1688) hx hb dL_586 (by decide) (fun _ => kk _ _ H2 locs2 hR2 I2) (fun q => absurd e1 q)
theorem law_c11 (S : lw_S p s m c b L xs D cI cR ad1 ad2) (hL : L ≤ 3072) (hi : i + 6 ≤ L) (hcl : cells ≤ 600000) (hsl : slots ≤ 7302250) (hR : Rel hc hm) (I : lw_I s D cI cR ad1 ad2 hc hm H locs) (hl : lv_has ls 4 [(0, .ref b), (1, .ref (ad1 0)), (2, .ref (ad2 0)), (3, .int (nI i))]) (kk : ∀ (hc' hm' : zz_H) (H1 : Heap) (locs1 : List Loc), Rel hc' hm' → lw_I s D cI cR ad1 ad2 hc' hm' H1 locs1 → W p l e room_1 s m #[Value.ref b] below meth c H1 locs1 cells slots Q (F0 m 1688 ls [])) : W p l e room_1 s m #[Value.ref b] below meth c H locs cells slots Q (F0 m 591 ls []) := by
  have hx := S.1
  have hb := S.2.1
  refine lv_aload_n hx hb dL_591 rfl (lv_at hl 1 rfl) ?_
  refine zL_arg S I.2.2.2.2 hl hL 1 (by decide) (by omega) dL_592 dL_593 dL_594 dL_595 dL_596 ?_
  refine zL_arg S I.2.2.2.2 hl hL 2 (by decide) (by omega) dL_597 dL_598 dL_599 dL_600 dL_601 ?_
  refine zL_callC S I hl (ctX4_by (xs (i + 1)) (xs (i + 2)) hc _ (op_by hR (xs (i + 1)) (xs (i + 2)))) zy_X4_by zm_L_61 (by decide) rfl rfl (by decide) hcl hsl dL_602 (fun r hc1 H1 locs1 hw I1 => ?_)
  refine lv_aload_n hx hb dL_605 rfl (lv_at hl 2 rfl) ?_
  refine zL_arg S I1.2.2.2.2 hl hL 1 (by decide) (by omega) dL_606 dL_607 dL_608 dL_609 dL_610 ?_
  refine zL_arg S I1.2.2.2.2 hl hL 2 (by decide) (by omega) dL_611 dL_612 dL_613 dL_614 dL_615 ?_
  refine zL_callM S I1 hl (ctX5_by (xs (i + 1)) (xs (i + 2)) hm _ hw) zy_X5_by zm_L_64 (by decide) rfl rfl (Nat.le_of_ble_eq_true rfl) hcl hsl dL_616 (fun r2 hm1 H2 locs2 hw2 I2 => ?_)
  obtain ⟨e1, hR2⟩ := hw2
  exact lv_icmp_eq (tgt := 1688) hx hb dL_619 (by decide) (fun _ => kk _ _ H2 locs2 hR2 I2) (fun q => absurd e1 q)
theorem law_c12 (S : lw_S p s m c b L xs D cI cR ad1 ad2) (hL : L ≤ 3072) (hi : i + 6 ≤ L) (hcl : cells ≤ 600000) (hsl : slots ≤ 7302250) (hR : Rel hc hm) (I : lw_I s D cI cR ad1 ad2 hc hm H locs) (hl : lv_has ls 4 [(0, .ref b), (1, .ref (ad1 0)), (2, .ref (ad2 0)), (3, .int (nI i))]) (kk : ∀ (hc' hm' : zz_H) (H1 : Heap) (locs1 : List Loc), Rel hc' hm' → lw_I s D cI cR ad1 ad2 hc' hm' H1 locs1 → W p l e room_1 s m #[Value.ref b] below meth c H1 locs1 cells slots Q (F0 m 1688 ls [])) : W p l e room_1 s m #[Value.ref b] below meth c H locs cells slots Q (F0 m 624 ls []) := by
  have hx := S.1
  have hb := S.2.1
  refine lv_aload_n hx hb dL_624 rfl (lv_at hl 1 rfl) ?_
  refine zL_arg S I.2.2.2.2 hl hL 1 (by decide) (by omega) dL_625 dL_626 dL_627 dL_628 dL_629 ?_
  refine zL_arg S I.2.2.2.2 hl hL 2 (by decide) (by omega) dL_630 dL_631 dL_632 dL_633 dL_634 ?_
  refine zL_callC S I hl (ctX4_mark (xs (i + 1)) (xs (i + 2)) hc _ (op_mark hR (xs (i + 1)) (xs (i + 2)))) zy_X4_mark zm_L_65 (by decide) rfl rfl (by decide) hcl hsl dL_635 (fun r hc1 H1 locs1 hw I1 => ?_)
  refine lv_aload_n hx hb dL_638 rfl (lv_at hl 2 rfl) ?_
  refine zL_arg S I1.2.2.2.2 hl hL 1 (by decide) (by omega) dL_639 dL_640 dL_641 dL_642 dL_643 ?_
  refine zL_arg S I1.2.2.2.2 hl hL 2 (by decide) (by omega) dL_644 dL_645 dL_646 dL_647 dL_648 ?_
  refine zL_callM S I1 hl (ctX5_mark (xs (i + 1)) (xs (i + 2)) hm _ hw) zy_X5_mark zm_L_68 (by decide) rfl rfl (Nat.le_of_ble_eq_true rfl) hcl hsl dL_649 (fun r2 hm1 H2 locs2 hw2 I2 => ?_)
  obtain ⟨e1, hR2⟩ := hw2
  exact lv_icmp_eq (tgt := 1688) hx hb dL_652 (by decide) (fun _ => kk _ _ H2 locs2 hR2 I2) (fun q => absurd e1 q)
theorem law_c13 (S : lw_S p s m c b L xs D cI cR ad1 ad2) (hL : L ≤ 3072) (hi : i + 6 ≤ L) (hcl : cells ≤ 600000) (hsl : slots ≤ 7302250) (hR : Rel hc hm) (I : lw_I s D cI cR ad1 ad2 hc hm H locs) (hl : lv_has ls 4 [(0, .ref b), (1, .ref (ad1 0)), (2, .ref (ad2 0)), (3, .int (nI i))]) (kk : ∀ (hc' hm' : zz_H) (H1 : Heap) (locs1 : List Loc), Rel hc' hm' → lw_I s D cI cR ad1 ad2 hc' hm' H1 locs1 → W p l e room_1 s m #[Value.ref b] below meth c H1 locs1 cells slots Q (F0 m 1688 ls [])) : W p l e room_1 s m #[Value.ref b] below meth c H locs cells slots Q (F0 m 657 ls []) := by
  have hx := S.1
  have hb := S.2.1
  refine lv_aload_n hx hb dL_657 rfl (lv_at hl 1 rfl) ?_
  refine zL_arg S I.2.2.2.2 hl hL 1 (by decide) (by omega) dL_658 dL_659 dL_660 dL_661 dL_662 ?_
  refine zL_arg S I.2.2.2.2 hl hL 2 (by decide) (by omega) dL_663 dL_664 dL_665 dL_666 dL_667 ?_
  refine zL_callC S I hl (ctX4_place (xs (i + 1)) (xs (i + 2)) hc _ (op_place hR (xs (i + 1)) (xs (i + 2)))) zy_X4_place zm_L_69 (by decide) rfl rfl (by decide) hcl hsl dL_668 (fun r hc1 H1 locs1 hw I1 => ?_)
  refine lv_aload_n hx hb dL_671 rfl (lv_at hl 2 rfl) ?_
  refine zL_arg S I1.2.2.2.2 hl hL 1 (by decide) (by omega) dL_672 dL_673 dL_674 dL_675 dL_676 ?_
  refine zL_arg S I1.2.2.2.2 hl hL 2 (by decide) (by omega) dL_677 dL_678 dL_679 dL_680 dL_681 ?_
  refine zL_callM S I1 hl (ctX5_place (xs (i + 1)) (xs (i + 2)) hm _ hw) zy_X5_place zm_L_72 (by decide) rfl rfl (Nat.le_of_ble_eq_true rfl) hcl hsl dL_682 (fun r2 hm1 H2 locs2 hw2 I2 => ?_)
  obtain ⟨e1, hR2⟩ := hw2
  exact lv_icmp_eq (tgt := 1688) hx hb dL_685 (by decide) (fun _ => kk _ _ H2 locs2 hR2 I2) (fun q => absurd e1 q)
theorem law_c14 (S : lw_S p s m c b L xs D cI cR ad1 ad2) (hL : L ≤ 3072) (hi : i + 6 ≤ L) (hcl : cells ≤ 600000) (hsl : slots ≤ 7302250) (hR : Rel hc hm) (I : lw_I s D cI cR ad1 ad2 hc hm H locs) (hl : lv_has ls 4 [(0, .ref b), (1, .ref (ad1 0)), (2, .ref (ad2 0)), (3, .int (nI i))]) (kk : ∀ (hc' hm' : zz_H) (H1 : Heap) (locs1 : List Loc), Rel hc' hm' → lw_I s D cI cR ad1 ad2 hc' hm' H1 locs1 → W p l e room_1 s m #[Value.ref b] below meth c H1 locs1 cells slots Q (F0 m 1688 ls [])) : W p l e room_1 s m #[Value.ref b] below meth c H locs cells slots Q (F0 m 690 ls []) := by
  have hx := S.1
  have hb := S.2.1
  refine lv_aload_n hx hb dL_690 rfl (lv_at hl 1 rfl) ?_
  refine zL_arg S I.2.2.2.2 hl hL 1 (by decide) (by omega) dL_691 dL_692 dL_693 dL_694 dL_695 ?_
  refine zL_arg S I.2.2.2.2 hl hL 2 (by decide) (by omega) dL_696 dL_697 dL_698 dL_699 dL_700 ?_
  refine zL_callC S I hl (ctX4_sum (xs (i + 1)) (xs (i + 2)) hc _ (op_sum hR (xs (i + 1)) (xs (i + 2)))) zy_X4_sum zm_L_73 (by decide) rfl rfl (by decide) hcl hsl dL_701 (fun r hc1 H1 locs1 hw I1 => ?_)
  refine lv_aload_n hx hb dL_704 rfl (lv_at hl 2 rfl) ?_
  refine zL_arg S I1.2.2.2.2 hl hL 1 (by decide) (by omega) dL_705 dL_706 dL_707 dL_708 dL_709 ?_
  refine zL_arg S I1.2.2.2.2 hl hL 2 (by decide) (by omega) dL_710 dL_711 dL_712 dL_713 dL_714 ?_
  refine zL_callM S I1 hl (ctX5_sum (xs (i + 1)) (xs (i + 2)) hm _ hw) zy_X5_sum zm_L_76 (by decide) rfl rfl (Nat.le_of_ble_eq_true rfl) hcl hsl dL_715 (fun r2 hm1 H2 locs2 hw2 I2 => ?_)
  obtain ⟨e1, hR2⟩ := hw2
  exact lv_icmp_eq (tgt := 1688) hx hb dL_718 (by decide) (fun _ => kk _ _ H2 locs2 hR2 I2) (fun q => absurd e1 q)
theorem law_c15 (S : lw_S p s m c b L xs D cI cR ad1 ad2) (hL : L ≤ 3072) (hi : i + 6 ≤ L) (hcl : cells ≤ 600000) (hsl : slots ≤ 7302250) (hR : Rel hc hm) (I : lw_I s D cI cR ad1 ad2 hc hm H locs) (hl : lv_has ls 4 [(0, .ref b), (1, .ref (ad1 0)), (2, .ref (ad2 0)), (3, .int (nI i))]) (kk : ∀ (hc' hm' : zz_H) (H1 : Heap) (locs1 : List Loc), Rel hc' hm' → lw_I s D cI cR ad1 ad2 hc' hm' H1 locs1 → W p l e room_1 s m #[Value.ref b] below meth c H1 locs1 cells slots Q (F0 m 1688 ls [])) : W p l e room_1 s m #[Value.ref b] below meth c H locs cells slots Q (F0 m 723 ls []) := by
  have hx := S.1
  have hb := S.2.1
  refine lv_aload_n hx hb dL_723 rfl (lv_at hl 1 rfl) ?_
  refine zL_arg S I.2.2.2.2 hl hL 1 (by decide) (by omega) dL_724 dL_725 dL_726 dL_727 dL_728 ?_
  refine zL_callC S I hl (ctX4_middle (xs (i + 1)) hc _ (op_middle hR (xs (i + 1)))) zy_X4_middle zm_L_77 (by decide) rfl rfl (by decide) hcl hsl dL_729 (fun r hc1 H1 locs1 hw I1 => ?_)
  refine lv_aload_n hx hb dL_732 rfl (lv_at hl 2 rfl) ?_
  refine zL_arg S I1.2.2.2.2 hl hL 1 (by decide) (by omega) dL_733 dL_734 dL_735 dL_736 dL_737 ?_
  refine zL_callM S I1 hl (ctX5_middle (xs (i + 1)) hm _ hw) zy_X5_middle zm_L_80 (by decide) rfl rfl (Nat.le_of_ble_eq_true rfl) hcl hsl dL_738 (fun r2 hm1 H2 locs2 hw2 I2 => ?_)
  obtain ⟨e1, hR2⟩ := hw2
  exact lv_icmp_eq (tgt := 1688) hx hb dL_741 (by decide) (fun _ => kk _ _ H2 locs2 hR2 I2) (fun q => absurd e1 q)
theorem law_c16 (S : lw_S p s m c b L xs D cI cR ad1 ad2) (hL : L ≤ 3072) (hi : i + 6 ≤ L) (hcl : cells ≤ 600000) (hsl : slots ≤ 7302250) (hR : Rel hc hm) (I : lw_I s D cI cR ad1 ad2 hc hm H locs) (hl : lv_has ls 4 [(0, .ref b), (1, .ref (ad1 0)), (2, .ref (ad2 0)), (3, .int (nI i))]) (kk : ∀ (hc' hm' : zz_H) (H1 : Heap) (locs1 : List Loc), Rel hc' hm' → lw_I s D cI cR ad1 ad2 hc' hm' H1 locs1 → W p l e room_1 s m #[Value.ref b] below meth c H1 locs1 cells slots Q (F0 m 1688 ls [])) : W p l e room_1 s m #[Value.ref b] below meth c H locs cells slots Q (F0 m 746 ls []) := by
  have hx := S.1
  have hb := S.2.1
  refine lv_aload_n hx hb dL_746 rfl (lv_at hl 1 rfl) ?_
  refine zL_arg S I.2.2.2.2 hl hL 1 (by decide) (by omega) dL_747 dL_748 dL_749 dL_750 dL_751 ?_
  refine zL_callC S I hl (ctX4_keeps (xs (i + 1)) hc _ (op_keeps hR (xs (i + 1)))) zy_X4_keeps zm_L_81 (by decide) rfl rfl (by decide) hcl hsl dL_752 (fun r hc1 H1 locs1 hw I1 => ?_)
  refine lv_aload_n hx hb dL_755 rfl (lv_at hl 2 rfl) ?_
  refine zL_arg S I1.2.2.2.2 hl hL 1 (by decide) (by omega) dL_756 dL_757 dL_758 dL_759 dL_760 ?_
  refine zL_callM S I1 hl (ctX5_keeps (xs (i + 1)) hm _ hw) zy_X5_keeps zm_L_84 (by decide) rfl rfl (Nat.le_of_ble_eq_true rfl) hcl hsl dL_761 (fun r2 hm1 H2 locs2 hw2 I2 => ?_)
  obtain ⟨e1, hR2⟩ := hw2
  exact lv_icmp_eq (tgt := 1688) hx hb dL_764 (by decide) (fun _ => kk _ _ H2 locs2 hR2 I2) (fun q => absurd e1 q)
theorem law_c17 (S : lw_S p s m c b L xs D cI cR ad1 ad2) (hL : L ≤ 3072) (hi : i + 6 ≤ L) (hcl : cells ≤ 600000) (hsl : slots ≤ 7302250) (hR : Rel hc hm) (I : lw_I s D cI cR ad1 ad2 hc hm H locs) (hl : lv_has ls 4 [(0, .ref b), (1, .ref (ad1 0)), (2, .ref (ad2 0)), (3, .int (nI i))]) (kk : ∀ (hc' hm' : zz_H) (H1 : Heap) (locs1 : List Loc), Rel hc' hm' → lw_I s D cI cR ad1 ad2 hc' hm' H1 locs1 → W p l e room_1 s m #[Value.ref b] below meth c H1 locs1 cells slots Q (F0 m 1688 ls [])) : W p l e room_1 s m #[Value.ref b] below meth c H locs cells slots Q (F0 m 769 ls []) := by
  have hx := S.1
  have hb := S.2.1
  refine lv_aload_n hx hb dL_769 rfl (lv_at hl 1 rfl) ?_
  refine zL_arg S I.2.2.2.2 hl hL 1 (by decide) (by omega) dL_770 dL_771 dL_772 dL_773 dL_774 ?_
  refine zL_callC S I hl (ctX4_breaks (xs (i + 1)) hc _ (op_breaks hR (xs (i + 1)))) zy_X4_breaks zm_L_85 (by decide) rfl rfl (by decide) hcl hsl dL_775 (fun r hc1 H1 locs1 hw I1 => ?_)
  refine lv_aload_n hx hb dL_778 rfl (lv_at hl 2 rfl) ?_
  refine zL_arg S I1.2.2.2.2 hl hL 1 (by decide) (by omega) dL_779 dL_780 dL_781 dL_782 dL_783 ?_
  refine zL_callM S I1 hl (ctX5_breaks (xs (i + 1)) hm _ hw) zy_X5_breaks zm_L_88 (by decide) rfl rfl (Nat.le_of_ble_eq_true rfl) hcl hsl dL_784 (fun r2 hm1 H2 locs2 hw2 I2 => ?_)
  obtain ⟨e1, hR2⟩ := hw2
  exact lv_icmp_eq (tgt := 1688) hx hb dL_787 (by decide) (fun _ => kk _ _ H2 locs2 hR2 I2) (fun q => absurd e1 q)
theorem law_c18 (S : lw_S p s m c b L xs D cI cR ad1 ad2) (hL : L ≤ 3072) (hi : i + 6 ≤ L) (hcl : cells ≤ 600000) (hsl : slots ≤ 7302250) (hR : Rel hc hm) (I : lw_I s D cI cR ad1 ad2 hc hm H locs) (hl : lv_has ls 4 [(0, .ref b), (1, .ref (ad1 0)), (2, .ref (ad2 0)), (3, .int (nI i))]) (kk : ∀ (hc' hm' : zz_H) (H1 : Heap) (locs1 : List Loc), Rel hc' hm' → lw_I s D cI cR ad1 ad2 hc' hm' H1 locs1 → W p l e room_1 s m #[Value.ref b] below meth c H1 locs1 cells slots Q (F0 m 1688 ls [])) : W p l e room_1 s m #[Value.ref b] below meth c H locs cells slots Q (F0 m 792 ls []) := by
  have hx := S.1
  have hb := S.2.1
  refine lv_aload_n hx hb dL_792 rfl (lv_at hl 1 rfl) ?_
  refine zL_arg S I.2.2.2.2 hl hL 1 (by decide) (by omega) dL_793 dL_794 dL_795 dL_796 dL_797 ?_
  refine zL_callC S I hl (ctX4_heaped (xs (i + 1)) hc _ (op_heaped hR (xs (i + 1)))) zy_X4_heaped zm_L_89 (by decide) rfl rfl (by decide) hcl hsl dL_798 (fun r hc1 H1 locs1 hw I1 => ?_)
  refine lv_aload_n hx hb dL_801 rfl (lv_at hl 2 rfl) ?_
  refine zL_arg S I1.2.2.2.2 hl hL 1 (by decide) (by omega) dL_802 dL_803 dL_804 dL_805 dL_806 ?_
  refine zL_callM S I1 hl (ctX5_heaped (xs (i + 1)) hm _ hw) zy_X5_heaped zm_L_92 (by decide) rfl rfl (Nat.le_of_ble_eq_true rfl) hcl hsl dL_807 (fun r2 hm1 H2 locs2 hw2 I2 => ?_)
  obtain ⟨e1, hR2⟩ := hw2
  exact lv_icmp_eq (tgt := 1688) hx hb dL_810 (by decide) (fun _ => kk _ _ H2 locs2 hR2 I2) (fun q => absurd e1 q)
theorem law_c19 (S : lw_S p s m c b L xs D cI cR ad1 ad2) (hL : L ≤ 3072) (hi : i + 6 ≤ L) (hcl : cells ≤ 600000) (hsl : slots ≤ 7302250) (hR : Rel hc hm) (I : lw_I s D cI cR ad1 ad2 hc hm H locs) (hl : lv_has ls 4 [(0, .ref b), (1, .ref (ad1 0)), (2, .ref (ad2 0)), (3, .int (nI i))]) (kk : ∀ (hc' hm' : zz_H) (H1 : Heap) (locs1 : List Loc), Rel hc' hm' → lw_I s D cI cR ad1 ad2 hc' hm' H1 locs1 → W p l e room_1 s m #[Value.ref b] below meth c H1 locs1 cells slots Q (F0 m 1688 ls [])) : W p l e room_1 s m #[Value.ref b] below meth c H locs cells slots Q (F0 m 815 ls []) := by
  have hx := S.1
  have hb := S.2.1
  refine lv_aload_n hx hb dL_815 rfl (lv_at hl 1 rfl) ?_
  refine zL_arg S I.2.2.2.2 hl hL 1 (by decide) (by omega) dL_816 dL_817 dL_818 dL_819 dL_820 ?_
  refine zL_callC S I hl (ctX4_gains (xs (i + 1)) hc _ (op_gains hR (xs (i + 1)))) zy_X4_gains zm_L_93 (by decide) rfl rfl (by decide) hcl hsl dL_821 (fun r hc1 H1 locs1 hw I1 => ?_)
  refine lv_aload_n hx hb dL_824 rfl (lv_at hl 2 rfl) ?_
  refine zL_arg S I1.2.2.2.2 hl hL 1 (by decide) (by omega) dL_825 dL_826 dL_827 dL_828 dL_829 ?_
  refine zL_callM S I1 hl (ctX5_gains (xs (i + 1)) hm _ hw) zy_X5_gains zm_L_96 (by decide) rfl rfl (Nat.le_of_ble_eq_true rfl) hcl hsl dL_830 (fun r2 hm1 H2 locs2 hw2 I2 => ?_)
  obtain ⟨e1, hR2⟩ := hw2
  exact lv_icmp_eq (tgt := 1688) hx hb dL_833 (by decide) (fun _ => kk _ _ H2 locs2 hR2 I2) (fun q => absurd e1 q)
theorem law_c20 (S : lw_S p s m c b L xs D cI cR ad1 ad2) (hL : L ≤ 3072) (hi : i + 6 ≤ L) (hcl : cells ≤ 600000) (hsl : slots ≤ 7302250) (hR : Rel hc hm) (I : lw_I s D cI cR ad1 ad2 hc hm H locs) (hl : lv_has ls 4 [(0, .ref b), (1, .ref (ad1 0)), (2, .ref (ad2 0)), (3, .int (nI i))]) (kk : ∀ (hc' hm' : zz_H) (H1 : Heap) (locs1 : List Loc), Rel hc' hm' → lw_I s D cI cR ad1 ad2 hc' hm' H1 locs1 → W p l e room_1 s m #[Value.ref b] below meth c H1 locs1 cells slots Q (F0 m 1688 ls [])) : W p l e room_1 s m #[Value.ref b] below meth c H locs cells slots Q (F0 m 838 ls []) := by
  have hx := S.1
  have hb := S.2.1
  refine lv_aload_n hx hb dL_838 rfl (lv_at hl 1 rfl) ?_
  refine zL_arg S I.2.2.2.2 hl hL 1 (by decide) (by omega) dL_839 dL_840 dL_841 dL_842 dL_843 ?_
  refine zL_arg S I.2.2.2.2 hl hL 2 (by decide) (by omega) dL_844 dL_845 dL_846 dL_847 dL_848 ?_
  refine zL_callC S I hl (ctX4_gainsBy (xs (i + 1)) (xs (i + 2)) hc _ (op_gainsBy hR (xs (i + 1)) (xs (i + 2)))) zy_X4_gainsBy zm_L_97 (by decide) rfl rfl (by decide) hcl hsl dL_849 (fun r hc1 H1 locs1 hw I1 => ?_)
  refine lv_aload_n hx hb dL_852 rfl (lv_at hl 2 rfl) ?_
  refine zL_arg S I1.2.2.2.2 hl hL 1 (by decide) (by omega) dL_853 dL_854 dL_855 dL_856 dL_857 ?_
  refine zL_arg S I1.2.2.2.2 hl hL 2 (by decide) (by omega) dL_858 dL_859 dL_860 dL_861 dL_862 ?_
  refine zL_callM S I1 hl (ctX5_gainsBy (xs (i + 1)) (xs (i + 2)) hm _ hw) zy_X5_gainsBy zm_L_100 (by decide) rfl rfl (Nat.le_of_ble_eq_true rfl) hcl hsl dL_863 (fun r2 hm1 H2 locs2 hw2 I2 => ?_)
  obtain ⟨e1, hR2⟩ := hw2
  exact lv_icmp_eq (tgt := 1688) hx hb dL_866 (by decide) (fun _ => kk _ _ H2 locs2 hR2 I2) (fun q => absurd e1 q)
theorem law_c21 (S : lw_S p s m c b L xs D cI cR ad1 ad2) (hL : L ≤ 3072) (hi : i + 6 ≤ L) (hcl : cells ≤ 600000) (hsl : slots ≤ 7302250) (hR : Rel hc hm) (I : lw_I s D cI cR ad1 ad2 hc hm H locs) (hl : lv_has ls 4 [(0, .ref b), (1, .ref (ad1 0)), (2, .ref (ad2 0)), (3, .int (nI i))]) (kk : ∀ (hc' hm' : zz_H) (H1 : Heap) (locs1 : List Loc), Rel hc' hm' → lw_I s D cI cR ad1 ad2 hc' hm' H1 locs1 → W p l e room_1 s m #[Value.ref b] below meth c H1 locs1 cells slots Q (F0 m 1688 ls [])) : W p l e room_1 s m #[Value.ref b] below meth c H locs cells slots Q (F0 m 871 ls []) := by
  have hx := S.1
  have hb := S.2.1
  refine lv_aload_n hx hb dL_871 rfl (lv_at hl 1 rfl) ?_
  refine zL_arg S I.2.2.2.2 hl hL 1 (by decide) (by omega) dL_872 dL_873 dL_874 dL_875 dL_876 ?_
  refine zL_arg S I.2.2.2.2 hl hL 2 (by decide) (by omega) dL_877 dL_878 dL_879 dL_880 dL_881 ?_
  refine zL_callC S I hl (ctX4_moves (xs (i + 1)) (xs (i + 2)) hc _ (op_moves hR (xs (i + 1)) (xs (i + 2)))) zy_X4_moves zm_L_101 (by decide) rfl rfl (by decide) hcl hsl dL_882 (fun r hc1 H1 locs1 hw I1 => ?_)
  refine lv_aload_n hx hb dL_885 rfl (lv_at hl 2 rfl) ?_
  refine zL_arg S I1.2.2.2.2 hl hL 1 (by decide) (by omega) dL_886 dL_887 dL_888 dL_889 dL_890 ?_
  refine zL_arg S I1.2.2.2.2 hl hL 2 (by decide) (by omega) dL_891 dL_892 dL_893 dL_894 dL_895 ?_
  refine zL_callM S I1 hl (ctX5_moves (xs (i + 1)) (xs (i + 2)) hm _ hw) zy_X5_moves zm_L_104 (by decide) rfl rfl (Nat.le_of_ble_eq_true rfl) hcl hsl dL_896 (fun r2 hm1 H2 locs2 hw2 I2 => ?_)
  obtain ⟨e1, hR2⟩ := hw2
  exact lv_icmp_eq (tgt := 1688) hx hb dL_899 (by decide) (fun _ => kk _ _ H2 locs2 hR2 I2) (fun q => absurd e1 q)
theorem law_c22 (S : lw_S p s m c b L xs D cI cR ad1 ad2) (hL : L ≤ 3072) (hi : i + 6 ≤ L) (hcl : cells ≤ 600000) (hsl : slots ≤ 7302250) (hR : Rel hc hm) (I : lw_I s D cI cR ad1 ad2 hc hm H locs) (hl : lv_has ls 4 [(0, .ref b), (1, .ref (ad1 0)), (2, .ref (ad2 0)), (3, .int (nI i))]) (kk : ∀ (hc' hm' : zz_H) (H1 : Heap) (locs1 : List Loc), Rel hc' hm' → lw_I s D cI cR ad1 ad2 hc' hm' H1 locs1 → W p l e room_1 s m #[Value.ref b] below meth c H1 locs1 cells slots Q (F0 m 1688 ls [])) : W p l e room_1 s m #[Value.ref b] below meth c H locs cells slots Q (F0 m 904 ls []) := by
  have hx := S.1
  have hb := S.2.1
  refine lv_aload_n hx hb dL_904 rfl (lv_at hl 1 rfl) ?_
  refine zL_arg S I.2.2.2.2 hl hL 1 (by decide) (by omega) dL_905 dL_906 dL_907 dL_908 dL_909 ?_
  refine zL_arg S I.2.2.2.2 hl hL 2 (by decide) (by omega) dL_910 dL_911 dL_912 dL_913 dL_914 ?_
  refine zL_callC S I hl (ctX4_without (xs (i + 1)) (xs (i + 2)) hc _ (op_without hR (xs (i + 1)) (xs (i + 2)))) zy_X4_without zm_L_105 (by decide) rfl rfl (by decide) hcl hsl dL_915 (fun r hc1 H1 locs1 hw I1 => ?_)
  refine lv_aload_n hx hb dL_918 rfl (lv_at hl 2 rfl) ?_
  refine zL_arg S I1.2.2.2.2 hl hL 1 (by decide) (by omega) dL_919 dL_920 dL_921 dL_922 dL_923 ?_
  refine zL_arg S I1.2.2.2.2 hl hL 2 (by decide) (by omega) dL_924 dL_925 dL_926 dL_927 dL_928 ?_
  refine zL_callM S I1 hl (ctX5_without (xs (i + 1)) (xs (i + 2)) hm _ hw) zy_X5_without zm_L_108 (by decide) rfl rfl (Nat.le_of_ble_eq_true rfl) hcl hsl dL_929 (fun r2 hm1 H2 locs2 hw2 I2 => ?_)
  obtain ⟨e1, hR2⟩ := hw2
  exact lv_icmp_eq (tgt := 1688) hx hb dL_932 (by decide) (fun _ => kk _ _ H2 locs2 hR2 I2) (fun q => absurd e1 q)
theorem law_c23 (S : lw_S p s m c b L xs D cI cR ad1 ad2) (hL : L ≤ 3072) (hi : i + 6 ≤ L) (hcl : cells ≤ 600000) (hsl : slots ≤ 7302250) (hR : Rel hc hm) (I : lw_I s D cI cR ad1 ad2 hc hm H locs) (hl : lv_has ls 4 [(0, .ref b), (1, .ref (ad1 0)), (2, .ref (ad2 0)), (3, .int (nI i))]) (kk : ∀ (hc' hm' : zz_H) (H1 : Heap) (locs1 : List Loc), Rel hc' hm' → lw_I s D cI cR ad1 ad2 hc' hm' H1 locs1 → W p l e room_1 s m #[Value.ref b] below meth c H1 locs1 cells slots Q (F0 m 1688 ls [])) : W p l e room_1 s m #[Value.ref b] below meth c H locs cells slots Q (F0 m 937 ls []) := by
  have hx := S.1
  have hb := S.2.1
  refine lv_aload_n hx hb dL_937 rfl (lv_at hl 1 rfl) ?_
  refine zL_arg S I.2.2.2.2 hl hL 1 (by decide) (by omega) dL_938 dL_939 dL_940 dL_941 dL_942 ?_
  refine zL_arg S I.2.2.2.2 hl hL 2 (by decide) (by omega) dL_943 dL_944 dL_945 dL_946 dL_947 ?_
  refine zL_callC S I hl (ctX4_pass (xs (i + 1)) (xs (i + 2)) hc _ (op_pass hR (xs (i + 1)) (xs (i + 2)))) zy_X4_pass zm_L_109 (by decide) rfl rfl (by decide) hcl hsl dL_948 (fun r hc1 H1 locs1 hw I1 => ?_)
  refine lv_aload_n hx hb dL_951 rfl (lv_at hl 2 rfl) ?_
  refine zL_arg S I1.2.2.2.2 hl hL 1 (by decide) (by omega) dL_952 dL_953 dL_954 dL_955 dL_956 ?_
  refine zL_arg S I1.2.2.2.2 hl hL 2 (by decide) (by omega) dL_957 dL_958 dL_959 dL_960 dL_961 ?_
  refine zL_callM S I1 hl (ctX5_pass (xs (i + 1)) (xs (i + 2)) hm _ hw) zy_X5_pass zm_L_112 (by decide) rfl rfl (Nat.le_of_ble_eq_true rfl) hcl hsl dL_962 (fun r2 hm1 H2 locs2 hw2 I2 => ?_)
  obtain ⟨e1, hR2⟩ := hw2
  exact lv_icmp_eq (tgt := 1688) hx hb dL_965 (by decide) (fun _ => kk _ _ H2 locs2 hR2 I2) (fun q => absurd e1 q)
theorem law_c24 (S : lw_S p s m c b L xs D cI cR ad1 ad2) (hL : L ≤ 3072) (hi : i + 6 ≤ L) (hcl : cells ≤ 600000) (hsl : slots ≤ 7302250) (hR : Rel hc hm) (I : lw_I s D cI cR ad1 ad2 hc hm H locs) (hl : lv_has ls 4 [(0, .ref b), (1, .ref (ad1 0)), (2, .ref (ad2 0)), (3, .int (nI i))]) (kk : ∀ (hc' hm' : zz_H) (H1 : Heap) (locs1 : List Loc), Rel hc' hm' → lw_I s D cI cR ad1 ad2 hc' hm' H1 locs1 → W p l e room_1 s m #[Value.ref b] below meth c H1 locs1 cells slots Q (F0 m 1688 ls [])) : W p l e room_1 s m #[Value.ref b] below meth c H locs cells slots Q (F0 m 970 ls []) := by
  have hx := S.1
  have hb := S.2.1
  refine lv_aload_n hx hb dL_970 rfl (lv_at hl 1 rfl) ?_
  refine zL_arg S I.2.2.2.2 hl hL 1 (by decide) (by omega) dL_971 dL_972 dL_973 dL_974 dL_975 ?_
  refine zL_arg S I.2.2.2.2 hl hL 2 (by decide) (by omega) dL_976 dL_977 dL_978 dL_979 dL_980 ?_
  refine zL_callC S I hl (ctX4_line (xs (i + 1)) (xs (i + 2)) hc _ (op_line hR (xs (i + 1)) (xs (i + 2)))) zy_X4_line zm_L_113 (by decide) rfl rfl (by decide) hcl hsl dL_981 (fun r hc1 H1 locs1 hw I1 => ?_)
  refine lv_aload_n hx hb dL_984 rfl (lv_at hl 2 rfl) ?_
  refine zL_arg S I1.2.2.2.2 hl hL 1 (by decide) (by omega) dL_985 dL_986 dL_987 dL_988 dL_989 ?_
  refine zL_arg S I1.2.2.2.2 hl hL 2 (by decide) (by omega) dL_990 dL_991 dL_992 dL_993 dL_994 ?_
  refine zL_callM S I1 hl (ctX5_line (xs (i + 1)) (xs (i + 2)) hm _ hw) zy_X5_line zm_L_116 (by decide) rfl rfl (Nat.le_of_ble_eq_true rfl) hcl hsl dL_995 (fun r2 hm1 H2 locs2 hw2 I2 => ?_)
  obtain ⟨e1, hR2⟩ := hw2
  exact lv_icmp_eq (tgt := 1688) hx hb dL_998 (by decide) (fun _ => kk _ _ H2 locs2 hR2 I2) (fun q => absurd e1 q)
theorem law_c25 (S : lw_S p s m c b L xs D cI cR ad1 ad2) (hL : L ≤ 3072) (hi : i + 6 ≤ L) (hcl : cells ≤ 600000) (hsl : slots ≤ 7302250) (hR : Rel hc hm) (I : lw_I s D cI cR ad1 ad2 hc hm H locs) (hl : lv_has ls 4 [(0, .ref b), (1, .ref (ad1 0)), (2, .ref (ad2 0)), (3, .int (nI i))]) (kk : ∀ (hc' hm' : zz_H) (H1 : Heap) (locs1 : List Loc), Rel hc' hm' → lw_I s D cI cR ad1 ad2 hc' hm' H1 locs1 → W p l e room_1 s m #[Value.ref b] below meth c H1 locs1 cells slots Q (F0 m 1688 ls [])) : W p l e room_1 s m #[Value.ref b] below meth c H locs cells slots Q (F0 m 1003 ls []) := by
  have hx := S.1
  have hb := S.2.1
  refine lv_aload_n hx hb dL_1003 rfl (lv_at hl 1 rfl) ?_
  refine zL_arg S I.2.2.2.2 hl hL 1 (by decide) (by omega) dL_1004 dL_1005 dL_1006 dL_1007 dL_1008 ?_
  refine zL_arg S I.2.2.2.2 hl hL 2 (by decide) (by omega) dL_1009 dL_1010 dL_1011 dL_1012 dL_1013 ?_
  refine zL_callC S I hl (ctX4_heap (xs (i + 1)) (xs (i + 2)) hc _ (op_heap hR (xs (i + 1)) (xs (i + 2)))) zy_X4_heap zm_L_117 (by decide) rfl rfl (by decide) hcl hsl dL_1014 (fun r hc1 H1 locs1 hw I1 => ?_)
  refine lv_aload_n hx hb dL_1017 rfl (lv_at hl 2 rfl) ?_
  refine zL_arg S I1.2.2.2.2 hl hL 1 (by decide) (by omega) dL_1018 dL_1019 dL_1020 dL_1021 dL_1022 ?_
  refine zL_arg S I1.2.2.2.2 hl hL 2 (by decide) (by omega) dL_1023 dL_1024 dL_1025 dL_1026 dL_1027 ?_
  refine zL_callM S I1 hl (ctX5_heap (xs (i + 1)) (xs (i + 2)) hm _ hw) zy_X5_heap zm_L_120 (by decide) rfl rfl (Nat.le_of_ble_eq_true rfl) hcl hsl dL_1028 (fun r2 hm1 H2 locs2 hw2 I2 => ?_)
  obtain ⟨e1, hR2⟩ := hw2
  exact lv_icmp_eq (tgt := 1688) hx hb dL_1031 (by decide) (fun _ => kk _ _ H2 locs2 hR2 I2) (fun q => absurd e1 q)
theorem law_c26 (S : lw_S p s m c b L xs D cI cR ad1 ad2) (hL : L ≤ 3072) (hi : i + 6 ≤ L) (hcl : cells ≤ 600000) (hsl : slots ≤ 7302250) (hR : Rel hc hm) (I : lw_I s D cI cR ad1 ad2 hc hm H locs) (hl : lv_has ls 4 [(0, .ref b), (1, .ref (ad1 0)), (2, .ref (ad2 0)), (3, .int (nI i))]) (kk : ∀ (hc' hm' : zz_H) (H1 : Heap) (locs1 : List Loc), Rel hc' hm' → lw_I s D cI cR ad1 ad2 hc' hm' H1 locs1 → W p l e room_1 s m #[Value.ref b] below meth c H1 locs1 cells slots Q (F0 m 1688 ls [])) : W p l e room_1 s m #[Value.ref b] below meth c H locs cells slots Q (F0 m 1036 ls []) := by
  have hx := S.1
  have hb := S.2.1
  refine lv_aload_n hx hb dL_1036 rfl (lv_at hl 1 rfl) ?_
  refine zL_arg S I.2.2.2.2 hl hL 1 (by decide) (by omega) dL_1037 dL_1038 dL_1039 dL_1040 dL_1041 ?_
  refine zL_callC S I hl (ctX4_kindest (xs (i + 1)) hc _ (op_kindest hR (xs (i + 1)))) zy_X4_kindest zm_L_121 (by decide) rfl rfl (by decide) hcl hsl dL_1042 (fun r hc1 H1 locs1 hw I1 => ?_)
  refine lv_aload_n hx hb dL_1045 rfl (lv_at hl 2 rfl) ?_
  refine zL_arg S I1.2.2.2.2 hl hL 1 (by decide) (by omega) dL_1046 dL_1047 dL_1048 dL_1049 dL_1050 ?_
  refine zL_callM S I1 hl (ctX5_kindest (xs (i + 1)) hm _ hw) zy_X5_kindest zm_L_124 (by decide) rfl rfl (Nat.le_of_ble_eq_true rfl) hcl hsl dL_1051 (fun r2 hm1 H2 locs2 hw2 I2 => ?_)
  obtain ⟨e1, hR2⟩ := hw2
  exact lv_icmp_eq (tgt := 1688) hx hb dL_1054 (by decide) (fun _ => kk _ _ H2 locs2 hR2 I2) (fun q => absurd e1 q)
theorem law_c27 (S : lw_S p s m c b L xs D cI cR ad1 ad2) (hL : L ≤ 3072) (hi : i + 6 ≤ L) (hcl : cells ≤ 600000) (hsl : slots ≤ 7302250) (hR : Rel hc hm) (I : lw_I s D cI cR ad1 ad2 hc hm H locs) (hl : lv_has ls 4 [(0, .ref b), (1, .ref (ad1 0)), (2, .ref (ad2 0)), (3, .int (nI i))]) (kk : ∀ (hc' hm' : zz_H) (H1 : Heap) (locs1 : List Loc), Rel hc' hm' → lw_I s D cI cR ad1 ad2 hc' hm' H1 locs1 → W p l e room_1 s m #[Value.ref b] below meth c H1 locs1 cells slots Q (F0 m 1688 ls [])) : W p l e room_1 s m #[Value.ref b] below meth c H locs cells slots Q (F0 m 1059 ls []) := by
  have hx := S.1
  have hb := S.2.1
  refine lv_aload_n hx hb dL_1059 rfl (lv_at hl 1 rfl) ?_
  refine zL_arg S I.2.2.2.2 hl hL 1 (by decide) (by omega) dL_1060 dL_1061 dL_1062 dL_1063 dL_1064 ?_
  refine zL_arg S I.2.2.2.2 hl hL 2 (by decide) (by omega) dL_1065 dL_1066 dL_1067 dL_1068 dL_1069 ?_
  refine zL_callC S I hl (ctX4_byFor (xs (i + 1)) (xs (i + 2)) hc _ (op_byFor hR (xs (i + 1)) (xs (i + 2)))) zy_X4_byFor zm_L_125 (by decide) rfl rfl (by decide) hcl hsl dL_1070 (fun r hc1 H1 locs1 hw I1 => ?_)
  refine lv_aload_n hx hb dL_1073 rfl (lv_at hl 2 rfl) ?_
  refine zL_arg S I1.2.2.2.2 hl hL 1 (by decide) (by omega) dL_1074 dL_1075 dL_1076 dL_1077 dL_1078 ?_
  refine zL_arg S I1.2.2.2.2 hl hL 2 (by decide) (by omega) dL_1079 dL_1080 dL_1081 dL_1082 dL_1083 ?_
  refine zL_callM S I1 hl (ctX5_byFor (xs (i + 1)) (xs (i + 2)) hm _ hw) zy_X5_byFor zm_L_128 (by decide) rfl rfl (Nat.le_of_ble_eq_true rfl) hcl hsl dL_1084 (fun r2 hm1 H2 locs2 hw2 I2 => ?_)
  obtain ⟨e1, hR2⟩ := hw2
  exact lv_icmp_eq (tgt := 1688) hx hb dL_1087 (by decide) (fun _ => kk _ _ H2 locs2 hR2 I2) (fun q => absurd e1 q)
theorem law_c28 (S : lw_S p s m c b L xs D cI cR ad1 ad2) (hL : L ≤ 3072) (hi : i + 6 ≤ L) (hcl : cells ≤ 600000) (hsl : slots ≤ 7302250) (hR : Rel hc hm) (I : lw_I s D cI cR ad1 ad2 hc hm H locs) (hl : lv_has ls 4 [(0, .ref b), (1, .ref (ad1 0)), (2, .ref (ad2 0)), (3, .int (nI i))]) (kk : ∀ (hc' hm' : zz_H) (H1 : Heap) (locs1 : List Loc), Rel hc' hm' → lw_I s D cI cR ad1 ad2 hc' hm' H1 locs1 → W p l e room_1 s m #[Value.ref b] below meth c H1 locs1 cells slots Q (F0 m 1688 ls [])) : W p l e room_1 s m #[Value.ref b] below meth c H locs cells slots Q (F0 m 1092 ls []) := by
  have hx := S.1
  have hb := S.2.1
  refine lv_aload_n hx hb dL_1092 rfl (lv_at hl 1 rfl) ?_
  refine zL_arg S I.2.2.2.2 hl hL 1 (by decide) (by omega) dL_1093 dL_1094 dL_1095 dL_1096 dL_1097 ?_
  refine zL_arg S I.2.2.2.2 hl hL 2 (by decide) (by omega) dL_1098 dL_1099 dL_1100 dL_1101 dL_1102 ?_
  refine zL_arg S I.2.2.2.2 hl hL 3 (by decide) (by omega) dL_1103 dL_1104 dL_1105 dL_1106 dL_1107 ?_
  refine zL_callC S I hl (ctX4_letters (xs (i + 1)) (xs (i + 2)) (xs (i + 3)) hc _ (op_letters hR (xs (i + 1)) (xs (i + 2)) (xs (i + 3)))) zy_X4_letters zm_L_129 (by decide) rfl rfl (by decide) hcl hsl dL_1108 (fun r hc1 H1 locs1 hw I1 => ?_)
  refine lv_aload_n hx hb dL_1111 rfl (lv_at hl 2 rfl) ?_
  refine zL_arg S I1.2.2.2.2 hl hL 1 (by decide) (by omega) dL_1112 dL_1113 dL_1114 dL_1115 dL_1116 ?_
  refine zL_arg S I1.2.2.2.2 hl hL 2 (by decide) (by omega) dL_1117 dL_1118 dL_1119 dL_1120 dL_1121 ?_
  refine zL_arg S I1.2.2.2.2 hl hL 3 (by decide) (by omega) dL_1122 dL_1123 dL_1124 dL_1125 dL_1126 ?_
  refine zL_callM S I1 hl (ctX5_letters (xs (i + 1)) (xs (i + 2)) (xs (i + 3)) hm _ hw) zy_X5_letters zm_L_133 (by decide) rfl rfl (Nat.le_of_ble_eq_true rfl) hcl hsl dL_1127 (fun r2 hm1 H2 locs2 hw2 I2 => ?_)
  obtain ⟨e1, hR2⟩ := hw2
  exact lv_icmp_eq (tgt := 1688) hx hb dL_1130 (by decide) (fun _ => kk _ _ H2 locs2 hR2 I2) (fun q => absurd e1 q)
theorem law_c29 (S : lw_S p s m c b L xs D cI cR ad1 ad2) (hL : L ≤ 3072) (hi : i + 6 ≤ L) (hcl : cells ≤ 600000) (hsl : slots ≤ 7302250) (hR : Rel hc hm) (I : lw_I s D cI cR ad1 ad2 hc hm H locs) (hl : lv_has ls 4 [(0, .ref b), (1, .ref (ad1 0)), (2, .ref (ad2 0)), (3, .int (nI i))]) (kk : ∀ (hc' hm' : zz_H) (H1 : Heap) (locs1 : List Loc), Rel hc' hm' → lw_I s D cI cR ad1 ad2 hc' hm' H1 locs1 → W p l e room_1 s m #[Value.ref b] below meth c H1 locs1 cells slots Q (F0 m 1688 ls [])) : W p l e room_1 s m #[Value.ref b] below meth c H locs cells slots Q (F0 m 1135 ls []) := by
  have hx := S.1
  have hb := S.2.1
  refine lv_aload_n hx hb dL_1135 rfl (lv_at hl 1 rfl) ?_
  refine zL_callC S I hl (ctX4_lean  hc _ (op_lean hR )) zy_X4_lean zm_L_134 (by decide) rfl rfl (by decide) hcl hsl dL_1136 (fun r hc1 H1 locs1 hw I1 => ?_)
  obtain ⟨rfl, hw⟩ := hw
  refine lv_aload_n hx hb dL_1139 rfl (lv_at hl 2 rfl) ?_
  refine zL_callM S I1 hl (ctX5_lean  hm _ hw) zy_X5_lean zm_L_137 (by decide) rfl rfl (Nat.le_of_ble_eq_true rfl) hcl hsl dL_1140 (fun r2 hm1 H2 locs2 hw2 I2 => ?_)
  obtain ⟨rfl, e1⟩ := hw2
  have hR2 := hR
  exact lv_icmp_eq (tgt := 1688) hx hb dL_1143 (by decide) (fun _ => kk _ _ H2 locs2 hR2 I2) (fun q => absurd e1 q)
theorem law_c30 (S : lw_S p s m c b L xs D cI cR ad1 ad2) (hL : L ≤ 3072) (hi : i + 6 ≤ L) (hcl : cells ≤ 600000) (hsl : slots ≤ 7302250) (hR : Rel hc hm) (I : lw_I s D cI cR ad1 ad2 hc hm H locs) (hl : lv_has ls 4 [(0, .ref b), (1, .ref (ad1 0)), (2, .ref (ad2 0)), (3, .int (nI i))]) (kk : ∀ (hc' hm' : zz_H) (H1 : Heap) (locs1 : List Loc), Rel hc' hm' → lw_I s D cI cR ad1 ad2 hc' hm' H1 locs1 → W p l e room_1 s m #[Value.ref b] below meth c H1 locs1 cells slots Q (F0 m 1688 ls [])) : W p l e room_1 s m #[Value.ref b] below meth c H locs cells slots Q (F0 m 1148 ls []) := by
  have hx := S.1
  have hb := S.2.1
  refine lv_aload_n hx hb dL_1148 rfl (lv_at hl 1 rfl) ?_
  refine zL_arg S I.2.2.2.2 hl hL 1 (by decide) (by omega) dL_1149 dL_1150 dL_1151 dL_1152 dL_1153 ?_
  refine zL_callC S I hl (ctX4_right (xs (i + 1)) hc _ (op_right hR (xs (i + 1)))) zy_X4_right zm_L_138 (by decide) rfl rfl (by decide) hcl hsl dL_1154 (fun r hc1 H1 locs1 hw I1 => ?_)
  refine lv_aload_n hx hb dL_1157 rfl (lv_at hl 2 rfl) ?_
  refine zL_arg S I1.2.2.2.2 hl hL 1 (by decide) (by omega) dL_1158 dL_1159 dL_1160 dL_1161 dL_1162 ?_
  refine zL_callM S I1 hl (ctX5_right (xs (i + 1)) hm _ hw) zy_X5_right zm_L_141 (by decide) rfl rfl (Nat.le_of_ble_eq_true rfl) hcl hsl dL_1163 (fun r2 hm1 H2 locs2 hw2 I2 => ?_)
  obtain ⟨e1, hR2⟩ := hw2
  exact lv_icmp_eq (tgt := 1688) hx hb dL_1166 (by decide) (fun _ => kk _ _ H2 locs2 hR2 I2) (fun q => absurd e1 q)
theorem law_c31 (S : lw_S p s m c b L xs D cI cR ad1 ad2) (hL : L ≤ 3072) (hi : i + 6 ≤ L) (hcl : cells ≤ 600000) (hsl : slots ≤ 7302250) (hR : Rel hc hm) (I : lw_I s D cI cR ad1 ad2 hc hm H locs) (hl : lv_has ls 4 [(0, .ref b), (1, .ref (ad1 0)), (2, .ref (ad2 0)), (3, .int (nI i))]) (kk : ∀ (hc' hm' : zz_H) (H1 : Heap) (locs1 : List Loc), Rel hc' hm' → lw_I s D cI cR ad1 ad2 hc' hm' H1 locs1 → W p l e room_1 s m #[Value.ref b] below meth c H1 locs1 cells slots Q (F0 m 1688 ls [])) : W p l e room_1 s m #[Value.ref b] below meth c H locs cells slots Q (F0 m 1171 ls []) := by
  have hx := S.1
  have hb := S.2.1
  refine lv_aload_n hx hb dL_1171 rfl (lv_at hl 1 rfl) ?_
  refine zL_arg S I.2.2.2.2 hl hL 1 (by decide) (by omega) dL_1172 dL_1173 dL_1174 dL_1175 dL_1176 ?_
  refine zL_callC S I hl (ctX4_unlike (xs (i + 1)) hc _ (op_unlike hR (xs (i + 1)))) zy_X4_unlike zm_L_142 (by decide) rfl rfl (by decide) hcl hsl dL_1177 (fun r hc1 H1 locs1 hw I1 => ?_)
  refine lv_aload_n hx hb dL_1180 rfl (lv_at hl 2 rfl) ?_
  refine zL_arg S I1.2.2.2.2 hl hL 1 (by decide) (by omega) dL_1181 dL_1182 dL_1183 dL_1184 dL_1185 ?_
  refine zL_callM S I1 hl (ctX5_unlike (xs (i + 1)) hm _ hw) zy_X5_unlike zm_L_145 (by decide) rfl rfl (Nat.le_of_ble_eq_true rfl) hcl hsl dL_1186 (fun r2 hm1 H2 locs2 hw2 I2 => ?_)
  obtain ⟨e1, hR2⟩ := hw2
  exact lv_icmp_eq (tgt := 1688) hx hb dL_1189 (by decide) (fun _ => kk _ _ H2 locs2 hR2 I2) (fun q => absurd e1 q)
theorem law_c32 (S : lw_S p s m c b L xs D cI cR ad1 ad2) (hL : L ≤ 3072) (hi : i + 6 ≤ L) (hcl : cells ≤ 600000) (hsl : slots ≤ 7302250) (hR : Rel hc hm) (I : lw_I s D cI cR ad1 ad2 hc hm H locs) (hl : lv_has ls 4 [(0, .ref b), (1, .ref (ad1 0)), (2, .ref (ad2 0)), (3, .int (nI i))]) (kk : ∀ (hc' hm' : zz_H) (H1 : Heap) (locs1 : List Loc), Rel hc' hm' → lw_I s D cI cR ad1 ad2 hc' hm' H1 locs1 → W p l e room_1 s m #[Value.ref b] below meth c H1 locs1 cells slots Q (F0 m 1688 ls [])) : W p l e room_1 s m #[Value.ref b] below meth c H locs cells slots Q (F0 m 1194 ls []) := by
  have hx := S.1
  have hb := S.2.1
  refine lv_aload_n hx hb dL_1194 rfl (lv_at hl 1 rfl) ?_
  refine zL_arg S I.2.2.2.2 hl hL 1 (by decide) (by omega) dL_1195 dL_1196 dL_1197 dL_1198 dL_1199 ?_
  refine zL_callC S I hl (ctX4_counts (xs (i + 1)) hc _ (op_counts hR (xs (i + 1)))) zy_X4_counts zm_L_146 (by decide) rfl rfl (by decide) hcl hsl dL_1200 (fun r hc1 H1 locs1 hw I1 => ?_)
  refine lv_aload_n hx hb dL_1203 rfl (lv_at hl 2 rfl) ?_
  refine zL_arg S I1.2.2.2.2 hl hL 1 (by decide) (by omega) dL_1204 dL_1205 dL_1206 dL_1207 dL_1208 ?_
  refine zL_callM S I1 hl (ctX5_counts (xs (i + 1)) hm _ hw) zy_X5_counts zm_L_149 (by decide) rfl rfl (Nat.le_of_ble_eq_true rfl) hcl hsl dL_1209 (fun r2 hm1 H2 locs2 hw2 I2 => ?_)
  obtain ⟨e1, hR2⟩ := hw2
  exact lv_icmp_eq (tgt := 1688) hx hb dL_1212 (by decide) (fun _ => kk _ _ H2 locs2 hR2 I2) (fun q => absurd e1 q)
theorem law_c33 (S : lw_S p s m c b L xs D cI cR ad1 ad2) (hL : L ≤ 3072) (hi : i + 6 ≤ L) (hcl : cells ≤ 600000) (hsl : slots ≤ 7302250) (hR : Rel hc hm) (I : lw_I s D cI cR ad1 ad2 hc hm H locs) (hl : lv_has ls 4 [(0, .ref b), (1, .ref (ad1 0)), (2, .ref (ad2 0)), (3, .int (nI i))]) (kk : ∀ (hc' hm' : zz_H) (H1 : Heap) (locs1 : List Loc), Rel hc' hm' → lw_I s D cI cR ad1 ad2 hc' hm' H1 locs1 → W p l e room_1 s m #[Value.ref b] below meth c H1 locs1 cells slots Q (F0 m 1688 ls [])) : W p l e room_1 s m #[Value.ref b] below meth c H locs cells slots Q (F0 m 1217 ls []) := by
  have hx := S.1
  have hb := S.2.1
  refine lv_aload_n hx hb dL_1217 rfl (lv_at hl 1 rfl) ?_
  refine zL_callC S I hl (ctX4_heavy  hc _ (op_heavy hR )) zy_X4_heavy zm_L_150 (by decide) rfl rfl (by decide) hcl hsl dL_1218 (fun r hc1 H1 locs1 hw I1 => ?_)
  refine lv_aload_n hx hb dL_1221 rfl (lv_at hl 2 rfl) ?_
  refine zL_callM S I1 hl (ctX5_heavy  hm _ hw) zy_X5_heavy zm_L_153 (by decide) rfl rfl (Nat.le_of_ble_eq_true rfl) hcl hsl dL_1222 (fun r2 hm1 H2 locs2 hw2 I2 => ?_)
  obtain ⟨rfl, e1, hR2⟩ := hw2
  exact lv_icmp_eq (tgt := 1688) hx hb dL_1225 (by decide) (fun _ => kk _ _ H2 locs2 hR2 I2) (fun q => absurd e1 q)
theorem law_c34 (S : lw_S p s m c b L xs D cI cR ad1 ad2) (hL : L ≤ 3072) (hi : i + 6 ≤ L) (hcl : cells ≤ 600000) (hsl : slots ≤ 7302250) (hR : Rel hc hm) (I : lw_I s D cI cR ad1 ad2 hc hm H locs) (hl : lv_has ls 4 [(0, .ref b), (1, .ref (ad1 0)), (2, .ref (ad2 0)), (3, .int (nI i))]) (kk : ∀ (hc' hm' : zz_H) (H1 : Heap) (locs1 : List Loc), Rel hc' hm' → lw_I s D cI cR ad1 ad2 hc' hm' H1 locs1 → W p l e room_1 s m #[Value.ref b] below meth c H1 locs1 cells slots Q (F0 m 1688 ls [])) : W p l e room_1 s m #[Value.ref b] below meth c H locs cells slots Q (F0 m 1230 ls []) := by
  have hx := S.1
  have hb := S.2.1
  refine lv_aload_n hx hb dL_1230 rfl (lv_at hl 1 rfl) ?_
  refine zL_arg S I.2.2.2.2 hl hL 1 (by decide) (by omega) dL_1231 dL_1232 dL_1233 dL_1234 dL_1235 ?_
  refine zL_callC S I hl (ctX4_seed (xs (i + 1)) hc _ (op_seed hR (xs (i + 1)))) zy_X4_seed zm_L_154 (by decide) rfl rfl (by decide) hcl hsl dL_1236 (fun r hc1 H1 locs1 hw I1 => ?_)
  refine lv_aload_n hx hb dL_1239 rfl (lv_at hl 2 rfl) ?_
  refine zL_arg S I1.2.2.2.2 hl hL 1 (by decide) (by omega) dL_1240 dL_1241 dL_1242 dL_1243 dL_1244 ?_
  refine zL_callM S I1 hl (ctX5_seed (xs (i + 1)) hm _ hw) zy_X5_seed zm_L_157 (by decide) rfl rfl (Nat.le_of_ble_eq_true rfl) hcl hsl dL_1245 (fun r2 hm1 H2 locs2 hw2 I2 => ?_)
  obtain ⟨e1, hR2⟩ := hw2
  exact lv_icmp_eq (tgt := 1688) hx hb dL_1248 (by decide) (fun _ => kk _ _ H2 locs2 hR2 I2) (fun q => absurd e1 q)
theorem law_c35 (S : lw_S p s m c b L xs D cI cR ad1 ad2) (hL : L ≤ 3072) (hi : i + 6 ≤ L) (hcl : cells ≤ 600000) (hsl : slots ≤ 7302250) (hR : Rel hc hm) (I : lw_I s D cI cR ad1 ad2 hc hm H locs) (hl : lv_has ls 4 [(0, .ref b), (1, .ref (ad1 0)), (2, .ref (ad2 0)), (3, .int (nI i))]) (kk : ∀ (hc' hm' : zz_H) (H1 : Heap) (locs1 : List Loc), Rel hc' hm' → lw_I s D cI cR ad1 ad2 hc' hm' H1 locs1 → W p l e room_1 s m #[Value.ref b] below meth c H1 locs1 cells slots Q (F0 m 1688 ls [])) : W p l e room_1 s m #[Value.ref b] below meth c H locs cells slots Q (F0 m 1253 ls []) := by
  have hx := S.1
  have hb := S.2.1
  refine lv_aload_n hx hb dL_1253 rfl (lv_at hl 1 rfl) ?_
  refine zL_arg S I.2.2.2.2 hl hL 1 (by decide) (by omega) dL_1254 dL_1255 dL_1256 dL_1257 dL_1258 ?_
  refine zL_arg S I.2.2.2.2 hl hL 2 (by decide) (by omega) dL_1259 dL_1260 dL_1261 dL_1262 dL_1263 ?_
  refine zL_callC S I hl (ctX4_feed (xs (i + 1)) (xs (i + 2)) hc _ (op_feed hR (xs (i + 1)) (xs (i + 2)))) zy_X4_feed zm_L_158 (by decide) rfl rfl (by decide) hcl hsl dL_1264 (fun r hc1 H1 locs1 hw I1 => ?_)
  refine lv_aload_n hx hb dL_1267 rfl (lv_at hl 2 rfl) ?_
  refine zL_arg S I1.2.2.2.2 hl hL 1 (by decide) (by omega) dL_1268 dL_1269 dL_1270 dL_1271 dL_1272 ?_
  refine zL_arg S I1.2.2.2.2 hl hL 2 (by decide) (by omega) dL_1273 dL_1274 dL_1275 dL_1276 dL_1277 ?_
  refine zL_callM S I1 hl (ctX5_feed (xs (i + 1)) (xs (i + 2)) hm _ hw) zy_X5_feed zm_L_161 (by decide) rfl rfl (Nat.le_of_ble_eq_true rfl) hcl hsl dL_1278 (fun r2 hm1 H2 locs2 hw2 I2 => ?_)
  obtain ⟨e1, hR2⟩ := hw2
  exact lv_icmp_eq (tgt := 1688) hx hb dL_1281 (by decide) (fun _ => kk _ _ H2 locs2 hR2 I2) (fun q => absurd e1 q)
theorem law_c36 (S : lw_S p s m c b L xs D cI cR ad1 ad2) (hL : L ≤ 3072) (hi : i + 6 ≤ L) (hcl : cells ≤ 600000) (hsl : slots ≤ 7302250) (hR : Rel hc hm) (I : lw_I s D cI cR ad1 ad2 hc hm H locs) (hl : lv_has ls 4 [(0, .ref b), (1, .ref (ad1 0)), (2, .ref (ad2 0)), (3, .int (nI i))]) (kk : ∀ (hc' hm' : zz_H) (H1 : Heap) (locs1 : List Loc), Rel hc' hm' → lw_I s D cI cR ad1 ad2 hc' hm' H1 locs1 → W p l e room_1 s m #[Value.ref b] below meth c H1 locs1 cells slots Q (F0 m 1688 ls [])) : W p l e room_1 s m #[Value.ref b] below meth c H locs cells slots Q (F0 m 1286 ls []) := by
  have hx := S.1
  have hb := S.2.1
  refine lv_aload_n hx hb dL_1286 rfl (lv_at hl 1 rfl) ?_
  refine zL_callC S I hl (ctX4_wipe  hc _ (op_wipe hR )) zy_X4_wipe zm_L_162 (by decide) rfl rfl (by decide) hcl hsl dL_1287 (fun r hc1 H1 locs1 hw I1 => ?_)
  refine lv_aload_n hx hb dL_1290 rfl (lv_at hl 2 rfl) ?_
  refine zL_callM S I1 hl (ctX5_wipe  hm _ hw) zy_X5_wipe zm_L_165 (by decide) rfl rfl (Nat.le_of_ble_eq_true rfl) hcl hsl dL_1291 (fun r2 hm1 H2 locs2 hw2 I2 => ?_)
  obtain ⟨e1, hR2⟩ := hw2
  exact lv_icmp_eq (tgt := 1688) hx hb dL_1294 (by decide) (fun _ => kk _ _ H2 locs2 hR2 I2) (fun q => absurd e1 q)
theorem law_c37 (S : lw_S p s m c b L xs D cI cR ad1 ad2) (hL : L ≤ 3072) (hi : i + 6 ≤ L) (hcl : cells ≤ 600000) (hsl : slots ≤ 7302250) (hR : Rel hc hm) (I : lw_I s D cI cR ad1 ad2 hc hm H locs) (hl : lv_has ls 4 [(0, .ref b), (1, .ref (ad1 0)), (2, .ref (ad2 0)), (3, .int (nI i))]) (kk : ∀ (hc' hm' : zz_H) (H1 : Heap) (locs1 : List Loc), Rel hc' hm' → lw_I s D cI cR ad1 ad2 hc' hm' H1 locs1 → W p l e room_1 s m #[Value.ref b] below meth c H1 locs1 cells slots Q (F0 m 1688 ls [])) : W p l e room_1 s m #[Value.ref b] below meth c H locs cells slots Q (F0 m 1299 ls []) := by
  have hx := S.1
  have hb := S.2.1
  refine lv_aload_n hx hb dL_1299 rfl (lv_at hl 1 rfl) ?_
  refine zL_callC S I hl (ctX4_text  hc _ (op_text hR )) zy_X4_text zm_L_166 (by decide) rfl rfl (by decide) hcl hsl dL_1300 (fun r hc1 H1 locs1 hw I1 => ?_)
  refine lv_aload_n hx hb dL_1303 rfl (lv_at hl 2 rfl) ?_
  refine zL_callM S I1 hl (ctX5_text  hm _ hw) zy_X5_text zm_L_169 (by decide) rfl rfl (Nat.le_of_ble_eq_true rfl) hcl hsl dL_1304 (fun r2 hm1 H2 locs2 hw2 I2 => ?_)
  obtain ⟨e1, hR2⟩ := hw2
  exact lv_icmp_eq (tgt := 1688) hx hb dL_1307 (by decide) (fun _ => kk _ _ H2 locs2 hR2 I2) (fun q => absurd e1 q)
theorem law_c38 (S : lw_S p s m c b L xs D cI cR ad1 ad2) (hL : L ≤ 3072) (hi : i + 6 ≤ L) (hcl : cells ≤ 600000) (hsl : slots ≤ 7302250) (hR : Rel hc hm) (I : lw_I s D cI cR ad1 ad2 hc hm H locs) (hl : lv_has ls 4 [(0, .ref b), (1, .ref (ad1 0)), (2, .ref (ad2 0)), (3, .int (nI i))]) (kk : ∀ (hc' hm' : zz_H) (H1 : Heap) (locs1 : List Loc), Rel hc' hm' → lw_I s D cI cR ad1 ad2 hc' hm' H1 locs1 → W p l e room_1 s m #[Value.ref b] below meth c H1 locs1 cells slots Q (F0 m 1688 ls [])) : W p l e room_1 s m #[Value.ref b] below meth c H locs cells slots Q (F0 m 1312 ls []) := by
  have hx := S.1
  have hb := S.2.1
  refine lv_aload_n hx hb dL_1312 rfl (lv_at hl 1 rfl) ?_
  refine zL_arg S I.2.2.2.2 hl hL 1 (by decide) (by omega) dL_1313 dL_1314 dL_1315 dL_1316 dL_1317 ?_
  refine zL_arg S I.2.2.2.2 hl hL 2 (by decide) (by omega) dL_1318 dL_1319 dL_1320 dL_1321 dL_1322 ?_
  refine zL_callC S I hl (ctX4_hold (xs (i + 1)) (xs (i + 2)) hc _ (op_hold hR (xs (i + 1)) (xs (i + 2)))) zy_X4_hold zm_L_170 (by decide) rfl rfl (by decide) hcl hsl dL_1323 (fun r hc1 H1 locs1 hw I1 => ?_)
  refine lv_aload_n hx hb dL_1326 rfl (lv_at hl 2 rfl) ?_
  refine zL_arg S I1.2.2.2.2 hl hL 1 (by decide) (by omega) dL_1327 dL_1328 dL_1329 dL_1330 dL_1331 ?_
  refine zL_arg S I1.2.2.2.2 hl hL 2 (by decide) (by omega) dL_1332 dL_1333 dL_1334 dL_1335 dL_1336 ?_
  refine zL_callM S I1 hl (ctX5_hold (xs (i + 1)) (xs (i + 2)) hm _ hw) zy_X5_hold zm_L_173 (by decide) rfl rfl (Nat.le_of_ble_eq_true rfl) hcl hsl dL_1337 (fun r2 hm1 H2 locs2 hw2 I2 => ?_)
  obtain ⟨e1, hR2⟩ := hw2
  exact lv_icmp_eq (tgt := 1688) hx hb dL_1340 (by decide) (fun _ => kk _ _ H2 locs2 hR2 I2) (fun q => absurd e1 q)
theorem law_c39 (S : lw_S p s m c b L xs D cI cR ad1 ad2) (hL : L ≤ 3072) (hi : i + 6 ≤ L) (hcl : cells ≤ 600000) (hsl : slots ≤ 7302250) (hR : Rel hc hm) (I : lw_I s D cI cR ad1 ad2 hc hm H locs) (hl : lv_has ls 4 [(0, .ref b), (1, .ref (ad1 0)), (2, .ref (ad2 0)), (3, .int (nI i))]) (kk : ∀ (hc' hm' : zz_H) (H1 : Heap) (locs1 : List Loc), Rel hc' hm' → lw_I s D cI cR ad1 ad2 hc' hm' H1 locs1 → W p l e room_1 s m #[Value.ref b] below meth c H1 locs1 cells slots Q (F0 m 1688 ls [])) : W p l e room_1 s m #[Value.ref b] below meth c H locs cells slots Q (F0 m 1345 ls []) := by
  have hx := S.1
  have hb := S.2.1
  refine lv_aload_n hx hb dL_1345 rfl (lv_at hl 1 rfl) ?_
  refine zL_arg S I.2.2.2.2 hl hL 1 (by decide) (by omega) dL_1346 dL_1347 dL_1348 dL_1349 dL_1350 ?_
  refine zL_arg S I.2.2.2.2 hl hL 2 (by decide) (by omega) dL_1351 dL_1352 dL_1353 dL_1354 dL_1355 ?_
  refine zL_callC S I hl (ctX4_as (xs (i + 1)) (xs (i + 2)) hc _ (op_as hR (xs (i + 1)) (xs (i + 2)))) zy_X4_as zm_L_174 (by decide) rfl rfl (by decide) hcl hsl dL_1356 (fun r hc1 H1 locs1 hw I1 => ?_)
  refine lv_aload_n hx hb dL_1359 rfl (lv_at hl 2 rfl) ?_
  refine zL_arg S I1.2.2.2.2 hl hL 1 (by decide) (by omega) dL_1360 dL_1361 dL_1362 dL_1363 dL_1364 ?_
  refine zL_arg S I1.2.2.2.2 hl hL 2 (by decide) (by omega) dL_1365 dL_1366 dL_1367 dL_1368 dL_1369 ?_
  refine zL_callM S I1 hl (ctX5_as (xs (i + 1)) (xs (i + 2)) hm _ hw) zy_X5_as zm_L_177 (by decide) rfl rfl (Nat.le_of_ble_eq_true rfl) hcl hsl dL_1370 (fun r2 hm1 H2 locs2 hw2 I2 => ?_)
  obtain ⟨e1, hR2⟩ := hw2
  exact lv_icmp_eq (tgt := 1688) hx hb dL_1373 (by decide) (fun _ => kk _ _ H2 locs2 hR2 I2) (fun q => absurd e1 q)
theorem law_c40 (S : lw_S p s m c b L xs D cI cR ad1 ad2) (hL : L ≤ 3072) (hi : i + 6 ≤ L) (hcl : cells ≤ 600000) (hsl : slots ≤ 7302250) (hR : Rel hc hm) (I : lw_I s D cI cR ad1 ad2 hc hm H locs) (hl : lv_has ls 4 [(0, .ref b), (1, .ref (ad1 0)), (2, .ref (ad2 0)), (3, .int (nI i))]) (kk : ∀ (hc' hm' : zz_H) (H1 : Heap) (locs1 : List Loc), Rel hc' hm' → lw_I s D cI cR ad1 ad2 hc' hm' H1 locs1 → W p l e room_1 s m #[Value.ref b] below meth c H1 locs1 cells slots Q (F0 m 1688 ls [])) : W p l e room_1 s m #[Value.ref b] below meth c H locs cells slots Q (F0 m 1378 ls []) := by
  have hx := S.1
  have hb := S.2.1
  refine lv_aload_n hx hb dL_1378 rfl (lv_at hl 1 rfl) ?_
  refine zL_arg S I.2.2.2.2 hl hL 1 (by decide) (by omega) dL_1379 dL_1380 dL_1381 dL_1382 dL_1383 ?_
  refine zL_arg S I.2.2.2.2 hl hL 2 (by decide) (by omega) dL_1384 dL_1385 dL_1386 dL_1387 dL_1388 ?_
  refine zL_arg S I.2.2.2.2 hl hL 3 (by decide) (by omega) dL_1389 dL_1390 dL_1391 dL_1392 dL_1393 ?_
  refine zL_callC S I hl (ctX4_sheet (xs (i + 1)) (xs (i + 2)) (xs (i + 3)) hc _ (op_sheet hR (xs (i + 1)) (xs (i + 2)) (xs (i + 3)))) zy_X4_sheet zm_L_178 (by decide) rfl rfl (by decide) hcl hsl dL_1394 (fun r hc1 H1 locs1 hw I1 => ?_)
  refine lv_aload_n hx hb dL_1397 rfl (lv_at hl 2 rfl) ?_
  refine zL_arg S I1.2.2.2.2 hl hL 1 (by decide) (by omega) dL_1398 dL_1399 dL_1400 dL_1401 dL_1402 ?_
  refine zL_arg S I1.2.2.2.2 hl hL 2 (by decide) (by omega) dL_1403 dL_1404 dL_1405 dL_1406 dL_1407 ?_
  refine zL_arg S I1.2.2.2.2 hl hL 3 (by decide) (by omega) dL_1408 dL_1409 dL_1410 dL_1411 dL_1412 ?_
  refine zL_callM S I1 hl (ctX5_sheet (xs (i + 1)) (xs (i + 2)) (xs (i + 3)) hm _ hw) zy_X5_sheet zm_L_181 (by decide) rfl rfl (Nat.le_of_ble_eq_true rfl) hcl hsl dL_1413 (fun r2 hm1 H2 locs2 hw2 I2 => ?_)
  obtain ⟨e1, hR2⟩ := hw2
  exact lv_icmp_eq (tgt := 1688) hx hb dL_1416 (by decide) (fun _ => kk _ _ H2 locs2 hR2 I2) (fun q => absurd e1 q)
theorem law_c41 (S : lw_S p s m c b L xs D cI cR ad1 ad2) (hL : L ≤ 3072) (hi : i + 6 ≤ L) (hcl : cells ≤ 600000) (hsl : slots ≤ 7302250) (hR : Rel hc hm) (I : lw_I s D cI cR ad1 ad2 hc hm H locs) (hl : lv_has ls 4 [(0, .ref b), (1, .ref (ad1 0)), (2, .ref (ad2 0)), (3, .int (nI i))]) (kk : ∀ (hc' hm' : zz_H) (H1 : Heap) (locs1 : List Loc), Rel hc' hm' → lw_I s D cI cR ad1 ad2 hc' hm' H1 locs1 → W p l e room_1 s m #[Value.ref b] below meth c H1 locs1 cells slots Q (F0 m 1688 ls [])) : W p l e room_1 s m #[Value.ref b] below meth c H locs cells slots Q (F0 m 1421 ls []) := by
  have hx := S.1
  have hb := S.2.1
  refine lv_aload_n hx hb dL_1421 rfl (lv_at hl 1 rfl) ?_
  refine zL_arg S I.2.2.2.2 hl hL 1 (by decide) (by omega) dL_1422 dL_1423 dL_1424 dL_1425 dL_1426 ?_
  refine zL_arg S I.2.2.2.2 hl hL 2 (by decide) (by omega) dL_1427 dL_1428 dL_1429 dL_1430 dL_1431 ?_
  refine zL_arg S I.2.2.2.2 hl hL 3 (by decide) (by omega) dL_1432 dL_1433 dL_1434 dL_1435 dL_1436 ?_
  refine zL_callC S I hl (ctX4_write (xs (i + 1)) (xs (i + 2)) (xs (i + 3)) hc _ (op_write hR (xs (i + 1)) (xs (i + 2)) (xs (i + 3)))) zy_X4_write zm_L_182 (by decide) rfl rfl (by decide) hcl hsl dL_1437 (fun r hc1 H1 locs1 hw I1 => ?_)
  refine lv_aload_n hx hb dL_1440 rfl (lv_at hl 2 rfl) ?_
  refine zL_arg S I1.2.2.2.2 hl hL 1 (by decide) (by omega) dL_1441 dL_1442 dL_1443 dL_1444 dL_1445 ?_
  refine zL_arg S I1.2.2.2.2 hl hL 2 (by decide) (by omega) dL_1446 dL_1447 dL_1448 dL_1449 dL_1450 ?_
  refine zL_arg S I1.2.2.2.2 hl hL 3 (by decide) (by omega) dL_1451 dL_1452 dL_1453 dL_1454 dL_1455 ?_
  refine zL_callM S I1 hl (ctX5_write (xs (i + 1)) (xs (i + 2)) (xs (i + 3)) hm _ hw) zy_X5_write zm_L_185 (by decide) rfl rfl (Nat.le_of_ble_eq_true rfl) hcl hsl dL_1456 (fun r2 hm1 H2 locs2 hw2 I2 => ?_)
  obtain ⟨e1, hR2⟩ := hw2
  exact lv_icmp_eq (tgt := 1688) hx hb dL_1459 (by decide) (fun _ => kk _ _ H2 locs2 hR2 I2) (fun q => absurd e1 q)
theorem law_c42 (S : lw_S p s m c b L xs D cI cR ad1 ad2) (hL : L ≤ 3072) (hi : i + 6 ≤ L) (hcl : cells ≤ 600000) (hsl : slots ≤ 7302250) (hR : Rel hc hm) (I : lw_I s D cI cR ad1 ad2 hc hm H locs) (hl : lv_has ls 4 [(0, .ref b), (1, .ref (ad1 0)), (2, .ref (ad2 0)), (3, .int (nI i))]) (kk : ∀ (hc' hm' : zz_H) (H1 : Heap) (locs1 : List Loc), Rel hc' hm' → lw_I s D cI cR ad1 ad2 hc' hm' H1 locs1 → W p l e room_1 s m #[Value.ref b] below meth c H1 locs1 cells slots Q (F0 m 1688 ls [])) : W p l e room_1 s m #[Value.ref b] below meth c H locs cells slots Q (F0 m 1464 ls []) := by
  have hx := S.1
  have hb := S.2.1
  refine lv_aload_n hx hb dL_1464 rfl (lv_at hl 1 rfl) ?_
  refine zL_arg S I.2.2.2.2 hl hL 1 (by decide) (by omega) dL_1465 dL_1466 dL_1467 dL_1468 dL_1469 ?_
  refine zL_arg S I.2.2.2.2 hl hL 2 (by decide) (by omega) dL_1470 dL_1471 dL_1472 dL_1473 dL_1474 ?_
  refine zL_arg S I.2.2.2.2 hl hL 3 (by decide) (by omega) dL_1475 dL_1476 dL_1477 dL_1478 dL_1479 ?_
  refine zL_arg S I.2.2.2.2 hl hL 4 (by decide) (by omega) dL_1480 dL_1481 dL_1482 dL_1483 dL_1484 ?_
  refine zL_arg S I.2.2.2.2 hl hL 5 (by decide) (by omega) dL_1485 dL_1486 dL_1487 dL_1488 dL_1489 ?_
  refine zL_callC S I hl (ctX4_copy (xs (i + 1)) (xs (i + 2)) (xs (i + 3)) (xs (i + 4)) (xs (i + 5)) hc _ (op_copy hR (xs (i + 1)) (xs (i + 2)) (xs (i + 3)) (xs (i + 4)) (xs (i + 5)))) zy_X4_copy zm_L_186 (by decide) rfl rfl (by decide) hcl hsl dL_1490 (fun r hc1 H1 locs1 hw I1 => ?_)
  refine lv_aload_n hx hb dL_1493 rfl (lv_at hl 2 rfl) ?_
  refine zL_arg S I1.2.2.2.2 hl hL 1 (by decide) (by omega) dL_1494 dL_1495 dL_1496 dL_1497 dL_1498 ?_
  refine zL_arg S I1.2.2.2.2 hl hL 2 (by decide) (by omega) dL_1499 dL_1500 dL_1501 dL_1502 dL_1503 ?_
  refine zL_arg S I1.2.2.2.2 hl hL 3 (by decide) (by omega) dL_1504 dL_1505 dL_1506 dL_1507 dL_1508 ?_
  refine zL_arg S I1.2.2.2.2 hl hL 4 (by decide) (by omega) dL_1509 dL_1510 dL_1511 dL_1512 dL_1513 ?_
  refine zL_arg S I1.2.2.2.2 hl hL 5 (by decide) (by omega) dL_1514 dL_1515 dL_1516 dL_1517 dL_1518 ?_
  refine zL_callM S I1 hl (ctX5_copy (xs (i + 1)) (xs (i + 2)) (xs (i + 3)) (xs (i + 4)) (xs (i + 5)) hm _ hw) zy_X5_copy zm_L_190 (by decide) rfl rfl (Nat.le_of_ble_eq_true rfl) hcl hsl dL_1519 (fun r2 hm1 H2 locs2 hw2 I2 => ?_)
  obtain ⟨e1, hR2⟩ := hw2
  exact lv_icmp_eq (tgt := 1688) hx hb dL_1522 (by decide) (fun _ => kk _ _ H2 locs2 hR2 I2) (fun q => absurd e1 q)
theorem law_c43 (S : lw_S p s m c b L xs D cI cR ad1 ad2) (hL : L ≤ 3072) (hi : i + 6 ≤ L) (hcl : cells ≤ 600000) (hsl : slots ≤ 7302250) (hR : Rel hc hm) (I : lw_I s D cI cR ad1 ad2 hc hm H locs) (hl : lv_has ls 4 [(0, .ref b), (1, .ref (ad1 0)), (2, .ref (ad2 0)), (3, .int (nI i))]) (kk : ∀ (hc' hm' : zz_H) (H1 : Heap) (locs1 : List Loc), Rel hc' hm' → lw_I s D cI cR ad1 ad2 hc' hm' H1 locs1 → W p l e room_1 s m #[Value.ref b] below meth c H1 locs1 cells slots Q (F0 m 1688 ls [])) : W p l e room_1 s m #[Value.ref b] below meth c H locs cells slots Q (F0 m 1527 ls []) := by
  have hx := S.1
  have hb := S.2.1
  refine lv_aload_n hx hb dL_1527 rfl (lv_at hl 1 rfl) ?_
  refine zL_arg S I.2.2.2.2 hl hL 1 (by decide) (by omega) dL_1528 dL_1529 dL_1530 dL_1531 dL_1532 ?_
  refine zL_arg S I.2.2.2.2 hl hL 2 (by decide) (by omega) dL_1533 dL_1534 dL_1535 dL_1536 dL_1537 ?_
  refine zL_arg S I.2.2.2.2 hl hL 3 (by decide) (by omega) dL_1538 dL_1539 dL_1540 dL_1541 dL_1542 ?_
  refine zL_callC S I hl (ctX4_load (xs (i + 1)) (xs (i + 2)) (xs (i + 3)) hc _ (op_load hR (xs (i + 1)) (xs (i + 2)) (xs (i + 3)))) zy_X4_load zm_L_191 (by decide) rfl rfl (by decide) hcl hsl dL_1543 (fun r hc1 H1 locs1 hw I1 => ?_)
  refine lv_aload_n hx hb dL_1546 rfl (lv_at hl 2 rfl) ?_
  refine zL_arg S I1.2.2.2.2 hl hL 1 (by decide) (by omega) dL_1547 dL_1548 dL_1549 dL_1550 dL_1551 ?_
  refine zL_arg S I1.2.2.2.2 hl hL 2 (by decide) (by omega) dL_1552 dL_1553 dL_1554 dL_1555 dL_1556 ?_
  refine zL_arg S I1.2.2.2.2 hl hL 3 (by decide) (by omega) dL_1557 dL_1558 dL_1559 dL_1560 dL_1561 ?_
  refine zL_callM S I1 hl (ctX5_load (xs (i + 1)) (xs (i + 2)) (xs (i + 3)) hm _ hw) zy_X5_load zm_L_194 (by decide) rfl rfl (Nat.le_of_ble_eq_true rfl) hcl hsl dL_1562 (fun r2 hm1 H2 locs2 hw2 I2 => ?_)
  obtain ⟨e1, hR2⟩ := hw2
  exact lv_icmp_eq (tgt := 1688) hx hb dL_1565 (by decide) (fun _ => kk _ _ H2 locs2 hR2 I2) (fun q => absurd e1 q)
theorem law_c44 (S : lw_S p s m c b L xs D cI cR ad1 ad2) (hL : L ≤ 3072) (hi : i + 6 ≤ L) (hcl : cells ≤ 600000) (hsl : slots ≤ 7302250) (hR : Rel hc hm) (I : lw_I s D cI cR ad1 ad2 hc hm H locs) (hl : lv_has ls 4 [(0, .ref b), (1, .ref (ad1 0)), (2, .ref (ad2 0)), (3, .int (nI i))]) (kk : ∀ (hc' hm' : zz_H) (H1 : Heap) (locs1 : List Loc), Rel hc' hm' → lw_I s D cI cR ad1 ad2 hc' hm' H1 locs1 → W p l e room_1 s m #[Value.ref b] below meth c H1 locs1 cells slots Q (F0 m 1688 ls [])) : W p l e room_1 s m #[Value.ref b] below meth c H locs cells slots Q (F0 m 1570 ls []) := by
  have hx := S.1
  have hb := S.2.1
  refine lv_aload_n hx hb dL_1570 rfl (lv_at hl 1 rfl) ?_
  refine zL_arg S I.2.2.2.2 hl hL 1 (by decide) (by omega) dL_1571 dL_1572 dL_1573 dL_1574 dL_1575 ?_
  refine zL_arg S I.2.2.2.2 hl hL 2 (by decide) (by omega) dL_1576 dL_1577 dL_1578 dL_1579 dL_1580 ?_
  refine zL_callC S I hl (ctX4_judge (xs (i + 1)) (xs (i + 2)) hc _ (op_judge hR (xs (i + 1)) (xs (i + 2)))) zy_X4_judge zm_L_195 (by decide) rfl rfl (by decide) hcl hsl dL_1581 (fun r hc1 H1 locs1 hw I1 => ?_)
  refine lv_aload_n hx hb dL_1584 rfl (lv_at hl 2 rfl) ?_
  refine zL_arg S I1.2.2.2.2 hl hL 1 (by decide) (by omega) dL_1585 dL_1586 dL_1587 dL_1588 dL_1589 ?_
  refine zL_arg S I1.2.2.2.2 hl hL 2 (by decide) (by omega) dL_1590 dL_1591 dL_1592 dL_1593 dL_1594 ?_
  refine zL_callM S I1 hl (ctX5_judge (xs (i + 1)) (xs (i + 2)) hm _ hw) zy_X5_judge zm_L_198 (by decide) rfl rfl (Nat.le_of_ble_eq_true rfl) hcl hsl dL_1595 (fun r2 hm1 H2 locs2 hw2 I2 => ?_)
  obtain ⟨e1, hR2⟩ := hw2
  exact lv_icmp_eq (tgt := 1688) hx hb dL_1598 (by decide) (fun _ => kk _ _ H2 locs2 hR2 I2) (fun q => absurd e1 q)
theorem law_c45 (S : lw_S p s m c b L xs D cI cR ad1 ad2) (hL : L ≤ 3072) (hi : i + 6 ≤ L) (hcl : cells ≤ 600000) (hsl : slots ≤ 7302250) (hR : Rel hc hm) (I : lw_I s D cI cR ad1 ad2 hc hm H locs) (hl : lv_has ls 4 [(0, .ref b), (1, .ref (ad1 0)), (2, .ref (ad2 0)), (3, .int (nI i))]) (kk : ∀ (hc' hm' : zz_H) (H1 : Heap) (locs1 : List Loc), Rel hc' hm' → lw_I s D cI cR ad1 ad2 hc' hm' H1 locs1 → W p l e room_1 s m #[Value.ref b] below meth c H1 locs1 cells slots Q (F0 m 1688 ls [])) : W p l e room_1 s m #[Value.ref b] below meth c H locs cells slots Q (F0 m 1603 ls []) := by
  have hx := S.1
  have hb := S.2.1
  refine lv_aload_n hx hb dL_1603 rfl (lv_at hl 1 rfl) ?_
  refine zL_callC S I hl (ctX4_image  hc _ (op_image hR )) zy_X4_image zm_L_199 (by decide) rfl rfl (by decide) hcl hsl dL_1604 (fun r hc1 H1 locs1 hw I1 => ?_)
  refine lv_aload_n hx hb dL_1607 rfl (lv_at hl 2 rfl) ?_
  refine zL_callM S I1 hl (ctX5_image  hm _ hw) zy_X5_image zm_L_202 (by decide) rfl rfl (Nat.le_of_ble_eq_true rfl) hcl hsl dL_1608 (fun r2 hm1 H2 locs2 hw2 I2 => ?_)
  obtain ⟨e1, hR2⟩ := hw2
  exact lv_icmp_eq (tgt := 1688) hx hb dL_1611 (by decide) (fun _ => kk _ _ H2 locs2 hR2 I2) (fun q => absurd e1 q)
theorem law_c46 (S : lw_S p s m c b L xs D cI cR ad1 ad2) (hL : L ≤ 3072) (hi : i + 6 ≤ L) (hcl : cells ≤ 600000) (hsl : slots ≤ 7302250) (hR : Rel hc hm) (I : lw_I s D cI cR ad1 ad2 hc hm H locs) (hl : lv_has ls 4 [(0, .ref b), (1, .ref (ad1 0)), (2, .ref (ad2 0)), (3, .int (nI i))]) (kk : ∀ (hc' hm' : zz_H) (H1 : Heap) (locs1 : List Loc), Rel hc' hm' → lw_I s D cI cR ad1 ad2 hc' hm' H1 locs1 → W p l e room_1 s m #[Value.ref b] below meth c H1 locs1 cells slots Q (F0 m 1688 ls [])) : W p l e room_1 s m #[Value.ref b] below meth c H locs cells slots Q (F0 m 1616 ls []) := by
  have hx := S.1
  have hb := S.2.1
  refine lv_aload_n hx hb dL_1616 rfl (lv_at hl 1 rfl) ?_
  refine zL_callC S I hl (ctX4_undo  hc _ (op_undo hR )) zy_X4_undo zm_L_203 (by decide) rfl rfl (by decide) hcl hsl dL_1617 (fun r hc1 H1 locs1 hw I1 => ?_)
  refine lv_aload_n hx hb dL_1620 rfl (lv_at hl 2 rfl) ?_
  refine zL_callM S I1 hl (ctX5_undo  hm _ hw) zy_X5_undo zm_L_206 (by decide) rfl rfl (Nat.le_of_ble_eq_true rfl) hcl hsl dL_1621 (fun r2 hm1 H2 locs2 hw2 I2 => ?_)
  obtain ⟨e1, hR2⟩ := hw2
  exact lv_icmp_eq (tgt := 1688) hx hb dL_1624 (by decide) (fun _ => kk _ _ H2 locs2 hR2 I2) (fun q => absurd e1 q)
theorem law_c47 (S : lw_S p s m c b L xs D cI cR ad1 ad2) (hL : L ≤ 3072) (hi : i + 6 ≤ L) (hcl : cells ≤ 600000) (hsl : slots ≤ 7302250) (hR : Rel hc hm) (I : lw_I s D cI cR ad1 ad2 hc hm H locs) (hl : lv_has ls 4 [(0, .ref b), (1, .ref (ad1 0)), (2, .ref (ad2 0)), (3, .int (nI i))]) (kk : ∀ (hc' hm' : zz_H) (H1 : Heap) (locs1 : List Loc), Rel hc' hm' → lw_I s D cI cR ad1 ad2 hc' hm' H1 locs1 → W p l e room_1 s m #[Value.ref b] below meth c H1 locs1 cells slots Q (F0 m 1688 ls [])) : W p l e room_1 s m #[Value.ref b] below meth c H locs cells slots Q (F0 m 1629 ls []) := by
  have hx := S.1
  have hb := S.2.1
  refine lv_aload_n hx hb dL_1629 rfl (lv_at hl 1 rfl) ?_
  refine zL_callC S I hl (ctX4_tear  hc _ (op_tear hR )) zy_X4_tear zm_L_207 (by decide) rfl rfl (by decide) hcl hsl dL_1630 (fun r hc1 H1 locs1 hw I1 => ?_)
  refine lv_aload_n hx hb dL_1633 rfl (lv_at hl 2 rfl) ?_
  refine zL_callM S I1 hl (ctX5_tear  hm _ hw) zy_X5_tear zm_L_210 (by decide) rfl rfl (Nat.le_of_ble_eq_true rfl) hcl hsl dL_1634 (fun r2 hm1 H2 locs2 hw2 I2 => ?_)
  obtain ⟨e1, hR2⟩ := hw2
  exact lv_icmp_eq (tgt := 1688) hx hb dL_1637 (by decide) (fun _ => kk _ _ H2 locs2 hR2 I2) (fun q => absurd e1 q)
theorem law_c48 (S : lw_S p s m c b L xs D cI cR ad1 ad2) (hL : L ≤ 3072) (hi : i + 6 ≤ L) (hcl : cells ≤ 600000) (hsl : slots ≤ 7302250) (hR : Rel hc hm) (I : lw_I s D cI cR ad1 ad2 hc hm H locs) (hl : lv_has ls 4 [(0, .ref b), (1, .ref (ad1 0)), (2, .ref (ad2 0)), (3, .int (nI i))]) (kk : ∀ (hc' hm' : zz_H) (H1 : Heap) (locs1 : List Loc), Rel hc' hm' → lw_I s D cI cR ad1 ad2 hc' hm' H1 locs1 → W p l e room_1 s m #[Value.ref b] below meth c H1 locs1 cells slots Q (F0 m 1688 ls [])) : W p l e room_1 s m #[Value.ref b] below meth c H locs cells slots Q (F0 m 1642 ls []) := by
  have hx := S.1
  have hb := S.2.1
  refine lv_aload_n hx hb dL_1642 rfl (lv_at hl 1 rfl) ?_
  refine zL_arg S I.2.2.2.2 hl hL 1 (by decide) (by omega) dL_1643 dL_1644 dL_1645 dL_1646 dL_1647 ?_
  refine zL_callC S I hl (ctX4_count (xs (i + 1)) hc _ (op_count hR (xs (i + 1)))) zy_X4_count zm_L_211 (by decide) rfl rfl (by decide) hcl hsl dL_1648 (fun r hc1 H1 locs1 hw I1 => ?_)
  refine lv_aload_n hx hb dL_1651 rfl (lv_at hl 2 rfl) ?_
  refine zL_arg S I1.2.2.2.2 hl hL 1 (by decide) (by omega) dL_1652 dL_1653 dL_1654 dL_1655 dL_1656 ?_
  refine zL_callM S I1 hl (ctX5_count (xs (i + 1)) hm _ hw) zy_X5_count zm_L_214 (by decide) rfl rfl (Nat.le_of_ble_eq_true rfl) hcl hsl dL_1657 (fun r2 hm1 H2 locs2 hw2 I2 => ?_)
  obtain ⟨e1, hR2⟩ := hw2
  exact lv_icmp_eq (tgt := 1688) hx hb dL_1660 (by decide) (fun _ => kk _ _ H2 locs2 hR2 I2) (fun q => absurd e1 q)
theorem law_c49 (S : lw_S p s m c b L xs D cI cR ad1 ad2) (hL : L ≤ 3072) (hi : i + 6 ≤ L) (hcl : cells ≤ 600000) (hsl : slots ≤ 7302250) (hR : Rel hc hm) (I : lw_I s D cI cR ad1 ad2 hc hm H locs) (hl : lv_has ls 4 [(0, .ref b), (1, .ref (ad1 0)), (2, .ref (ad2 0)), (3, .int (nI i))]) (kk : ∀ (hc' hm' : zz_H) (H1 : Heap) (locs1 : List Loc), Rel hc' hm' → lw_I s D cI cR ad1 ad2 hc' hm' H1 locs1 → W p l e room_1 s m #[Value.ref b] below meth c H1 locs1 cells slots Q (F0 m 1688 ls [])) : W p l e room_1 s m #[Value.ref b] below meth c H locs cells slots Q (F0 m 1665 ls []) := by
  have hx := S.1
  have hb := S.2.1
  refine lv_aload_n hx hb dL_1665 rfl (lv_at hl 1 rfl) ?_
  refine zL_arg S I.2.2.2.2 hl hL 1 (by decide) (by omega) dL_1666 dL_1667 dL_1668 dL_1669 dL_1670 ?_
  refine zL_callC S I hl (ctX4_status (xs (i + 1)) hc _ (op_status hR (xs (i + 1)))) zy_X4_status zm_L_215 (by decide) rfl rfl (by decide) hcl hsl dL_1671 (fun r hc1 H1 locs1 hw I1 => ?_)
  refine lv_aload_n hx hb dL_1674 rfl (lv_at hl 2 rfl) ?_
  refine zL_arg S I1.2.2.2.2 hl hL 1 (by decide) (by omega) dL_1675 dL_1676 dL_1677 dL_1678 dL_1679 ?_
  refine zL_callM S I1 hl (ctX5_status (xs (i + 1)) hm _ hw) zy_X5_status zm_L_218 (by decide) rfl rfl (Nat.le_of_ble_eq_true rfl) hcl hsl dL_1680 (fun r2 hm1 H2 locs2 hw2 I2 => ?_)
  obtain ⟨e1, hR2⟩ := hw2
  exact lv_icmp_eq (tgt := 1688) hx hb dL_1683 (by decide) (fun _ => kk _ _ H2 locs2 hR2 I2) (fun q => absurd e1 q)
end ZL2
