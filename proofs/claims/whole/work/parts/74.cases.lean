/-! ===== the cases of the law ===== -/
theorem lc_set {K : tw_K} {Q : Option Value → tw_T → Prop} {L : Nat} {xs : Nat → Int32} (F : tw_F K mL_law 40 Q) (S : tw_S K L xs) {c : Nat} {τ : tw_T} (hI : Inv c τ) (hc : c < 512) (hL : 6 * c + 6 ≤ L) (hL2 : L ≤ 3072) (nxt : ∀ τ, Inv (c + 1) τ → tw_R K 1393 [.ref 260, .ref 0, .ref 190, .int (nI (6 * c))] [] τ) : tw_R K 216 [.ref 260, .ref 0, .ref 190, .int (nI (6 * c))] [] τ := by
  obtain ⟨q2, q3, q4⟩ := st_set hI hc (xs (nI (6 * c) + 1).toNatClampNeg) (xs (nI (6 * c) + 2).toNatClampNeg)
  refine rw_aload_n F dc_L_law_216 rfl ?_
  refine rw_aload_n F dc_L_law_217 rfl ?_
  refine rw_iload_n F dc_L_law_218 rfl ?_
  refine rw_iconst (v := 1) F dc_L_law_219 rfl ?_
  refine rw_iadd F dc_L_law_220 ?_
  refine rw_sld F S dc_L_law_221 (sl_in (j := 1) hL hL2 (by decide)) ?_
  refine rw_aload_n F dc_L_law_222 rfl ?_
  refine rw_iload_n F dc_L_law_223 rfl ?_
  refine rw_iconst (v := 2) F dc_L_law_224 rfl ?_
  refine rw_iadd F dc_L_law_225 ?_
  refine rw_sld F S dc_L_law_226 (sl_in (j := 2) hL hL2 (by decide)) ?_
  refine rw_cVi F [_, _] dc_L_law_227 mv_X8_set ml_L_13 (by decide) (rc_8 (by decide)) rfl rfl (Nat.le_of_ble_eq_true rfl) ct_X8_set ?_
  refine rw_aload_n F dc_L_law_230 rfl ?_
  refine rw_aload_n F dc_L_law_231 rfl ?_
  refine rw_iload_n F dc_L_law_232 rfl ?_
  refine rw_iconst (v := 1) F dc_L_law_233 rfl ?_
  refine rw_iadd F dc_L_law_234 ?_
  refine rw_sld F S dc_L_law_235 (sl_in (j := 1) hL hL2 (by decide)) ?_
  refine rw_aload_n F dc_L_law_236 rfl ?_
  refine rw_iload_n F dc_L_law_237 rfl ?_
  refine rw_iconst (v := 2) F dc_L_law_238 rfl ?_
  refine rw_iadd F dc_L_law_239 ?_
  refine rw_sld F S dc_L_law_240 (sl_in (j := 2) hL hL2 (by decide)) ?_
  refine rw_cVi F [_, _] dc_L_law_241 mv_X9_set ml_L_17 (by decide) (rc_9 (by decide)) rfl rfl (Nat.le_of_ble_eq_true rfl) (ct_X9_set q2) ?_
  exact rw_icmp_eq (tgt := 1393) F dc_L_law_244 rfl (fun _ => nxt _ q4) (fun h => absurd q3 h)
theorem lc_light {K : tw_K} {Q : Option Value → tw_T → Prop} {L : Nat} {xs : Nat → Int32} (F : tw_F K mL_law 40 Q) (S : tw_S K L xs) {c : Nat} {τ : tw_T} (hI : Inv c τ) (hc : c < 512) (hL : 6 * c + 6 ≤ L) (hL2 : L ≤ 3072) (nxt : ∀ τ, Inv (c + 1) τ → tw_R K 1393 [.ref 260, .ref 0, .ref 190, .int (nI (6 * c))] [] τ) : tw_R K 249 [.ref 260, .ref 0, .ref 190, .int (nI (6 * c))] [] τ := by
  obtain ⟨q2, q3, q4⟩ := st_light hI hc (xs (nI (6 * c) + 1).toNatClampNeg)
  refine rw_aload_n F dc_L_law_249 rfl ?_
  refine rw_aload_n F dc_L_law_250 rfl ?_
  refine rw_iload_n F dc_L_law_251 rfl ?_
  refine rw_iconst (v := 1) F dc_L_law_252 rfl ?_
  refine rw_iadd F dc_L_law_253 ?_
  refine rw_sld F S dc_L_law_254 (sl_in (j := 1) hL hL2 (by decide)) ?_
  refine rw_cVi F [_] dc_L_law_255 mv_X8_light ml_L_18 (by decide) (rc_8 (by decide)) rfl rfl (Nat.le_of_ble_eq_true rfl) ct_X8_light ?_
  refine rw_aload_n F dc_L_law_258 rfl ?_
  refine rw_aload_n F dc_L_law_259 rfl ?_
  refine rw_iload_n F dc_L_law_260 rfl ?_
  refine rw_iconst (v := 1) F dc_L_law_261 rfl ?_
  refine rw_iadd F dc_L_law_262 ?_
  refine rw_sld F S dc_L_law_263 (sl_in (j := 1) hL hL2 (by decide)) ?_
  refine rw_cVi F [_] dc_L_law_264 mv_X9_light ml_L_22 (by decide) (rc_9 (by decide)) rfl rfl (Nat.le_of_ble_eq_true rfl) (ct_X9_light q2) ?_
  exact rw_icmp_eq (tgt := 1393) F dc_L_law_267 rfl (fun _ => nxt _ q4) (fun h => absurd q3 h)
theorem lc_ship {K : tw_K} {Q : Option Value → tw_T → Prop} {L : Nat} {xs : Nat → Int32} (F : tw_F K mL_law 40 Q) (S : tw_S K L xs) {c : Nat} {τ : tw_T} (hI : Inv c τ) (hc : c < 512) (hL : 6 * c + 6 ≤ L) (hL2 : L ≤ 3072) (nxt : ∀ τ, Inv (c + 1) τ → tw_R K 1393 [.ref 260, .ref 0, .ref 190, .int (nI (6 * c))] [] τ) : tw_R K 272 [.ref 260, .ref 0, .ref 190, .int (nI (6 * c))] [] τ := by
  obtain ⟨q1, q2, q3, q4⟩ := st_ship (N := 5000) hI hc (by decide) (xs (nI (6 * c) + 1).toNatClampNeg) (xs (nI (6 * c) + 2).toNatClampNeg)
  refine rw_aload_n F dc_L_law_272 rfl ?_
  refine rw_aload_n F dc_L_law_273 rfl ?_
  refine rw_iload_n F dc_L_law_274 rfl ?_
  refine rw_iconst (v := 1) F dc_L_law_275 rfl ?_
  refine rw_iadd F dc_L_law_276 ?_
  refine rw_sld F S dc_L_law_277 (sl_in (j := 1) hL hL2 (by decide)) ?_
  refine rw_aload_n F dc_L_law_278 rfl ?_
  refine rw_iload_n F dc_L_law_279 rfl ?_
  refine rw_iconst (v := 2) F dc_L_law_280 rfl ?_
  refine rw_iadd F dc_L_law_281 ?_
  refine rw_sld F S dc_L_law_282 (sl_in (j := 2) hL hL2 (by decide)) ?_
  refine rw_cVi F [_, _] dc_L_law_283 mv_X8_ship ml_L_23 (by decide) (rc_8 (by decide)) rfl rfl (Nat.le_of_ble_eq_true rfl) (ct_X8_ship q1) ?_
  refine rw_aload_n F dc_L_law_286 rfl ?_
  refine rw_aload_n F dc_L_law_287 rfl ?_
  refine rw_iload_n F dc_L_law_288 rfl ?_
  refine rw_iconst (v := 1) F dc_L_law_289 rfl ?_
  refine rw_iadd F dc_L_law_290 ?_
  refine rw_sld F S dc_L_law_291 (sl_in (j := 1) hL hL2 (by decide)) ?_
  refine rw_aload_n F dc_L_law_292 rfl ?_
  refine rw_iload_n F dc_L_law_293 rfl ?_
  refine rw_iconst (v := 2) F dc_L_law_294 rfl ?_
  refine rw_iadd F dc_L_law_295 ?_
  refine rw_sld F S dc_L_law_296 (sl_in (j := 2) hL hL2 (by decide)) ?_
  refine rw_cVi F [_, _] dc_L_law_297 mv_X9_ship ml_L_26 (by decide) (rc_9 (by decide)) rfl rfl (Nat.le_of_ble_eq_true rfl) (ct_X9_ship q2) ?_
  exact rw_icmp_eq (tgt := 1393) F dc_L_law_300 rfl (fun _ => nxt _ q4) (fun h => absurd q3 h)
theorem lc_of {K : tw_K} {Q : Option Value → tw_T → Prop} {L : Nat} {xs : Nat → Int32} (F : tw_F K mL_law 40 Q) (S : tw_S K L xs) {c : Nat} {τ : tw_T} (hI : Inv c τ) (hc : c < 512) (hL : 6 * c + 6 ≤ L) (hL2 : L ≤ 3072) (nxt : ∀ τ, Inv (c + 1) τ → tw_R K 1393 [.ref 260, .ref 0, .ref 190, .int (nI (6 * c))] [] τ) : tw_R K 305 [.ref 260, .ref 0, .ref 190, .int (nI (6 * c))] [] τ := by
  obtain ⟨q1, q2, q3, q4⟩ := st_of hI hc (xs (nI (6 * c) + 1).toNatClampNeg) (xs (nI (6 * c) + 2).toNatClampNeg)
  refine rw_aload_n F dc_L_law_305 rfl ?_
  refine rw_aload_n F dc_L_law_306 rfl ?_
  refine rw_iload_n F dc_L_law_307 rfl ?_
  refine rw_iconst (v := 1) F dc_L_law_308 rfl ?_
  refine rw_iadd F dc_L_law_309 ?_
  refine rw_sld F S dc_L_law_310 (sl_in (j := 1) hL hL2 (by decide)) ?_
  refine rw_aload_n F dc_L_law_311 rfl ?_
  refine rw_iload_n F dc_L_law_312 rfl ?_
  refine rw_iconst (v := 2) F dc_L_law_313 rfl ?_
  refine rw_iadd F dc_L_law_314 ?_
  refine rw_sld F S dc_L_law_315 (sl_in (j := 2) hL hL2 (by decide)) ?_
  refine rw_cVi F [_, _] dc_L_law_316 mv_X8_of ml_L_27 (by decide) (rc_8 (by decide)) rfl rfl (Nat.le_of_ble_eq_true rfl) (ct_X8_of q1) ?_
  refine rw_aload_n F dc_L_law_319 rfl ?_
  refine rw_aload_n F dc_L_law_320 rfl ?_
  refine rw_iload_n F dc_L_law_321 rfl ?_
  refine rw_iconst (v := 1) F dc_L_law_322 rfl ?_
  refine rw_iadd F dc_L_law_323 ?_
  refine rw_sld F S dc_L_law_324 (sl_in (j := 1) hL hL2 (by decide)) ?_
  refine rw_aload_n F dc_L_law_325 rfl ?_
  refine rw_iload_n F dc_L_law_326 rfl ?_
  refine rw_iconst (v := 2) F dc_L_law_327 rfl ?_
  refine rw_iadd F dc_L_law_328 ?_
  refine rw_sld F S dc_L_law_329 (sl_in (j := 2) hL hL2 (by decide)) ?_
  refine rw_cVi F [_, _] dc_L_law_330 mv_X9_of ml_L_30 (by decide) (rc_9 (by decide)) rfl rfl (Nat.le_of_ble_eq_true rfl) (ct_X9_of q2) ?_
  exact rw_icmp_eq (tgt := 1393) F dc_L_law_333 rfl (fun _ => nxt _ q4) (fun h => absurd q3 h)
theorem lc_change {K : tw_K} {Q : Option Value → tw_T → Prop} {L : Nat} {xs : Nat → Int32} (F : tw_F K mL_law 40 Q) (S : tw_S K L xs) {c : Nat} {τ : tw_T} (hI : Inv c τ) (hc : c < 512) (hL : 6 * c + 6 ≤ L) (hL2 : L ≤ 3072) (nxt : ∀ τ, Inv (c + 1) τ → tw_R K 1393 [.ref 260, .ref 0, .ref 190, .int (nI (6 * c))] [] τ) : tw_R K 338 [.ref 260, .ref 0, .ref 190, .int (nI (6 * c))] [] τ := by
  obtain ⟨q1, q2, q3, q4⟩ := st_change hI hc (xs (nI (6 * c) + 1).toNatClampNeg) (xs (nI (6 * c) + 2).toNatClampNeg) (xs (nI (6 * c) + 3).toNatClampNeg)
  refine rw_aload_n F dc_L_law_338 rfl ?_
  refine rw_aload_n F dc_L_law_339 rfl ?_
  refine rw_iload_n F dc_L_law_340 rfl ?_
  refine rw_iconst (v := 1) F dc_L_law_341 rfl ?_
  refine rw_iadd F dc_L_law_342 ?_
  refine rw_sld F S dc_L_law_343 (sl_in (j := 1) hL hL2 (by decide)) ?_
  refine rw_aload_n F dc_L_law_344 rfl ?_
  refine rw_iload_n F dc_L_law_345 rfl ?_
  refine rw_iconst (v := 2) F dc_L_law_346 rfl ?_
  refine rw_iadd F dc_L_law_347 ?_
  refine rw_sld F S dc_L_law_348 (sl_in (j := 2) hL hL2 (by decide)) ?_
  refine rw_aload_n F dc_L_law_349 rfl ?_
  refine rw_iload_n F dc_L_law_350 rfl ?_
  refine rw_iconst (v := 3) F dc_L_law_351 rfl ?_
  refine rw_iadd F dc_L_law_352 ?_
  refine rw_sld F S dc_L_law_353 (sl_in (j := 3) hL hL2 (by decide)) ?_
  refine rw_cVi F [_, _, _] dc_L_law_354 mv_X8_change ml_L_31 (by decide) (rc_8 (by decide)) rfl rfl (Nat.le_of_ble_eq_true rfl) (ct_X8_change q1) ?_
  refine rw_aload_n F dc_L_law_357 rfl ?_
  refine rw_aload_n F dc_L_law_358 rfl ?_
  refine rw_iload_n F dc_L_law_359 rfl ?_
  refine rw_iconst (v := 1) F dc_L_law_360 rfl ?_
  refine rw_iadd F dc_L_law_361 ?_
  refine rw_sld F S dc_L_law_362 (sl_in (j := 1) hL hL2 (by decide)) ?_
  refine rw_aload_n F dc_L_law_363 rfl ?_
  refine rw_iload_n F dc_L_law_364 rfl ?_
  refine rw_iconst (v := 2) F dc_L_law_365 rfl ?_
  refine rw_iadd F dc_L_law_366 ?_
  refine rw_sld F S dc_L_law_367 (sl_in (j := 2) hL hL2 (by decide)) ?_
  refine rw_aload_n F dc_L_law_368 rfl ?_
  refine rw_iload_n F dc_L_law_369 rfl ?_
  refine rw_iconst (v := 3) F dc_L_law_370 rfl ?_
  refine rw_iadd F dc_L_law_371 ?_
  refine rw_sld F S dc_L_law_372 (sl_in (j := 3) hL hL2 (by decide)) ?_
  refine rw_cVi F [_, _, _] dc_L_law_373 mv_X9_change ml_L_35 (by decide) (rc_9 (by decide)) rfl rfl (Nat.le_of_ble_eq_true rfl) (ct_X9_change q2) ?_
  exact rw_icmp_eq (tgt := 1393) F dc_L_law_376 rfl (fun _ => nxt _ q4) (fun h => absurd q3 h)
theorem lc_who {K : tw_K} {Q : Option Value → tw_T → Prop} {L : Nat} {xs : Nat → Int32} (F : tw_F K mL_law 40 Q) (S : tw_S K L xs) {c : Nat} {τ : tw_T} (hI : Inv c τ) (hc : c < 512) (hL : 6 * c + 6 ≤ L) (hL2 : L ≤ 3072) (nxt : ∀ τ, Inv (c + 1) τ → tw_R K 1393 [.ref 260, .ref 0, .ref 190, .int (nI (6 * c))] [] τ) : tw_R K 381 [.ref 260, .ref 0, .ref 190, .int (nI (6 * c))] [] τ := by
  obtain ⟨q1, q2, q3, q4⟩ := st_who (N := 5000) hI hc (by decide) (xs (nI (6 * c) + 1).toNatClampNeg)
  refine rw_aload_n F dc_L_law_381 rfl ?_
  refine rw_aload_n F dc_L_law_382 rfl ?_
  refine rw_iload_n F dc_L_law_383 rfl ?_
  refine rw_iconst (v := 1) F dc_L_law_384 rfl ?_
  refine rw_iadd F dc_L_law_385 ?_
  refine rw_sld F S dc_L_law_386 (sl_in (j := 1) hL hL2 (by decide)) ?_
  refine rw_cVi F [_] dc_L_law_387 mv_X8_who ml_L_36 (by decide) (rc_8 (by decide)) rfl rfl (Nat.le_of_ble_eq_true rfl) (ct_X8_who q1) ?_
  refine rw_aload_n F dc_L_law_390 rfl ?_
  refine rw_aload_n F dc_L_law_391 rfl ?_
  refine rw_iload_n F dc_L_law_392 rfl ?_
  refine rw_iconst (v := 1) F dc_L_law_393 rfl ?_
  refine rw_iadd F dc_L_law_394 ?_
  refine rw_sld F S dc_L_law_395 (sl_in (j := 1) hL hL2 (by decide)) ?_
  refine rw_cVi F [_] dc_L_law_396 mv_X9_who ml_L_39 (by decide) (rc_9 (by decide)) rfl rfl (Nat.le_of_ble_eq_true rfl) (cr_X9_who q2) ?_
  exact rw_icmp_eq (tgt := 1393) F dc_L_law_399 rfl (fun _ => nxt _ q4) (fun h => absurd q3 h)
theorem lc_go {K : tw_K} {Q : Option Value → tw_T → Prop} {L : Nat} {xs : Nat → Int32} (F : tw_F K mL_law 40 Q) (S : tw_S K L xs) {c : Nat} {τ : tw_T} (hI : Inv c τ) (hc : c < 512) (hL : 6 * c + 6 ≤ L) (hL2 : L ≤ 3072) (nxt : ∀ τ, Inv (c + 1) τ → tw_R K 1393 [.ref 260, .ref 0, .ref 190, .int (nI (6 * c))] [] τ) : tw_R K 404 [.ref 260, .ref 0, .ref 190, .int (nI (6 * c))] [] τ := by
  obtain ⟨q1, q2, q3, q4⟩ := st_go (N := 5000) hI hc (by decide) (xs (nI (6 * c) + 1).toNatClampNeg)
  refine rw_aload_n F dc_L_law_404 rfl ?_
  refine rw_aload_n F dc_L_law_405 rfl ?_
  refine rw_iload_n F dc_L_law_406 rfl ?_
  refine rw_iconst (v := 1) F dc_L_law_407 rfl ?_
  refine rw_iadd F dc_L_law_408 ?_
  refine rw_sld F S dc_L_law_409 (sl_in (j := 1) hL hL2 (by decide)) ?_
  refine rw_cVi F [_] dc_L_law_410 mv_X8_go ml_L_40 (by decide) (rc_8 (by decide)) rfl rfl (Nat.le_of_ble_eq_true rfl) (cr_X8_go q1) ?_
  refine rw_aload_n F dc_L_law_413 rfl ?_
  refine rw_aload_n F dc_L_law_414 rfl ?_
  refine rw_iload_n F dc_L_law_415 rfl ?_
  refine rw_iconst (v := 1) F dc_L_law_416 rfl ?_
  refine rw_iadd F dc_L_law_417 ?_
  refine rw_sld F S dc_L_law_418 (sl_in (j := 1) hL hL2 (by decide)) ?_
  refine rw_cVi F [_] dc_L_law_419 mv_X9_go ml_L_43 (by decide) (rc_9 (by decide)) rfl rfl (Nat.le_of_ble_eq_true rfl) (ct_X9_go q2) ?_
  exact rw_icmp_eq (tgt := 1393) F dc_L_law_422 rfl (fun _ => nxt _ q4) (fun h => absurd q3 h)
theorem lc_now {K : tw_K} {Q : Option Value → tw_T → Prop} {L : Nat} {xs : Nat → Int32} (F : tw_F K mL_law 40 Q) (S : tw_S K L xs) {c : Nat} {τ : tw_T} (hI : Inv c τ) (hc : c < 512) (hL : 6 * c + 6 ≤ L) (hL2 : L ≤ 3072) (nxt : ∀ τ, Inv (c + 1) τ → tw_R K 1393 [.ref 260, .ref 0, .ref 190, .int (nI (6 * c))] [] τ) : tw_R K 427 [.ref 260, .ref 0, .ref 190, .int (nI (6 * c))] [] τ := by
  obtain ⟨q1, q2, q3, q4⟩ := st_now (N := 5000) hI hc (by decide) (xs (nI (6 * c) + 1).toNatClampNeg)
  refine rw_aload_n F dc_L_law_427 rfl ?_
  refine rw_aload_n F dc_L_law_428 rfl ?_
  refine rw_iload_n F dc_L_law_429 rfl ?_
  refine rw_iconst (v := 1) F dc_L_law_430 rfl ?_
  refine rw_iadd F dc_L_law_431 ?_
  refine rw_sld F S dc_L_law_432 (sl_in (j := 1) hL hL2 (by decide)) ?_
  refine rw_cVi F [_] dc_L_law_433 mv_X8_now ml_L_44 (by decide) (rc_8 (by decide)) rfl rfl (Nat.le_of_ble_eq_true rfl) (ct_X8_now q1) ?_
  refine rw_aload_n F dc_L_law_436 rfl ?_
  refine rw_aload_n F dc_L_law_437 rfl ?_
  refine rw_iload_n F dc_L_law_438 rfl ?_
  refine rw_iconst (v := 1) F dc_L_law_439 rfl ?_
  refine rw_iadd F dc_L_law_440 ?_
  refine rw_sld F S dc_L_law_441 (sl_in (j := 1) hL hL2 (by decide)) ?_
  refine rw_cVi F [_] dc_L_law_442 mv_X9_now ml_L_47 (by decide) (rc_9 (by decide)) rfl rfl (Nat.le_of_ble_eq_true rfl) (ct_X9_now q2) ?_
  exact rw_icmp_eq (tgt := 1393) F dc_L_law_445 rfl (fun _ => nxt _ q4) (fun h => absurd q3 h)
theorem lc_ahead {K : tw_K} {Q : Option Value → tw_T → Prop} {L : Nat} {xs : Nat → Int32} (F : tw_F K mL_law 40 Q) (S : tw_S K L xs) {c : Nat} {τ : tw_T} (hI : Inv c τ) (hc : c < 512) (hL : 6 * c + 6 ≤ L) (hL2 : L ≤ 3072) (nxt : ∀ τ, Inv (c + 1) τ → tw_R K 1393 [.ref 260, .ref 0, .ref 190, .int (nI (6 * c))] [] τ) : tw_R K 450 [.ref 260, .ref 0, .ref 190, .int (nI (6 * c))] [] τ := by
  obtain ⟨q1, q2, q3, q4⟩ := st_ahead (N := 5000) hI hc (by decide) (xs (nI (6 * c) + 1).toNatClampNeg) (xs (nI (6 * c) + 2).toNatClampNeg) (xs (nI (6 * c) + 3).toNatClampNeg)
  refine rw_aload_n F dc_L_law_450 rfl ?_
  refine rw_aload_n F dc_L_law_451 rfl ?_
  refine rw_iload_n F dc_L_law_452 rfl ?_
  refine rw_iconst (v := 1) F dc_L_law_453 rfl ?_
  refine rw_iadd F dc_L_law_454 ?_
  refine rw_sld F S dc_L_law_455 (sl_in (j := 1) hL hL2 (by decide)) ?_
  refine rw_aload_n F dc_L_law_456 rfl ?_
  refine rw_iload_n F dc_L_law_457 rfl ?_
  refine rw_iconst (v := 2) F dc_L_law_458 rfl ?_
  refine rw_iadd F dc_L_law_459 ?_
  refine rw_sld F S dc_L_law_460 (sl_in (j := 2) hL hL2 (by decide)) ?_
  refine rw_aload_n F dc_L_law_461 rfl ?_
  refine rw_iload_n F dc_L_law_462 rfl ?_
  refine rw_iconst (v := 3) F dc_L_law_463 rfl ?_
  refine rw_iadd F dc_L_law_464 ?_
  refine rw_sld F S dc_L_law_465 (sl_in (j := 3) hL hL2 (by decide)) ?_
  refine rw_cVi F [_, _, _] dc_L_law_466 mv_X8_ahead ml_L_48 (by decide) (rc_8 (by decide)) rfl rfl (Nat.le_of_ble_eq_true rfl) (ct_X8_ahead q1) ?_
  refine rw_aload_n F dc_L_law_469 rfl ?_
  refine rw_aload_n F dc_L_law_470 rfl ?_
  refine rw_iload_n F dc_L_law_471 rfl ?_
  refine rw_iconst (v := 1) F dc_L_law_472 rfl ?_
  refine rw_iadd F dc_L_law_473 ?_
  refine rw_sld F S dc_L_law_474 (sl_in (j := 1) hL hL2 (by decide)) ?_
  refine rw_aload_n F dc_L_law_475 rfl ?_
  refine rw_iload_n F dc_L_law_476 rfl ?_
  refine rw_iconst (v := 2) F dc_L_law_477 rfl ?_
  refine rw_iadd F dc_L_law_478 ?_
  refine rw_sld F S dc_L_law_479 (sl_in (j := 2) hL hL2 (by decide)) ?_
  refine rw_aload_n F dc_L_law_480 rfl ?_
  refine rw_iload_n F dc_L_law_481 rfl ?_
  refine rw_iconst (v := 3) F dc_L_law_482 rfl ?_
  refine rw_iadd F dc_L_law_483 ?_
  refine rw_sld F S dc_L_law_484 (sl_in (j := 3) hL hL2 (by decide)) ?_
  refine rw_cVi F [_, _, _] dc_L_law_485 mv_X9_ahead ml_L_51 (by decide) (rc_9 (by decide)) rfl rfl (Nat.le_of_ble_eq_true rfl) (ct_X9_ahead q2) ?_
  exact rw_icmp_eq (tgt := 1393) F dc_L_law_488 rfl (fun _ => nxt _ q4) (fun h => absurd q3 h)
theorem lc_shows {K : tw_K} {Q : Option Value → tw_T → Prop} {L : Nat} {xs : Nat → Int32} (F : tw_F K mL_law 40 Q) (S : tw_S K L xs) {c : Nat} {τ : tw_T} (hI : Inv c τ) (hc : c < 512) (hL : 6 * c + 6 ≤ L) (hL2 : L ≤ 3072) (nxt : ∀ τ, Inv (c + 1) τ → tw_R K 1393 [.ref 260, .ref 0, .ref 190, .int (nI (6 * c))] [] τ) : tw_R K 493 [.ref 260, .ref 0, .ref 190, .int (nI (6 * c))] [] τ := by
  obtain ⟨q2, q3, q4⟩ := st_shows (N := 5000) hI hc (by decide) (xs (nI (6 * c) + 1).toNatClampNeg) (xs (nI (6 * c) + 2).toNatClampNeg)
  refine rw_aload_n F dc_L_law_493 rfl ?_
  refine rw_aload_n F dc_L_law_494 rfl ?_
  refine rw_iload_n F dc_L_law_495 rfl ?_
  refine rw_iconst (v := 1) F dc_L_law_496 rfl ?_
  refine rw_iadd F dc_L_law_497 ?_
  refine rw_sld F S dc_L_law_498 (sl_in (j := 1) hL hL2 (by decide)) ?_
  refine rw_aload_n F dc_L_law_499 rfl ?_
  refine rw_iload_n F dc_L_law_500 rfl ?_
  refine rw_iconst (v := 2) F dc_L_law_501 rfl ?_
  refine rw_iadd F dc_L_law_502 ?_
  refine rw_sld F S dc_L_law_503 (sl_in (j := 2) hL hL2 (by decide)) ?_
  refine rw_cVi F [_, _] dc_L_law_504 mv_X8_shows ml_L_52 (by decide) (rc_8 (by decide)) rfl rfl (Nat.le_of_ble_eq_true rfl) ct_X8_shows ?_
  refine rw_aload_n F dc_L_law_507 rfl ?_
  refine rw_aload_n F dc_L_law_508 rfl ?_
  refine rw_iload_n F dc_L_law_509 rfl ?_
  refine rw_iconst (v := 1) F dc_L_law_510 rfl ?_
  refine rw_iadd F dc_L_law_511 ?_
  refine rw_sld F S dc_L_law_512 (sl_in (j := 1) hL hL2 (by decide)) ?_
  refine rw_aload_n F dc_L_law_513 rfl ?_
  refine rw_iload_n F dc_L_law_514 rfl ?_
  refine rw_iconst (v := 2) F dc_L_law_515 rfl ?_
  refine rw_iadd F dc_L_law_516 ?_
  refine rw_sld F S dc_L_law_517 (sl_in (j := 2) hL hL2 (by decide)) ?_
  refine rw_cVi F [_, _] dc_L_law_518 mv_X9_shows ml_L_55 (by decide) (rc_9 (by decide)) rfl rfl (Nat.le_of_ble_eq_true rfl) (ct_X9_shows q2) ?_
  exact rw_icmp_eq (tgt := 1393) F dc_L_law_521 rfl (fun _ => nxt _ q4) (fun h => absurd q3 h)
theorem lc_strands {K : tw_K} {Q : Option Value → tw_T → Prop} {L : Nat} {xs : Nat → Int32} (F : tw_F K mL_law 40 Q) (S : tw_S K L xs) {c : Nat} {τ : tw_T} (hI : Inv c τ) (hc : c < 512) (hL : 6 * c + 6 ≤ L) (hL2 : L ≤ 3072) (nxt : ∀ τ, Inv (c + 1) τ → tw_R K 1393 [.ref 260, .ref 0, .ref 190, .int (nI (6 * c))] [] τ) : tw_R K 526 [.ref 260, .ref 0, .ref 190, .int (nI (6 * c))] [] τ := by
  obtain ⟨q1, q2, q3, q4⟩ := st_strands (N := 5000) hI hc (by decide) (xs (nI (6 * c) + 1).toNatClampNeg)
  refine rw_aload_n F dc_L_law_526 rfl ?_
  refine rw_aload_n F dc_L_law_527 rfl ?_
  refine rw_iload_n F dc_L_law_528 rfl ?_
  refine rw_iconst (v := 1) F dc_L_law_529 rfl ?_
  refine rw_iadd F dc_L_law_530 ?_
  refine rw_sld F S dc_L_law_531 (sl_in (j := 1) hL hL2 (by decide)) ?_
  refine rw_cVi F [_] dc_L_law_532 mv_X8_strands ml_L_56 (by decide) (rc_8 (by decide)) rfl rfl (Nat.le_of_ble_eq_true rfl) (cr_X8_strands q1) ?_
  refine rw_aload_n F dc_L_law_535 rfl ?_
  refine rw_aload_n F dc_L_law_536 rfl ?_
  refine rw_iload_n F dc_L_law_537 rfl ?_
  refine rw_iconst (v := 1) F dc_L_law_538 rfl ?_
  refine rw_iadd F dc_L_law_539 ?_
  refine rw_sld F S dc_L_law_540 (sl_in (j := 1) hL hL2 (by decide)) ?_
  refine rw_cVi F [_] dc_L_law_541 mv_X9_strands ml_L_59 (by decide) (rc_9 (by decide)) rfl rfl (Nat.le_of_ble_eq_true rfl) (cr_X9_strands q2) ?_
  exact rw_icmp_eq (tgt := 1393) F dc_L_law_544 rfl (fun _ => nxt _ q4) (fun h => absurd q3 h)
theorem lc_when {K : tw_K} {Q : Option Value → tw_T → Prop} {L : Nat} {xs : Nat → Int32} (F : tw_F K mL_law 40 Q) (S : tw_S K L xs) {c : Nat} {τ : tw_T} (hI : Inv c τ) (hc : c < 512) (hL : 6 * c + 6 ≤ L) (hL2 : L ≤ 3072) (nxt : ∀ τ, Inv (c + 1) τ → tw_R K 1393 [.ref 260, .ref 0, .ref 190, .int (nI (6 * c))] [] τ) : tw_R K 549 [.ref 260, .ref 0, .ref 190, .int (nI (6 * c))] [] τ := by
  obtain ⟨q1, q2, q3, q4⟩ := st_when (N := 5000) hI hc (by decide) (xs (nI (6 * c) + 1).toNatClampNeg) (xs (nI (6 * c) + 2).toNatClampNeg)
  refine rw_aload_n F dc_L_law_549 rfl ?_
  refine rw_aload_n F dc_L_law_550 rfl ?_
  refine rw_iload_n F dc_L_law_551 rfl ?_
  refine rw_iconst (v := 1) F dc_L_law_552 rfl ?_
  refine rw_iadd F dc_L_law_553 ?_
  refine rw_sld F S dc_L_law_554 (sl_in (j := 1) hL hL2 (by decide)) ?_
  refine rw_aload_n F dc_L_law_555 rfl ?_
  refine rw_iload_n F dc_L_law_556 rfl ?_
  refine rw_iconst (v := 2) F dc_L_law_557 rfl ?_
  refine rw_iadd F dc_L_law_558 ?_
  refine rw_sld F S dc_L_law_559 (sl_in (j := 2) hL hL2 (by decide)) ?_
  refine rw_cVi F [_, _] dc_L_law_560 mv_X8_when ml_L_60 (by decide) (rc_8 (by decide)) rfl rfl (Nat.le_of_ble_eq_true rfl) (cr_X8_when q1) ?_
  refine rw_aload_n F dc_L_law_563 rfl ?_
  refine rw_aload_n F dc_L_law_564 rfl ?_
  refine rw_iload_n F dc_L_law_565 rfl ?_
  refine rw_iconst (v := 1) F dc_L_law_566 rfl ?_
  refine rw_iadd F dc_L_law_567 ?_
  refine rw_sld F S dc_L_law_568 (sl_in (j := 1) hL hL2 (by decide)) ?_
  refine rw_aload_n F dc_L_law_569 rfl ?_
  refine rw_iload_n F dc_L_law_570 rfl ?_
  refine rw_iconst (v := 2) F dc_L_law_571 rfl ?_
  refine rw_iadd F dc_L_law_572 ?_
  refine rw_sld F S dc_L_law_573 (sl_in (j := 2) hL hL2 (by decide)) ?_
  refine rw_cVi F [_, _] dc_L_law_574 mv_X9_when ml_L_63 (by decide) (rc_9 (by decide)) rfl rfl (Nat.le_of_ble_eq_true rfl) (cr_X9_when q2) ?_
  exact rw_icmp_eq (tgt := 1393) F dc_L_law_577 rfl (fun _ => nxt _ q4) (fun h => absurd q3 h)
theorem lc_meet {K : tw_K} {Q : Option Value → tw_T → Prop} {L : Nat} {xs : Nat → Int32} (F : tw_F K mL_law 40 Q) (S : tw_S K L xs) {c : Nat} {τ : tw_T} (hI : Inv c τ) (hc : c < 512) (hL : 6 * c + 6 ≤ L) (hL2 : L ≤ 3072) (nxt : ∀ τ, Inv (c + 1) τ → tw_R K 1393 [.ref 260, .ref 0, .ref 190, .int (nI (6 * c))] [] τ) : tw_R K 582 [.ref 260, .ref 0, .ref 190, .int (nI (6 * c))] [] τ := by
  obtain ⟨q1, q2, q3, q4⟩ := st_meet (N := 5000) hI hc (by decide) (xs (nI (6 * c) + 1).toNatClampNeg) (xs (nI (6 * c) + 2).toNatClampNeg)
  refine rw_aload_n F dc_L_law_582 rfl ?_
  refine rw_aload_n F dc_L_law_583 rfl ?_
  refine rw_iload_n F dc_L_law_584 rfl ?_
  refine rw_iconst (v := 1) F dc_L_law_585 rfl ?_
  refine rw_iadd F dc_L_law_586 ?_
  refine rw_sld F S dc_L_law_587 (sl_in (j := 1) hL hL2 (by decide)) ?_
  refine rw_aload_n F dc_L_law_588 rfl ?_
  refine rw_iload_n F dc_L_law_589 rfl ?_
  refine rw_iconst (v := 2) F dc_L_law_590 rfl ?_
  refine rw_iadd F dc_L_law_591 ?_
  refine rw_sld F S dc_L_law_592 (sl_in (j := 2) hL hL2 (by decide)) ?_
  refine rw_cVi F [_, _] dc_L_law_593 mv_X8_meet ml_L_64 (by decide) (rc_8 (by decide)) rfl rfl (Nat.le_of_ble_eq_true rfl) (cr_X8_meet q1) ?_
  refine rw_aload_n F dc_L_law_596 rfl ?_
  refine rw_aload_n F dc_L_law_597 rfl ?_
  refine rw_iload_n F dc_L_law_598 rfl ?_
  refine rw_iconst (v := 1) F dc_L_law_599 rfl ?_
  refine rw_iadd F dc_L_law_600 ?_
  refine rw_sld F S dc_L_law_601 (sl_in (j := 1) hL hL2 (by decide)) ?_
  refine rw_aload_n F dc_L_law_602 rfl ?_
  refine rw_iload_n F dc_L_law_603 rfl ?_
  refine rw_iconst (v := 2) F dc_L_law_604 rfl ?_
  refine rw_iadd F dc_L_law_605 ?_
  refine rw_sld F S dc_L_law_606 (sl_in (j := 2) hL hL2 (by decide)) ?_
  refine rw_cVi F [_, _] dc_L_law_607 mv_X9_meet ml_L_67 (by decide) (rc_9 (by decide)) rfl rfl (Nat.le_of_ble_eq_true rfl) (cr_X9_meet q2) ?_
  exact rw_icmp_eq (tgt := 1393) F dc_L_law_610 rfl (fun _ => nxt _ q4) (fun h => absurd q3 h)
theorem lc_period {K : tw_K} {Q : Option Value → tw_T → Prop} {L : Nat} {xs : Nat → Int32} (F : tw_F K mL_law 40 Q) (S : tw_S K L xs) {c : Nat} {τ : tw_T} (hI : Inv c τ) (hc : c < 512) (hL : 6 * c + 6 ≤ L) (hL2 : L ≤ 3072) (nxt : ∀ τ, Inv (c + 1) τ → tw_R K 1393 [.ref 260, .ref 0, .ref 190, .int (nI (6 * c))] [] τ) : tw_R K 615 [.ref 260, .ref 0, .ref 190, .int (nI (6 * c))] [] τ := by
  obtain ⟨q1, q2, q3, q4⟩ := st_period (N := 5000) hI hc (by decide) 
  refine rw_aload_n F dc_L_law_615 rfl ?_
  refine rw_cVi F [] dc_L_law_616 mv_X8_period ml_L_68 (by decide) (rc_8 (by decide)) rfl rfl (Nat.le_of_ble_eq_true rfl) (cr_X8_period q1) ?_
  refine rw_aload_n F dc_L_law_619 rfl ?_
  refine rw_cVi F [] dc_L_law_620 mv_X9_period ml_L_72 (by decide) (rc_9 (by decide)) rfl rfl (Nat.le_of_ble_eq_true rfl) (cr_X9_period q2) ?_
  exact rw_icmp_eq (tgt := 1393) F dc_L_law_623 rfl (fun _ => nxt _ q4) (fun h => absurd q3 h)
theorem lc_lagFor {K : tw_K} {Q : Option Value → tw_T → Prop} {L : Nat} {xs : Nat → Int32} (F : tw_F K mL_law 40 Q) (S : tw_S K L xs) {c : Nat} {τ : tw_T} (hI : Inv c τ) (hc : c < 512) (hL : 6 * c + 6 ≤ L) (hL2 : L ≤ 3072) (nxt : ∀ τ, Inv (c + 1) τ → tw_R K 1393 [.ref 260, .ref 0, .ref 190, .int (nI (6 * c))] [] τ) : tw_R K 628 [.ref 260, .ref 0, .ref 190, .int (nI (6 * c))] [] τ := by
  obtain ⟨q1, q2, q3, q4⟩ := st_lagFor (N := 5000) hI hc (by decide) (xs (nI (6 * c) + 1).toNatClampNeg)
  refine rw_aload_n F dc_L_law_628 rfl ?_
  refine rw_aload_n F dc_L_law_629 rfl ?_
  refine rw_iload_n F dc_L_law_630 rfl ?_
  refine rw_iconst (v := 1) F dc_L_law_631 rfl ?_
  refine rw_iadd F dc_L_law_632 ?_
  refine rw_sld F S dc_L_law_633 (sl_in (j := 1) hL hL2 (by decide)) ?_
  refine rw_cVi F [_] dc_L_law_634 mv_X8_lagFor ml_L_73 (by decide) (rc_8 (by decide)) rfl rfl (Nat.le_of_ble_eq_true rfl) (cr_X8_lagFor q1) ?_
  refine rw_aload_n F dc_L_law_637 rfl ?_
  refine rw_aload_n F dc_L_law_638 rfl ?_
  refine rw_iload_n F dc_L_law_639 rfl ?_
  refine rw_iconst (v := 1) F dc_L_law_640 rfl ?_
  refine rw_iadd F dc_L_law_641 ?_
  refine rw_sld F S dc_L_law_642 (sl_in (j := 1) hL hL2 (by decide)) ?_
  refine rw_cVi F [_] dc_L_law_643 mv_X9_lagFor ml_L_76 (by decide) (rc_9 (by decide)) rfl rfl (Nat.le_of_ble_eq_true rfl) (ct_X9_lagFor q2) ?_
  exact rw_icmp_eq (tgt := 1393) F dc_L_law_646 rfl (fun _ => nxt _ q4) (fun h => absurd q3 h)
theorem lc_patternFor {K : tw_K} {Q : Option Value → tw_T → Prop} {L : Nat} {xs : Nat → Int32} (F : tw_F K mL_law 40 Q) (S : tw_S K L xs) {c : Nat} {τ : tw_T} (hI : Inv c τ) (hc : c < 512) (hL : 6 * c + 6 ≤ L) (hL2 : L ≤ 3072) (nxt : ∀ τ, Inv (c + 1) τ → tw_R K 1393 [.ref 260, .ref 0, .ref 190, .int (nI (6 * c))] [] τ) : tw_R K 651 [.ref 260, .ref 0, .ref 190, .int (nI (6 * c))] [] τ := by
  obtain ⟨q1, q2, q3, q4⟩ := st_patternFor (N := 5000) hI hc (by decide) (xs (nI (6 * c) + 1).toNatClampNeg)
  refine rw_aload_n F dc_L_law_651 rfl ?_
  refine rw_aload_n F dc_L_law_652 rfl ?_
  refine rw_iload_n F dc_L_law_653 rfl ?_
  refine rw_iconst (v := 1) F dc_L_law_654 rfl ?_
  refine rw_iadd F dc_L_law_655 ?_
  refine rw_sld F S dc_L_law_656 (sl_in (j := 1) hL hL2 (by decide)) ?_
  refine rw_cVi F [_] dc_L_law_657 mv_X8_patternFor ml_L_77 (by decide) (rc_8 (by decide)) rfl rfl (Nat.le_of_ble_eq_true rfl) (ct_X8_patternFor q1) ?_
  refine rw_aload_n F dc_L_law_660 rfl ?_
  refine rw_aload_n F dc_L_law_661 rfl ?_
  refine rw_iload_n F dc_L_law_662 rfl ?_
  refine rw_iconst (v := 1) F dc_L_law_663 rfl ?_
  refine rw_iadd F dc_L_law_664 ?_
  refine rw_sld F S dc_L_law_665 (sl_in (j := 1) hL hL2 (by decide)) ?_
  refine rw_cVi F [_] dc_L_law_666 mv_X9_patternFor ml_L_80 (by decide) (rc_9 (by decide)) rfl rfl (Nat.le_of_ble_eq_true rfl) (ct_X9_patternFor q2) ?_
  exact rw_icmp_eq (tgt := 1393) F dc_L_law_669 rfl (fun _ => nxt _ q4) (fun h => absurd q3 h)
theorem lc_kindFor {K : tw_K} {Q : Option Value → tw_T → Prop} {L : Nat} {xs : Nat → Int32} (F : tw_F K mL_law 40 Q) (S : tw_S K L xs) {c : Nat} {τ : tw_T} (hI : Inv c τ) (hc : c < 512) (hL : 6 * c + 6 ≤ L) (hL2 : L ≤ 3072) (nxt : ∀ τ, Inv (c + 1) τ → tw_R K 1393 [.ref 260, .ref 0, .ref 190, .int (nI (6 * c))] [] τ) : tw_R K 674 [.ref 260, .ref 0, .ref 190, .int (nI (6 * c))] [] τ := by
  obtain ⟨q1, q2, q3, q4⟩ := st_kindFor (N := 5000) hI hc (by decide) (xs (nI (6 * c) + 1).toNatClampNeg) (xs (nI (6 * c) + 2).toNatClampNeg)
  refine rw_aload_n F dc_L_law_674 rfl ?_
  refine rw_aload_n F dc_L_law_675 rfl ?_
  refine rw_iload_n F dc_L_law_676 rfl ?_
  refine rw_iconst (v := 1) F dc_L_law_677 rfl ?_
  refine rw_iadd F dc_L_law_678 ?_
  refine rw_sld F S dc_L_law_679 (sl_in (j := 1) hL hL2 (by decide)) ?_
  refine rw_aload_n F dc_L_law_680 rfl ?_
  refine rw_iload_n F dc_L_law_681 rfl ?_
  refine rw_iconst (v := 2) F dc_L_law_682 rfl ?_
  refine rw_iadd F dc_L_law_683 ?_
  refine rw_sld F S dc_L_law_684 (sl_in (j := 2) hL hL2 (by decide)) ?_
  refine rw_cVi F [_, _] dc_L_law_685 mv_X8_kindFor ml_L_81 (by decide) (rc_8 (by decide)) rfl rfl (Nat.le_of_ble_eq_true rfl) (ct_X8_kindFor q1) ?_
  refine rw_aload_n F dc_L_law_688 rfl ?_
  refine rw_aload_n F dc_L_law_689 rfl ?_
  refine rw_iload_n F dc_L_law_690 rfl ?_
  refine rw_iconst (v := 1) F dc_L_law_691 rfl ?_
  refine rw_iadd F dc_L_law_692 ?_
  refine rw_sld F S dc_L_law_693 (sl_in (j := 1) hL hL2 (by decide)) ?_
  refine rw_aload_n F dc_L_law_694 rfl ?_
  refine rw_iload_n F dc_L_law_695 rfl ?_
  refine rw_iconst (v := 2) F dc_L_law_696 rfl ?_
  refine rw_iadd F dc_L_law_697 ?_
  refine rw_sld F S dc_L_law_698 (sl_in (j := 2) hL hL2 (by decide)) ?_
  refine rw_cVi F [_, _] dc_L_law_699 mv_X9_kindFor ml_L_84 (by decide) (rc_9 (by decide)) rfl rfl (Nat.le_of_ble_eq_true rfl) (ct_X9_kindFor q2) ?_
  exact rw_icmp_eq (tgt := 1393) F dc_L_law_702 rfl (fun _ => nxt _ q4) (fun h => absurd q3 h)
theorem lc_start {K : tw_K} {Q : Option Value → tw_T → Prop} {L : Nat} {xs : Nat → Int32} (F : tw_F K mL_law 40 Q) (S : tw_S K L xs) {c : Nat} {τ : tw_T} (hI : Inv c τ) (hc : c < 512) (hL : 6 * c + 6 ≤ L) (hL2 : L ≤ 3072) (nxt : ∀ τ, Inv (c + 1) τ → tw_R K 1393 [.ref 260, .ref 0, .ref 190, .int (nI (6 * c))] [] τ) : tw_R K 707 [.ref 260, .ref 0, .ref 190, .int (nI (6 * c))] [] τ := by
  obtain ⟨q1, q2, q3, q4⟩ := st_start (N := 5000) hI hc (by decide) (xs (nI (6 * c) + 1).toNatClampNeg) (xs (nI (6 * c) + 2).toNatClampNeg)
  refine rw_aload_n F dc_L_law_707 rfl ?_
  refine rw_aload_n F dc_L_law_708 rfl ?_
  refine rw_iload_n F dc_L_law_709 rfl ?_
  refine rw_iconst (v := 1) F dc_L_law_710 rfl ?_
  refine rw_iadd F dc_L_law_711 ?_
  refine rw_sld F S dc_L_law_712 (sl_in (j := 1) hL hL2 (by decide)) ?_
  refine rw_aload_n F dc_L_law_713 rfl ?_
  refine rw_iload_n F dc_L_law_714 rfl ?_
  refine rw_iconst (v := 2) F dc_L_law_715 rfl ?_
  refine rw_iadd F dc_L_law_716 ?_
  refine rw_sld F S dc_L_law_717 (sl_in (j := 2) hL hL2 (by decide)) ?_
  refine rw_cVi F [_, _] dc_L_law_718 mv_X8_start ml_L_85 (by decide) (rc_8 (by decide)) rfl rfl (Nat.le_of_ble_eq_true rfl) (ct_X8_start q1) ?_
  refine rw_aload_n F dc_L_law_721 rfl ?_
  refine rw_aload_n F dc_L_law_722 rfl ?_
  refine rw_iload_n F dc_L_law_723 rfl ?_
  refine rw_iconst (v := 1) F dc_L_law_724 rfl ?_
  refine rw_iadd F dc_L_law_725 ?_
  refine rw_sld F S dc_L_law_726 (sl_in (j := 1) hL hL2 (by decide)) ?_
  refine rw_aload_n F dc_L_law_727 rfl ?_
  refine rw_iload_n F dc_L_law_728 rfl ?_
  refine rw_iconst (v := 2) F dc_L_law_729 rfl ?_
  refine rw_iadd F dc_L_law_730 ?_
  refine rw_sld F S dc_L_law_731 (sl_in (j := 2) hL hL2 (by decide)) ?_
  refine rw_cVi F [_, _] dc_L_law_732 mv_X9_start ml_L_88 (by decide) (rc_9 (by decide)) rfl rfl (Nat.le_of_ble_eq_true rfl) (ct_X9_start q2) ?_
  exact rw_icmp_eq (tgt := 1393) F dc_L_law_735 rfl (fun _ => nxt _ q4) (fun h => absurd q3 h)
theorem lc_speedFor {K : tw_K} {Q : Option Value → tw_T → Prop} {L : Nat} {xs : Nat → Int32} (F : tw_F K mL_law 40 Q) (S : tw_S K L xs) {c : Nat} {τ : tw_T} (hI : Inv c τ) (hc : c < 512) (hL : 6 * c + 6 ≤ L) (hL2 : L ≤ 3072) (nxt : ∀ τ, Inv (c + 1) τ → tw_R K 1393 [.ref 260, .ref 0, .ref 190, .int (nI (6 * c))] [] τ) : tw_R K 740 [.ref 260, .ref 0, .ref 190, .int (nI (6 * c))] [] τ := by
  obtain ⟨q1, q2, q3, q4⟩ := st_speedFor (N := 5000) hI hc (by decide) (xs (nI (6 * c) + 1).toNatClampNeg) (xs (nI (6 * c) + 2).toNatClampNeg)
  refine rw_aload_n F dc_L_law_740 rfl ?_
  refine rw_aload_n F dc_L_law_741 rfl ?_
  refine rw_iload_n F dc_L_law_742 rfl ?_
  refine rw_iconst (v := 1) F dc_L_law_743 rfl ?_
  refine rw_iadd F dc_L_law_744 ?_
  refine rw_sld F S dc_L_law_745 (sl_in (j := 1) hL hL2 (by decide)) ?_
  refine rw_aload_n F dc_L_law_746 rfl ?_
  refine rw_iload_n F dc_L_law_747 rfl ?_
  refine rw_iconst (v := 2) F dc_L_law_748 rfl ?_
  refine rw_iadd F dc_L_law_749 ?_
  refine rw_sld F S dc_L_law_750 (sl_in (j := 2) hL hL2 (by decide)) ?_
  refine rw_cVi F [_, _] dc_L_law_751 mv_X8_speedFor ml_L_89 (by decide) (rc_8 (by decide)) rfl rfl (Nat.le_of_ble_eq_true rfl) (cr_X8_speedFor q1) ?_
  refine rw_aload_n F dc_L_law_754 rfl ?_
  refine rw_aload_n F dc_L_law_755 rfl ?_
  refine rw_iload_n F dc_L_law_756 rfl ?_
  refine rw_iconst (v := 1) F dc_L_law_757 rfl ?_
  refine rw_iadd F dc_L_law_758 ?_
  refine rw_sld F S dc_L_law_759 (sl_in (j := 1) hL hL2 (by decide)) ?_
  refine rw_aload_n F dc_L_law_760 rfl ?_
  refine rw_iload_n F dc_L_law_761 rfl ?_
  refine rw_iconst (v := 2) F dc_L_law_762 rfl ?_
  refine rw_iadd F dc_L_law_763 ?_
  refine rw_sld F S dc_L_law_764 (sl_in (j := 2) hL hL2 (by decide)) ?_
  refine rw_cVi F [_, _] dc_L_law_765 mv_X9_speedFor ml_L_92 (by decide) (rc_9 (by decide)) rfl rfl (Nat.le_of_ble_eq_true rfl) (cr_X9_speedFor q2) ?_
  exact rw_icmp_eq (tgt := 1393) F dc_L_law_768 rfl (fun _ => nxt _ q4) (fun h => absurd q3 h)
theorem lc_keepIn {K : tw_K} {Q : Option Value → tw_T → Prop} {L : Nat} {xs : Nat → Int32} (F : tw_F K mL_law 40 Q) (S : tw_S K L xs) {c : Nat} {τ : tw_T} (hI : Inv c τ) (hc : c < 512) (hL : 6 * c + 6 ≤ L) (hL2 : L ≤ 3072) (nxt : ∀ τ, Inv (c + 1) τ → tw_R K 1393 [.ref 260, .ref 0, .ref 190, .int (nI (6 * c))] [] τ) : tw_R K 773 [.ref 260, .ref 0, .ref 190, .int (nI (6 * c))] [] τ := by
  obtain ⟨q1, q2, q3, q4⟩ := st_keepIn (N := 5000) hI hc (by decide) (xs (nI (6 * c) + 1).toNatClampNeg) (xs (nI (6 * c) + 2).toNatClampNeg)
  refine rw_aload_n F dc_L_law_773 rfl ?_
  refine rw_aload_n F dc_L_law_774 rfl ?_
  refine rw_iload_n F dc_L_law_775 rfl ?_
  refine rw_iconst (v := 1) F dc_L_law_776 rfl ?_
  refine rw_iadd F dc_L_law_777 ?_
  refine rw_sld F S dc_L_law_778 (sl_in (j := 1) hL hL2 (by decide)) ?_
  refine rw_aload_n F dc_L_law_779 rfl ?_
  refine rw_iload_n F dc_L_law_780 rfl ?_
  refine rw_iconst (v := 2) F dc_L_law_781 rfl ?_
  refine rw_iadd F dc_L_law_782 ?_
  refine rw_sld F S dc_L_law_783 (sl_in (j := 2) hL hL2 (by decide)) ?_
  refine rw_cVi F [_, _] dc_L_law_784 mv_X8_keepIn ml_L_93 (by decide) (rc_8 (by decide)) rfl rfl (Nat.le_of_ble_eq_true rfl) (cr_X8_keepIn q1) ?_
  refine rw_aload_n F dc_L_law_787 rfl ?_
  refine rw_aload_n F dc_L_law_788 rfl ?_
  refine rw_iload_n F dc_L_law_789 rfl ?_
  refine rw_iconst (v := 1) F dc_L_law_790 rfl ?_
  refine rw_iadd F dc_L_law_791 ?_
  refine rw_sld F S dc_L_law_792 (sl_in (j := 1) hL hL2 (by decide)) ?_
  refine rw_aload_n F dc_L_law_793 rfl ?_
  refine rw_iload_n F dc_L_law_794 rfl ?_
  refine rw_iconst (v := 2) F dc_L_law_795 rfl ?_
  refine rw_iadd F dc_L_law_796 ?_
  refine rw_sld F S dc_L_law_797 (sl_in (j := 2) hL hL2 (by decide)) ?_
  refine rw_cVi F [_, _] dc_L_law_798 mv_X9_keepIn ml_L_96 (by decide) (rc_9 (by decide)) rfl rfl (Nat.le_of_ble_eq_true rfl) (cr_X9_keepIn q2) ?_
  exact rw_icmp_eq (tgt := 1393) F dc_L_law_801 rfl (fun _ => nxt _ q4) (fun h => absurd q3 h)
theorem lc_lags {K : tw_K} {Q : Option Value → tw_T → Prop} {L : Nat} {xs : Nat → Int32} (F : tw_F K mL_law 40 Q) (S : tw_S K L xs) {c : Nat} {τ : tw_T} (hI : Inv c τ) (hc : c < 512) (hL : 6 * c + 6 ≤ L) (hL2 : L ≤ 3072) (nxt : ∀ τ, Inv (c + 1) τ → tw_R K 1393 [.ref 260, .ref 0, .ref 190, .int (nI (6 * c))] [] τ) : tw_R K 806 [.ref 260, .ref 0, .ref 190, .int (nI (6 * c))] [] τ := by
  obtain ⟨q1, q2, q3, q4⟩ := st_lags (N := 5000) hI hc (by decide) (xs (nI (6 * c) + 1).toNatClampNeg)
  refine rw_aload_n F dc_L_law_806 rfl ?_
  refine rw_aload_n F dc_L_law_807 rfl ?_
  refine rw_iload_n F dc_L_law_808 rfl ?_
  refine rw_iconst (v := 1) F dc_L_law_809 rfl ?_
  refine rw_iadd F dc_L_law_810 ?_
  refine rw_sld F S dc_L_law_811 (sl_in (j := 1) hL hL2 (by decide)) ?_
  refine rw_cVi F [_] dc_L_law_812 mv_X8_lags ml_L_97 (by decide) (rc_8 (by decide)) rfl rfl (Nat.le_of_ble_eq_true rfl) (cr_X8_lags q1) ?_
  refine rw_aload_n F dc_L_law_815 rfl ?_
  refine rw_aload_n F dc_L_law_816 rfl ?_
  refine rw_iload_n F dc_L_law_817 rfl ?_
  refine rw_iconst (v := 1) F dc_L_law_818 rfl ?_
  refine rw_iadd F dc_L_law_819 ?_
  refine rw_sld F S dc_L_law_820 (sl_in (j := 1) hL hL2 (by decide)) ?_
  refine rw_cVi F [_] dc_L_law_821 mv_X9_lags ml_L_100 (by decide) (rc_9 (by decide)) rfl rfl (Nat.le_of_ble_eq_true rfl) (cr_X9_lags q2) ?_
  exact rw_icmp_eq (tgt := 1393) F dc_L_law_824 rfl (fun _ => nxt _ q4) (fun h => absurd q3 h)
theorem lc_fits {K : tw_K} {Q : Option Value → tw_T → Prop} {L : Nat} {xs : Nat → Int32} (F : tw_F K mL_law 40 Q) (S : tw_S K L xs) {c : Nat} {τ : tw_T} (hI : Inv c τ) (hc : c < 512) (hL : 6 * c + 6 ≤ L) (hL2 : L ≤ 3072) (nxt : ∀ τ, Inv (c + 1) τ → tw_R K 1393 [.ref 260, .ref 0, .ref 190, .int (nI (6 * c))] [] τ) : tw_R K 829 [.ref 260, .ref 0, .ref 190, .int (nI (6 * c))] [] τ := by
  obtain ⟨q1, q2, q3, q4⟩ := st_fits (N := 5000) hI hc (by decide) (xs (nI (6 * c) + 1).toNatClampNeg)
  refine rw_aload_n F dc_L_law_829 rfl ?_
  refine rw_aload_n F dc_L_law_830 rfl ?_
  refine rw_iload_n F dc_L_law_831 rfl ?_
  refine rw_iconst (v := 1) F dc_L_law_832 rfl ?_
  refine rw_iadd F dc_L_law_833 ?_
  refine rw_sld F S dc_L_law_834 (sl_in (j := 1) hL hL2 (by decide)) ?_
  refine rw_cVi F [_] dc_L_law_835 mv_X8_fits ml_L_101 (by decide) (rc_8 (by decide)) rfl rfl (Nat.le_of_ble_eq_true rfl) (ct_X8_fits q1) ?_
  refine rw_aload_n F dc_L_law_838 rfl ?_
  refine rw_aload_n F dc_L_law_839 rfl ?_
  refine rw_iload_n F dc_L_law_840 rfl ?_
  refine rw_iconst (v := 1) F dc_L_law_841 rfl ?_
  refine rw_iadd F dc_L_law_842 ?_
  refine rw_sld F S dc_L_law_843 (sl_in (j := 1) hL hL2 (by decide)) ?_
  refine rw_cVi F [_] dc_L_law_844 mv_X9_fits ml_L_104 (by decide) (rc_9 (by decide)) rfl rfl (Nat.le_of_ble_eq_true rfl) (cr_X9_fits q2) ?_
  exact rw_icmp_eq (tgt := 1393) F dc_L_law_847 rfl (fun _ => nxt _ q4) (fun h => absurd q3 h)
theorem lc_pattern {K : tw_K} {Q : Option Value → tw_T → Prop} {L : Nat} {xs : Nat → Int32} (F : tw_F K mL_law 40 Q) (S : tw_S K L xs) {c : Nat} {τ : tw_T} (hI : Inv c τ) (hc : c < 512) (hL : 6 * c + 6 ≤ L) (hL2 : L ≤ 3072) (nxt : ∀ τ, Inv (c + 1) τ → tw_R K 1393 [.ref 260, .ref 0, .ref 190, .int (nI (6 * c))] [] τ) : tw_R K 852 [.ref 260, .ref 0, .ref 190, .int (nI (6 * c))] [] τ := by
  obtain ⟨q1, q2, q3, q4⟩ := st_pattern (N := 5000) hI hc (by decide) (xs (nI (6 * c) + 1).toNatClampNeg)
  refine rw_aload_n F dc_L_law_852 rfl ?_
  refine rw_aload_n F dc_L_law_853 rfl ?_
  refine rw_iload_n F dc_L_law_854 rfl ?_
  refine rw_iconst (v := 1) F dc_L_law_855 rfl ?_
  refine rw_iadd F dc_L_law_856 ?_
  refine rw_sld F S dc_L_law_857 (sl_in (j := 1) hL hL2 (by decide)) ?_
  refine rw_cVi F [_] dc_L_law_858 mv_X8_pattern ml_L_105 (by decide) (rc_8 (by decide)) rfl rfl (Nat.le_of_ble_eq_true rfl) (ct_X8_pattern q1) ?_
  refine rw_aload_n F dc_L_law_861 rfl ?_
  refine rw_aload_n F dc_L_law_862 rfl ?_
  refine rw_iload_n F dc_L_law_863 rfl ?_
  refine rw_iconst (v := 1) F dc_L_law_864 rfl ?_
  refine rw_iadd F dc_L_law_865 ?_
  refine rw_sld F S dc_L_law_866 (sl_in (j := 1) hL hL2 (by decide)) ?_
  refine rw_cVi F [_] dc_L_law_867 mv_X9_pattern ml_L_108 (by decide) (rc_9 (by decide)) rfl rfl (Nat.le_of_ble_eq_true rfl) (cr_X9_pattern q2) ?_
  exact rw_icmp_eq (tgt := 1393) F dc_L_law_870 rfl (fun _ => nxt _ q4) (fun h => absurd q3 h)
theorem lc_kinds {K : tw_K} {Q : Option Value → tw_T → Prop} {L : Nat} {xs : Nat → Int32} (F : tw_F K mL_law 40 Q) (S : tw_S K L xs) {c : Nat} {τ : tw_T} (hI : Inv c τ) (hc : c < 512) (hL : 6 * c + 6 ≤ L) (hL2 : L ≤ 3072) (nxt : ∀ τ, Inv (c + 1) τ → tw_R K 1393 [.ref 260, .ref 0, .ref 190, .int (nI (6 * c))] [] τ) : tw_R K 875 [.ref 260, .ref 0, .ref 190, .int (nI (6 * c))] [] τ := by
  obtain ⟨q1, q2, q3, q4⟩ := st_kinds (N := 5000) hI hc (by decide) (xs (nI (6 * c) + 1).toNatClampNeg) (xs (nI (6 * c) + 2).toNatClampNeg)
  refine rw_aload_n F dc_L_law_875 rfl ?_
  refine rw_aload_n F dc_L_law_876 rfl ?_
  refine rw_iload_n F dc_L_law_877 rfl ?_
  refine rw_iconst (v := 1) F dc_L_law_878 rfl ?_
  refine rw_iadd F dc_L_law_879 ?_
  refine rw_sld F S dc_L_law_880 (sl_in (j := 1) hL hL2 (by decide)) ?_
  refine rw_aload_n F dc_L_law_881 rfl ?_
  refine rw_iload_n F dc_L_law_882 rfl ?_
  refine rw_iconst (v := 2) F dc_L_law_883 rfl ?_
  refine rw_iadd F dc_L_law_884 ?_
  refine rw_sld F S dc_L_law_885 (sl_in (j := 2) hL hL2 (by decide)) ?_
  refine rw_cVi F [_, _] dc_L_law_886 mv_X8_kinds ml_L_109 (by decide) (rc_8 (by decide)) rfl rfl (Nat.le_of_ble_eq_true rfl) (cr_X8_kinds q1) ?_
  refine rw_aload_n F dc_L_law_889 rfl ?_
  refine rw_aload_n F dc_L_law_890 rfl ?_
  refine rw_iload_n F dc_L_law_891 rfl ?_
  refine rw_iconst (v := 1) F dc_L_law_892 rfl ?_
  refine rw_iadd F dc_L_law_893 ?_
  refine rw_sld F S dc_L_law_894 (sl_in (j := 1) hL hL2 (by decide)) ?_
  refine rw_aload_n F dc_L_law_895 rfl ?_
  refine rw_iload_n F dc_L_law_896 rfl ?_
  refine rw_iconst (v := 2) F dc_L_law_897 rfl ?_
  refine rw_iadd F dc_L_law_898 ?_
  refine rw_sld F S dc_L_law_899 (sl_in (j := 2) hL hL2 (by decide)) ?_
  refine rw_cVi F [_, _] dc_L_law_900 mv_X9_kinds ml_L_112 (by decide) (rc_9 (by decide)) rfl rfl (Nat.le_of_ble_eq_true rfl) (cr_X9_kinds q2) ?_
  exact rw_icmp_eq (tgt := 1393) F dc_L_law_903 rfl (fun _ => nxt _ q4) (fun h => absurd q3 h)
theorem lc_nights {K : tw_K} {Q : Option Value → tw_T → Prop} {L : Nat} {xs : Nat → Int32} (F : tw_F K mL_law 40 Q) (S : tw_S K L xs) {c : Nat} {τ : tw_T} (hI : Inv c τ) (hc : c < 512) (hL : 6 * c + 6 ≤ L) (hL2 : L ≤ 3072) (nxt : ∀ τ, Inv (c + 1) τ → tw_R K 1393 [.ref 260, .ref 0, .ref 190, .int (nI (6 * c))] [] τ) : tw_R K 908 [.ref 260, .ref 0, .ref 190, .int (nI (6 * c))] [] τ := by
  obtain ⟨q1, q2, q3, q4⟩ := st_nights (N := 5000) hI hc (by decide) (xs (nI (6 * c) + 1).toNatClampNeg)
  refine rw_aload_n F dc_L_law_908 rfl ?_
  refine rw_aload_n F dc_L_law_909 rfl ?_
  refine rw_iload_n F dc_L_law_910 rfl ?_
  refine rw_iconst (v := 1) F dc_L_law_911 rfl ?_
  refine rw_iadd F dc_L_law_912 ?_
  refine rw_sld F S dc_L_law_913 (sl_in (j := 1) hL hL2 (by decide)) ?_
  refine rw_cVi F [_] dc_L_law_914 mv_X8_nights ml_L_113 (by decide) (rc_8 (by decide)) rfl rfl (Nat.le_of_ble_eq_true rfl) (cr_X8_nights q1) ?_
  refine rw_aload_n F dc_L_law_917 rfl ?_
  refine rw_aload_n F dc_L_law_918 rfl ?_
  refine rw_iload_n F dc_L_law_919 rfl ?_
  refine rw_iconst (v := 1) F dc_L_law_920 rfl ?_
  refine rw_iadd F dc_L_law_921 ?_
  refine rw_sld F S dc_L_law_922 (sl_in (j := 1) hL hL2 (by decide)) ?_
  refine rw_cVi F [_] dc_L_law_923 mv_X9_nights ml_L_116 (by decide) (rc_9 (by decide)) rfl rfl (Nat.le_of_ble_eq_true rfl) (cr_X9_nights q2) ?_
  exact rw_icmp_eq (tgt := 1393) F dc_L_law_926 rfl (fun _ => nxt _ q4) (fun h => absurd q3 h)
theorem lc_odds {K : tw_K} {Q : Option Value → tw_T → Prop} {L : Nat} {xs : Nat → Int32} (F : tw_F K mL_law 40 Q) (S : tw_S K L xs) {c : Nat} {τ : tw_T} (hI : Inv c τ) (hc : c < 512) (hL : 6 * c + 6 ≤ L) (hL2 : L ≤ 3072) (nxt : ∀ τ, Inv (c + 1) τ → tw_R K 1393 [.ref 260, .ref 0, .ref 190, .int (nI (6 * c))] [] τ) : tw_R K 931 [.ref 260, .ref 0, .ref 190, .int (nI (6 * c))] [] τ := by
  obtain ⟨q1, q2, q3, q4⟩ := st_odds (N := 5000) hI hc (by decide) (xs (nI (6 * c) + 1).toNatClampNeg) (xs (nI (6 * c) + 2).toNatClampNeg)
  refine rw_aload_n F dc_L_law_931 rfl ?_
  refine rw_aload_n F dc_L_law_932 rfl ?_
  refine rw_iload_n F dc_L_law_933 rfl ?_
  refine rw_iconst (v := 1) F dc_L_law_934 rfl ?_
  refine rw_iadd F dc_L_law_935 ?_
  refine rw_sld F S dc_L_law_936 (sl_in (j := 1) hL hL2 (by decide)) ?_
  refine rw_aload_n F dc_L_law_937 rfl ?_
  refine rw_iload_n F dc_L_law_938 rfl ?_
  refine rw_iconst (v := 2) F dc_L_law_939 rfl ?_
  refine rw_iadd F dc_L_law_940 ?_
  refine rw_sld F S dc_L_law_941 (sl_in (j := 2) hL hL2 (by decide)) ?_
  refine rw_cVl F [_, _] dc_L_law_942 mv_X8_odds ml_L_117 (by decide) (rc_8 (by decide)) rfl rfl (Nat.le_of_ble_eq_true rfl) (ct_X8_odds q1) ?_
  refine rw_aload_n F dc_L_law_945 rfl ?_
  refine rw_aload_n F dc_L_law_946 rfl ?_
  refine rw_iload_n F dc_L_law_947 rfl ?_
  refine rw_iconst (v := 1) F dc_L_law_948 rfl ?_
  refine rw_iadd F dc_L_law_949 ?_
  refine rw_sld F S dc_L_law_950 (sl_in (j := 1) hL hL2 (by decide)) ?_
  refine rw_aload_n F dc_L_law_951 rfl ?_
  refine rw_iload_n F dc_L_law_952 rfl ?_
  refine rw_iconst (v := 2) F dc_L_law_953 rfl ?_
  refine rw_iadd F dc_L_law_954 ?_
  refine rw_sld F S dc_L_law_955 (sl_in (j := 2) hL hL2 (by decide)) ?_
  refine rw_cVl F [_, _] dc_L_law_956 mv_X9_odds ml_L_121 (by decide) (rc_9 (by decide)) rfl rfl (Nat.le_of_ble_eq_true rfl) (cr_X9_odds q2) ?_
  refine rw_lcmp F dc_L_law_959 ?_
  exact rw_if_eq (tgt := 1393) F dc_L_law_960 rfl (fun _ => nxt _ q4) (fun h => absurd (by rw [q3]; exact lg_self _) h)
theorem lc_seed {K : tw_K} {Q : Option Value → tw_T → Prop} {L : Nat} {xs : Nat → Int32} (F : tw_F K mL_law 40 Q) (S : tw_S K L xs) {c : Nat} {τ : tw_T} (hI : Inv c τ) (hc : c < 512) (hL : 6 * c + 6 ≤ L) (hL2 : L ≤ 3072) (nxt : ∀ τ, Inv (c + 1) τ → tw_R K 1393 [.ref 260, .ref 0, .ref 190, .int (nI (6 * c))] [] τ) : tw_R K 965 [.ref 260, .ref 0, .ref 190, .int (nI (6 * c))] [] τ := by
  obtain ⟨q2, q3, q4⟩ := st_seed hI hc (xs (nI (6 * c) + 1).toNatClampNeg)
  refine rw_aload_n F dc_L_law_965 rfl ?_
  refine rw_aload_n F dc_L_law_966 rfl ?_
  refine rw_iload_n F dc_L_law_967 rfl ?_
  refine rw_iconst (v := 1) F dc_L_law_968 rfl ?_
  refine rw_iadd F dc_L_law_969 ?_
  refine rw_sld F S dc_L_law_970 (sl_in (j := 1) hL hL2 (by decide)) ?_
  refine rw_cVi F [_] dc_L_law_971 mv_X8_seed ml_L_122 (by decide) (rc_8 (by decide)) rfl rfl (Nat.le_of_ble_eq_true rfl) ct_X8_seed ?_
  refine rw_aload_n F dc_L_law_974 rfl ?_
  refine rw_aload_n F dc_L_law_975 rfl ?_
  refine rw_iload_n F dc_L_law_976 rfl ?_
  refine rw_iconst (v := 1) F dc_L_law_977 rfl ?_
  refine rw_iadd F dc_L_law_978 ?_
  refine rw_sld F S dc_L_law_979 (sl_in (j := 1) hL hL2 (by decide)) ?_
  refine rw_cVi F [_] dc_L_law_980 mv_X9_seed ml_L_125 (by decide) (rc_9 (by decide)) rfl rfl (Nat.le_of_ble_eq_true rfl) (ct_X9_seed q2) ?_
  exact rw_icmp_eq (tgt := 1393) F dc_L_law_983 rfl (fun _ => nxt _ q4) (fun h => absurd q3 h)
theorem lc_feed {K : tw_K} {Q : Option Value → tw_T → Prop} {L : Nat} {xs : Nat → Int32} (F : tw_F K mL_law 40 Q) (S : tw_S K L xs) {c : Nat} {τ : tw_T} (hI : Inv c τ) (hc : c < 512) (hL : 6 * c + 6 ≤ L) (hL2 : L ≤ 3072) (nxt : ∀ τ, Inv (c + 1) τ → tw_R K 1393 [.ref 260, .ref 0, .ref 190, .int (nI (6 * c))] [] τ) : tw_R K 988 [.ref 260, .ref 0, .ref 190, .int (nI (6 * c))] [] τ := by
  obtain ⟨q1, q2, q3, q4⟩ := st_feed (N := 5000) hI hc (by decide) (xs (nI (6 * c) + 1).toNatClampNeg) (xs (nI (6 * c) + 2).toNatClampNeg)
  refine rw_aload_n F dc_L_law_988 rfl ?_
  refine rw_aload_n F dc_L_law_989 rfl ?_
  refine rw_iload_n F dc_L_law_990 rfl ?_
  refine rw_iconst (v := 1) F dc_L_law_991 rfl ?_
  refine rw_iadd F dc_L_law_992 ?_
  refine rw_sld F S dc_L_law_993 (sl_in (j := 1) hL hL2 (by decide)) ?_
  refine rw_aload_n F dc_L_law_994 rfl ?_
  refine rw_iload_n F dc_L_law_995 rfl ?_
  refine rw_iconst (v := 2) F dc_L_law_996 rfl ?_
  refine rw_iadd F dc_L_law_997 ?_
  refine rw_sld F S dc_L_law_998 (sl_in (j := 2) hL hL2 (by decide)) ?_
  refine rw_cVi F [_, _] dc_L_law_999 mv_X8_feed ml_L_126 (by decide) (rc_8 (by decide)) rfl rfl (Nat.le_of_ble_eq_true rfl) (cr_X8_feed q1) ?_
  refine rw_aload_n F dc_L_law_1002 rfl ?_
  refine rw_aload_n F dc_L_law_1003 rfl ?_
  refine rw_iload_n F dc_L_law_1004 rfl ?_
  refine rw_iconst (v := 1) F dc_L_law_1005 rfl ?_
  refine rw_iadd F dc_L_law_1006 ?_
  refine rw_sld F S dc_L_law_1007 (sl_in (j := 1) hL hL2 (by decide)) ?_
  refine rw_aload_n F dc_L_law_1008 rfl ?_
  refine rw_iload_n F dc_L_law_1009 rfl ?_
  refine rw_iconst (v := 2) F dc_L_law_1010 rfl ?_
  refine rw_iadd F dc_L_law_1011 ?_
  refine rw_sld F S dc_L_law_1012 (sl_in (j := 2) hL hL2 (by decide)) ?_
  refine rw_cVi F [_, _] dc_L_law_1013 mv_X9_feed ml_L_129 (by decide) (rc_9 (by decide)) rfl rfl (Nat.le_of_ble_eq_true rfl) (cr_X9_feed q2) ?_
  exact rw_icmp_eq (tgt := 1393) F dc_L_law_1016 rfl (fun _ => nxt _ q4) (fun h => absurd q3 h)
theorem lc_wipe {K : tw_K} {Q : Option Value → tw_T → Prop} {L : Nat} {xs : Nat → Int32} (F : tw_F K mL_law 40 Q) (S : tw_S K L xs) {c : Nat} {τ : tw_T} (hI : Inv c τ) (hc : c < 512) (hL : 6 * c + 6 ≤ L) (hL2 : L ≤ 3072) (nxt : ∀ τ, Inv (c + 1) τ → tw_R K 1393 [.ref 260, .ref 0, .ref 190, .int (nI (6 * c))] [] τ) : tw_R K 1021 [.ref 260, .ref 0, .ref 190, .int (nI (6 * c))] [] τ := by
  obtain ⟨q3, q4⟩ := st_wipe hI hc 
  refine rw_aload_n F dc_L_law_1021 rfl ?_
  refine rw_cVi F [] dc_L_law_1022 mv_X8_wipe ml_L_130 (by decide) (rc_8 (by decide)) rfl rfl (Nat.le_of_ble_eq_true rfl) ct_X8_wipe ?_
  refine rw_aload_n F dc_L_law_1025 rfl ?_
  refine rw_cVi F [] dc_L_law_1026 mv_X9_wipe ml_L_133 (by decide) (rc_9 (by decide)) rfl rfl (Nat.le_of_ble_eq_true rfl) ct_X9_wipe ?_
  exact rw_icmp_eq (tgt := 1393) F dc_L_law_1029 rfl (fun _ => nxt _ q4) (fun h => absurd q3 h)
theorem lc_text {K : tw_K} {Q : Option Value → tw_T → Prop} {L : Nat} {xs : Nat → Int32} (F : tw_F K mL_law 40 Q) (S : tw_S K L xs) {c : Nat} {τ : tw_T} (hI : Inv c τ) (hc : c < 512) (hL : 6 * c + 6 ≤ L) (hL2 : L ≤ 3072) (nxt : ∀ τ, Inv (c + 1) τ → tw_R K 1393 [.ref 260, .ref 0, .ref 190, .int (nI (6 * c))] [] τ) : tw_R K 1034 [.ref 260, .ref 0, .ref 190, .int (nI (6 * c))] [] τ := by
  obtain ⟨q1, q2, q3, q4⟩ := st_text (N := 5000) hI hc (by decide) 
  refine rw_aload_n F dc_L_law_1034 rfl ?_
  refine rw_cVi F [] dc_L_law_1035 mv_X8_text ml_L_134 (by decide) (rc_8 (by decide)) rfl rfl (Nat.le_of_ble_eq_true rfl) (ct_X8_text q1) ?_
  refine rw_aload_n F dc_L_law_1038 rfl ?_
  refine rw_cVi F [] dc_L_law_1039 mv_X9_text ml_L_137 (by decide) (rc_9 (by decide)) rfl rfl (Nat.le_of_ble_eq_true rfl) (cr_X9_text q2) ?_
  exact rw_icmp_eq (tgt := 1393) F dc_L_law_1042 rfl (fun _ => nxt _ q4) (fun h => absurd q3 h)
theorem lc_hold {K : tw_K} {Q : Option Value → tw_T → Prop} {L : Nat} {xs : Nat → Int32} (F : tw_F K mL_law 40 Q) (S : tw_S K L xs) {c : Nat} {τ : tw_T} (hI : Inv c τ) (hc : c < 512) (hL : 6 * c + 6 ≤ L) (hL2 : L ≤ 3072) (nxt : ∀ τ, Inv (c + 1) τ → tw_R K 1393 [.ref 260, .ref 0, .ref 190, .int (nI (6 * c))] [] τ) : tw_R K 1047 [.ref 260, .ref 0, .ref 190, .int (nI (6 * c))] [] τ := by
  obtain ⟨q1, q2, q3, q4⟩ := st_hold hI hc (xs (nI (6 * c) + 1).toNatClampNeg) (xs (nI (6 * c) + 2).toNatClampNeg)
  refine rw_aload_n F dc_L_law_1047 rfl ?_
  refine rw_aload_n F dc_L_law_1048 rfl ?_
  refine rw_iload_n F dc_L_law_1049 rfl ?_
  refine rw_iconst (v := 1) F dc_L_law_1050 rfl ?_
  refine rw_iadd F dc_L_law_1051 ?_
  refine rw_sld F S dc_L_law_1052 (sl_in (j := 1) hL hL2 (by decide)) ?_
  refine rw_aload_n F dc_L_law_1053 rfl ?_
  refine rw_iload_n F dc_L_law_1054 rfl ?_
  refine rw_iconst (v := 2) F dc_L_law_1055 rfl ?_
  refine rw_iadd F dc_L_law_1056 ?_
  refine rw_sld F S dc_L_law_1057 (sl_in (j := 2) hL hL2 (by decide)) ?_
  refine rw_cVi F [_, _] dc_L_law_1058 mv_X8_hold ml_L_138 (by decide) (rc_8 (by decide)) rfl rfl (Nat.le_of_ble_eq_true rfl) (ct_X8_hold q1) ?_
  refine rw_aload_n F dc_L_law_1061 rfl ?_
  refine rw_aload_n F dc_L_law_1062 rfl ?_
  refine rw_iload_n F dc_L_law_1063 rfl ?_
  refine rw_iconst (v := 1) F dc_L_law_1064 rfl ?_
  refine rw_iadd F dc_L_law_1065 ?_
  refine rw_sld F S dc_L_law_1066 (sl_in (j := 1) hL hL2 (by decide)) ?_
  refine rw_aload_n F dc_L_law_1067 rfl ?_
  refine rw_iload_n F dc_L_law_1068 rfl ?_
  refine rw_iconst (v := 2) F dc_L_law_1069 rfl ?_
  refine rw_iadd F dc_L_law_1070 ?_
  refine rw_sld F S dc_L_law_1071 (sl_in (j := 2) hL hL2 (by decide)) ?_
  refine rw_cVi F [_, _] dc_L_law_1072 mv_X9_hold ml_L_141 (by decide) (rc_9 (by decide)) rfl rfl (Nat.le_of_ble_eq_true rfl) (ct_X9_hold q2) ?_
  exact rw_icmp_eq (tgt := 1393) F dc_L_law_1075 rfl (fun _ => nxt _ q4) (fun h => absurd q3 h)
theorem lc_as {K : tw_K} {Q : Option Value → tw_T → Prop} {L : Nat} {xs : Nat → Int32} (F : tw_F K mL_law 40 Q) (S : tw_S K L xs) {c : Nat} {τ : tw_T} (hI : Inv c τ) (hc : c < 512) (hL : 6 * c + 6 ≤ L) (hL2 : L ≤ 3072) (nxt : ∀ τ, Inv (c + 1) τ → tw_R K 1393 [.ref 260, .ref 0, .ref 190, .int (nI (6 * c))] [] τ) : tw_R K 1080 [.ref 260, .ref 0, .ref 190, .int (nI (6 * c))] [] τ := by
  obtain ⟨q1, q2, q3, q4⟩ := st_as (N := 5000) hI hc (by decide) (xs (nI (6 * c) + 1).toNatClampNeg) (xs (nI (6 * c) + 2).toNatClampNeg)
  refine rw_aload_n F dc_L_law_1080 rfl ?_
  refine rw_aload_n F dc_L_law_1081 rfl ?_
  refine rw_iload_n F dc_L_law_1082 rfl ?_
  refine rw_iconst (v := 1) F dc_L_law_1083 rfl ?_
  refine rw_iadd F dc_L_law_1084 ?_
  refine rw_sld F S dc_L_law_1085 (sl_in (j := 1) hL hL2 (by decide)) ?_
  refine rw_aload_n F dc_L_law_1086 rfl ?_
  refine rw_iload_n F dc_L_law_1087 rfl ?_
  refine rw_iconst (v := 2) F dc_L_law_1088 rfl ?_
  refine rw_iadd F dc_L_law_1089 ?_
  refine rw_sld F S dc_L_law_1090 (sl_in (j := 2) hL hL2 (by decide)) ?_
  refine rw_cVi F [_, _] dc_L_law_1091 mv_X8_as ml_L_142 (by decide) (rc_8 (by decide)) rfl rfl (Nat.le_of_ble_eq_true rfl) (ct_X8_as q1) ?_
  refine rw_aload_n F dc_L_law_1094 rfl ?_
  refine rw_aload_n F dc_L_law_1095 rfl ?_
  refine rw_iload_n F dc_L_law_1096 rfl ?_
  refine rw_iconst (v := 1) F dc_L_law_1097 rfl ?_
  refine rw_iadd F dc_L_law_1098 ?_
  refine rw_sld F S dc_L_law_1099 (sl_in (j := 1) hL hL2 (by decide)) ?_
  refine rw_aload_n F dc_L_law_1100 rfl ?_
  refine rw_iload_n F dc_L_law_1101 rfl ?_
  refine rw_iconst (v := 2) F dc_L_law_1102 rfl ?_
  refine rw_iadd F dc_L_law_1103 ?_
  refine rw_sld F S dc_L_law_1104 (sl_in (j := 2) hL hL2 (by decide)) ?_
  refine rw_cVi F [_, _] dc_L_law_1105 mv_X9_as ml_L_145 (by decide) (rc_9 (by decide)) rfl rfl (Nat.le_of_ble_eq_true rfl) (ct_X9_as q2) ?_
  exact rw_icmp_eq (tgt := 1393) F dc_L_law_1108 rfl (fun _ => nxt _ q4) (fun h => absurd q3 h)
theorem lc_sheet {K : tw_K} {Q : Option Value → tw_T → Prop} {L : Nat} {xs : Nat → Int32} (F : tw_F K mL_law 40 Q) (S : tw_S K L xs) {c : Nat} {τ : tw_T} (hI : Inv c τ) (hc : c < 512) (hL : 6 * c + 6 ≤ L) (hL2 : L ≤ 3072) (nxt : ∀ τ, Inv (c + 1) τ → tw_R K 1393 [.ref 260, .ref 0, .ref 190, .int (nI (6 * c))] [] τ) : tw_R K 1113 [.ref 260, .ref 0, .ref 190, .int (nI (6 * c))] [] τ := by
  obtain ⟨q1, q2, q3, q4⟩ := st_sheet (N := 5000) hI hc (by decide) (xs (nI (6 * c) + 1).toNatClampNeg) (xs (nI (6 * c) + 2).toNatClampNeg) (xs (nI (6 * c) + 3).toNatClampNeg)
  refine rw_aload_n F dc_L_law_1113 rfl ?_
  refine rw_aload_n F dc_L_law_1114 rfl ?_
  refine rw_iload_n F dc_L_law_1115 rfl ?_
  refine rw_iconst (v := 1) F dc_L_law_1116 rfl ?_
  refine rw_iadd F dc_L_law_1117 ?_
  refine rw_sld F S dc_L_law_1118 (sl_in (j := 1) hL hL2 (by decide)) ?_
  refine rw_aload_n F dc_L_law_1119 rfl ?_
  refine rw_iload_n F dc_L_law_1120 rfl ?_
  refine rw_iconst (v := 2) F dc_L_law_1121 rfl ?_
  refine rw_iadd F dc_L_law_1122 ?_
  refine rw_sld F S dc_L_law_1123 (sl_in (j := 2) hL hL2 (by decide)) ?_
  refine rw_aload_n F dc_L_law_1124 rfl ?_
  refine rw_iload_n F dc_L_law_1125 rfl ?_
  refine rw_iconst (v := 3) F dc_L_law_1126 rfl ?_
  refine rw_iadd F dc_L_law_1127 ?_
  refine rw_sld F S dc_L_law_1128 (sl_in (j := 3) hL hL2 (by decide)) ?_
  refine rw_cVi F [_, _, _] dc_L_law_1129 mv_X8_sheet ml_L_146 (by decide) (rc_8 (by decide)) rfl rfl (Nat.le_of_ble_eq_true rfl) (ct_X8_sheet q1) ?_
  refine rw_aload_n F dc_L_law_1132 rfl ?_
  refine rw_aload_n F dc_L_law_1133 rfl ?_
  refine rw_iload_n F dc_L_law_1134 rfl ?_
  refine rw_iconst (v := 1) F dc_L_law_1135 rfl ?_
  refine rw_iadd F dc_L_law_1136 ?_
  refine rw_sld F S dc_L_law_1137 (sl_in (j := 1) hL hL2 (by decide)) ?_
  refine rw_aload_n F dc_L_law_1138 rfl ?_
  refine rw_iload_n F dc_L_law_1139 rfl ?_
  refine rw_iconst (v := 2) F dc_L_law_1140 rfl ?_
  refine rw_iadd F dc_L_law_1141 ?_
  refine rw_sld F S dc_L_law_1142 (sl_in (j := 2) hL hL2 (by decide)) ?_
  refine rw_aload_n F dc_L_law_1143 rfl ?_
  refine rw_iload_n F dc_L_law_1144 rfl ?_
  refine rw_iconst (v := 3) F dc_L_law_1145 rfl ?_
  refine rw_iadd F dc_L_law_1146 ?_
  refine rw_sld F S dc_L_law_1147 (sl_in (j := 3) hL hL2 (by decide)) ?_
  refine rw_cVi F [_, _, _] dc_L_law_1148 mv_X9_sheet ml_L_149 (by decide) (rc_9 (by decide)) rfl rfl (Nat.le_of_ble_eq_true rfl) (cr_X9_sheet q2) ?_
  exact rw_icmp_eq (tgt := 1393) F dc_L_law_1151 rfl (fun _ => nxt _ q4) (fun h => absurd q3 h)
theorem lc_write {K : tw_K} {Q : Option Value → tw_T → Prop} {L : Nat} {xs : Nat → Int32} (F : tw_F K mL_law 40 Q) (S : tw_S K L xs) {c : Nat} {τ : tw_T} (hI : Inv c τ) (hc : c < 512) (hL : 6 * c + 6 ≤ L) (hL2 : L ≤ 3072) (nxt : ∀ τ, Inv (c + 1) τ → tw_R K 1393 [.ref 260, .ref 0, .ref 190, .int (nI (6 * c))] [] τ) : tw_R K 1156 [.ref 260, .ref 0, .ref 190, .int (nI (6 * c))] [] τ := by
  obtain ⟨q1, q2, q3, q4⟩ := st_write hI hc (xs (nI (6 * c) + 1).toNatClampNeg) (xs (nI (6 * c) + 2).toNatClampNeg) (xs (nI (6 * c) + 3).toNatClampNeg)
  refine rw_aload_n F dc_L_law_1156 rfl ?_
  refine rw_aload_n F dc_L_law_1157 rfl ?_
  refine rw_iload_n F dc_L_law_1158 rfl ?_
  refine rw_iconst (v := 1) F dc_L_law_1159 rfl ?_
  refine rw_iadd F dc_L_law_1160 ?_
  refine rw_sld F S dc_L_law_1161 (sl_in (j := 1) hL hL2 (by decide)) ?_
  refine rw_aload_n F dc_L_law_1162 rfl ?_
  refine rw_iload_n F dc_L_law_1163 rfl ?_
  refine rw_iconst (v := 2) F dc_L_law_1164 rfl ?_
  refine rw_iadd F dc_L_law_1165 ?_
  refine rw_sld F S dc_L_law_1166 (sl_in (j := 2) hL hL2 (by decide)) ?_
  refine rw_aload_n F dc_L_law_1167 rfl ?_
  refine rw_iload_n F dc_L_law_1168 rfl ?_
  refine rw_iconst (v := 3) F dc_L_law_1169 rfl ?_
  refine rw_iadd F dc_L_law_1170 ?_
  refine rw_sld F S dc_L_law_1171 (sl_in (j := 3) hL hL2 (by decide)) ?_
  refine rw_cVi F [_, _, _] dc_L_law_1172 mv_X8_write ml_L_150 (by decide) (rc_8 (by decide)) rfl rfl (Nat.le_of_ble_eq_true rfl) (ct_X8_write q1) ?_
  refine rw_aload_n F dc_L_law_1175 rfl ?_
  refine rw_aload_n F dc_L_law_1176 rfl ?_
  refine rw_iload_n F dc_L_law_1177 rfl ?_
  refine rw_iconst (v := 1) F dc_L_law_1178 rfl ?_
  refine rw_iadd F dc_L_law_1179 ?_
  refine rw_sld F S dc_L_law_1180 (sl_in (j := 1) hL hL2 (by decide)) ?_
  refine rw_aload_n F dc_L_law_1181 rfl ?_
  refine rw_iload_n F dc_L_law_1182 rfl ?_
  refine rw_iconst (v := 2) F dc_L_law_1183 rfl ?_
  refine rw_iadd F dc_L_law_1184 ?_
  refine rw_sld F S dc_L_law_1185 (sl_in (j := 2) hL hL2 (by decide)) ?_
  refine rw_aload_n F dc_L_law_1186 rfl ?_
  refine rw_iload_n F dc_L_law_1187 rfl ?_
  refine rw_iconst (v := 3) F dc_L_law_1188 rfl ?_
  refine rw_iadd F dc_L_law_1189 ?_
  refine rw_sld F S dc_L_law_1190 (sl_in (j := 3) hL hL2 (by decide)) ?_
  refine rw_cVi F [_, _, _] dc_L_law_1191 mv_X9_write ml_L_153 (by decide) (rc_9 (by decide)) rfl rfl (Nat.le_of_ble_eq_true rfl) (ct_X9_write q2) ?_
  exact rw_icmp_eq (tgt := 1393) F dc_L_law_1194 rfl (fun _ => nxt _ q4) (fun h => absurd q3 h)
theorem lc_copy {K : tw_K} {Q : Option Value → tw_T → Prop} {L : Nat} {xs : Nat → Int32} (F : tw_F K mL_law 40 Q) (S : tw_S K L xs) {c : Nat} {τ : tw_T} (hI : Inv c τ) (hc : c < 512) (hL : 6 * c + 6 ≤ L) (hL2 : L ≤ 3072) (nxt : ∀ τ, Inv (c + 1) τ → tw_R K 1393 [.ref 260, .ref 0, .ref 190, .int (nI (6 * c))] [] τ) : tw_R K 1199 [.ref 260, .ref 0, .ref 190, .int (nI (6 * c))] [] τ := by
  obtain ⟨q1, q2, q3, q4⟩ := st_copy (N := 5000) hI hc (by decide) (xs (nI (6 * c) + 1).toNatClampNeg) (xs (nI (6 * c) + 2).toNatClampNeg) (xs (nI (6 * c) + 3).toNatClampNeg) (xs (nI (6 * c) + 4).toNatClampNeg) (xs (nI (6 * c) + 5).toNatClampNeg)
  refine rw_aload_n F dc_L_law_1199 rfl ?_
  refine rw_aload_n F dc_L_law_1200 rfl ?_
  refine rw_iload_n F dc_L_law_1201 rfl ?_
  refine rw_iconst (v := 1) F dc_L_law_1202 rfl ?_
  refine rw_iadd F dc_L_law_1203 ?_
  refine rw_sld F S dc_L_law_1204 (sl_in (j := 1) hL hL2 (by decide)) ?_
  refine rw_aload_n F dc_L_law_1205 rfl ?_
  refine rw_iload_n F dc_L_law_1206 rfl ?_
  refine rw_iconst (v := 2) F dc_L_law_1207 rfl ?_
  refine rw_iadd F dc_L_law_1208 ?_
  refine rw_sld F S dc_L_law_1209 (sl_in (j := 2) hL hL2 (by decide)) ?_
  refine rw_aload_n F dc_L_law_1210 rfl ?_
  refine rw_iload_n F dc_L_law_1211 rfl ?_
  refine rw_iconst (v := 3) F dc_L_law_1212 rfl ?_
  refine rw_iadd F dc_L_law_1213 ?_
  refine rw_sld F S dc_L_law_1214 (sl_in (j := 3) hL hL2 (by decide)) ?_
  refine rw_aload_n F dc_L_law_1215 rfl ?_
  refine rw_iload_n F dc_L_law_1216 rfl ?_
  refine rw_iconst (v := 4) F dc_L_law_1217 rfl ?_
  refine rw_iadd F dc_L_law_1218 ?_
  refine rw_sld F S dc_L_law_1219 (sl_in (j := 4) hL hL2 (by decide)) ?_
  refine rw_aload_n F dc_L_law_1220 rfl ?_
  refine rw_iload_n F dc_L_law_1221 rfl ?_
  refine rw_iconst (v := 5) F dc_L_law_1222 rfl ?_
  refine rw_iadd F dc_L_law_1223 ?_
  refine rw_sld F S dc_L_law_1224 (sl_in (j := 5) hL hL2 (by decide)) ?_
  refine rw_cVi F [_, _, _, _, _] dc_L_law_1225 mv_X8_copy ml_L_154 (by decide) (rc_8 (by decide)) rfl rfl (Nat.le_of_ble_eq_true rfl) (ct_X8_copy q1) ?_
  refine rw_aload_n F dc_L_law_1228 rfl ?_
  refine rw_aload_n F dc_L_law_1229 rfl ?_
  refine rw_iload_n F dc_L_law_1230 rfl ?_
  refine rw_iconst (v := 1) F dc_L_law_1231 rfl ?_
  refine rw_iadd F dc_L_law_1232 ?_
  refine rw_sld F S dc_L_law_1233 (sl_in (j := 1) hL hL2 (by decide)) ?_
  refine rw_aload_n F dc_L_law_1234 rfl ?_
  refine rw_iload_n F dc_L_law_1235 rfl ?_
  refine rw_iconst (v := 2) F dc_L_law_1236 rfl ?_
  refine rw_iadd F dc_L_law_1237 ?_
  refine rw_sld F S dc_L_law_1238 (sl_in (j := 2) hL hL2 (by decide)) ?_
  refine rw_aload_n F dc_L_law_1239 rfl ?_
  refine rw_iload_n F dc_L_law_1240 rfl ?_
  refine rw_iconst (v := 3) F dc_L_law_1241 rfl ?_
  refine rw_iadd F dc_L_law_1242 ?_
  refine rw_sld F S dc_L_law_1243 (sl_in (j := 3) hL hL2 (by decide)) ?_
  refine rw_aload_n F dc_L_law_1244 rfl ?_
  refine rw_iload_n F dc_L_law_1245 rfl ?_
  refine rw_iconst (v := 4) F dc_L_law_1246 rfl ?_
  refine rw_iadd F dc_L_law_1247 ?_
  refine rw_sld F S dc_L_law_1248 (sl_in (j := 4) hL hL2 (by decide)) ?_
  refine rw_aload_n F dc_L_law_1249 rfl ?_
  refine rw_iload_n F dc_L_law_1250 rfl ?_
  refine rw_iconst (v := 5) F dc_L_law_1251 rfl ?_
  refine rw_iadd F dc_L_law_1252 ?_
  refine rw_sld F S dc_L_law_1253 (sl_in (j := 5) hL hL2 (by decide)) ?_
  refine rw_cVi F [_, _, _, _, _] dc_L_law_1254 mv_X9_copy ml_L_158 (by decide) (rc_9 (by decide)) rfl rfl (Nat.le_of_ble_eq_true rfl) (cr_X9_copy q2) ?_
  exact rw_icmp_eq (tgt := 1393) F dc_L_law_1257 rfl (fun _ => nxt _ q4) (fun h => absurd q3 h)
theorem lc_load {K : tw_K} {Q : Option Value → tw_T → Prop} {L : Nat} {xs : Nat → Int32} (F : tw_F K mL_law 40 Q) (S : tw_S K L xs) {c : Nat} {τ : tw_T} (hI : Inv c τ) (hc : c < 512) (hL : 6 * c + 6 ≤ L) (hL2 : L ≤ 3072) (nxt : ∀ τ, Inv (c + 1) τ → tw_R K 1393 [.ref 260, .ref 0, .ref 190, .int (nI (6 * c))] [] τ) : tw_R K 1262 [.ref 260, .ref 0, .ref 190, .int (nI (6 * c))] [] τ := by
  obtain ⟨q1, q2, q3, q4⟩ := st_load (N := 5000) hI hc (by decide) (xs (nI (6 * c) + 1).toNatClampNeg)
  refine rw_aload_n F dc_L_law_1262 rfl ?_
  refine rw_aload_n F dc_L_law_1263 rfl ?_
  refine rw_iload_n F dc_L_law_1264 rfl ?_
  refine rw_iconst (v := 1) F dc_L_law_1265 rfl ?_
  refine rw_iadd F dc_L_law_1266 ?_
  refine rw_sld F S dc_L_law_1267 (sl_in (j := 1) hL hL2 (by decide)) ?_
  refine rw_cVi F [_] dc_L_law_1268 mv_X8_load ml_L_159 (by decide) (rc_8 (by decide)) rfl rfl (Nat.le_of_ble_eq_true rfl) (cr_X8_load q1) ?_
  refine rw_aload_n F dc_L_law_1271 rfl ?_
  refine rw_aload_n F dc_L_law_1272 rfl ?_
  refine rw_iload_n F dc_L_law_1273 rfl ?_
  refine rw_iconst (v := 1) F dc_L_law_1274 rfl ?_
  refine rw_iadd F dc_L_law_1275 ?_
  refine rw_sld F S dc_L_law_1276 (sl_in (j := 1) hL hL2 (by decide)) ?_
  refine rw_cVi F [_] dc_L_law_1277 mv_X9_load ml_L_162 (by decide) (rc_9 (by decide)) rfl rfl (Nat.le_of_ble_eq_true rfl) (cr_X9_load q2) ?_
  exact rw_icmp_eq (tgt := 1393) F dc_L_law_1280 rfl (fun _ => nxt _ q4) (fun h => absurd q3 h)
theorem lc_judge {K : tw_K} {Q : Option Value → tw_T → Prop} {L : Nat} {xs : Nat → Int32} (F : tw_F K mL_law 40 Q) (S : tw_S K L xs) {c : Nat} {τ : tw_T} (hI : Inv c τ) (hc : c < 512) (hL : 6 * c + 6 ≤ L) (hL2 : L ≤ 3072) (nxt : ∀ τ, Inv (c + 1) τ → tw_R K 1393 [.ref 260, .ref 0, .ref 190, .int (nI (6 * c))] [] τ) : tw_R K 1285 [.ref 260, .ref 0, .ref 190, .int (nI (6 * c))] [] τ := by
  obtain ⟨q1, q2, q3, q4⟩ := st_judge (N := 5000) hI hc (by decide) (xs (nI (6 * c) + 1).toNatClampNeg)
  refine rw_aload_n F dc_L_law_1285 rfl ?_
  refine rw_aload_n F dc_L_law_1286 rfl ?_
  refine rw_iload_n F dc_L_law_1287 rfl ?_
  refine rw_iconst (v := 1) F dc_L_law_1288 rfl ?_
  refine rw_iadd F dc_L_law_1289 ?_
  refine rw_sld F S dc_L_law_1290 (sl_in (j := 1) hL hL2 (by decide)) ?_
  refine rw_cVi F [_] dc_L_law_1291 mv_X8_judge ml_L_163 (by decide) (rc_8 (by decide)) rfl rfl (Nat.le_of_ble_eq_true rfl) (cr_X8_judge q1) ?_
  refine rw_aload_n F dc_L_law_1294 rfl ?_
  refine rw_aload_n F dc_L_law_1295 rfl ?_
  refine rw_iload_n F dc_L_law_1296 rfl ?_
  refine rw_iconst (v := 1) F dc_L_law_1297 rfl ?_
  refine rw_iadd F dc_L_law_1298 ?_
  refine rw_sld F S dc_L_law_1299 (sl_in (j := 1) hL hL2 (by decide)) ?_
  refine rw_cVi F [_] dc_L_law_1300 mv_X9_judge ml_L_166 (by decide) (rc_9 (by decide)) rfl rfl (Nat.le_of_ble_eq_true rfl) (cr_X9_judge q2) ?_
  exact rw_icmp_eq (tgt := 1393) F dc_L_law_1303 rfl (fun _ => nxt _ q4) (fun h => absurd q3 h)
theorem lc_image {K : tw_K} {Q : Option Value → tw_T → Prop} {L : Nat} {xs : Nat → Int32} (F : tw_F K mL_law 40 Q) (S : tw_S K L xs) {c : Nat} {τ : tw_T} (hI : Inv c τ) (hc : c < 512) (hL : 6 * c + 6 ≤ L) (hL2 : L ≤ 3072) (nxt : ∀ τ, Inv (c + 1) τ → tw_R K 1393 [.ref 260, .ref 0, .ref 190, .int (nI (6 * c))] [] τ) : tw_R K 1308 [.ref 260, .ref 0, .ref 190, .int (nI (6 * c))] [] τ := by
  obtain ⟨q1, q2, q3, q4⟩ := st_image (N := 5000) hI hc (by decide) 
  refine rw_aload_n F dc_L_law_1308 rfl ?_
  refine rw_cVi F [] dc_L_law_1309 mv_X8_image ml_L_167 (by decide) (rc_8 (by decide)) rfl rfl (Nat.le_of_ble_eq_true rfl) (ct_X8_image q1) ?_
  refine rw_aload_n F dc_L_law_1312 rfl ?_
  refine rw_cVi F [] dc_L_law_1313 mv_X9_image ml_L_170 (by decide) (rc_9 (by decide)) rfl rfl (Nat.le_of_ble_eq_true rfl) (ct_X9_image q2) ?_
  exact rw_icmp_eq (tgt := 1393) F dc_L_law_1316 rfl (fun _ => nxt _ q4) (fun h => absurd q3 h)
theorem lc_undo {K : tw_K} {Q : Option Value → tw_T → Prop} {L : Nat} {xs : Nat → Int32} (F : tw_F K mL_law 40 Q) (S : tw_S K L xs) {c : Nat} {τ : tw_T} (hI : Inv c τ) (hc : c < 512) (hL : 6 * c + 6 ≤ L) (hL2 : L ≤ 3072) (nxt : ∀ τ, Inv (c + 1) τ → tw_R K 1393 [.ref 260, .ref 0, .ref 190, .int (nI (6 * c))] [] τ) : tw_R K 1321 [.ref 260, .ref 0, .ref 190, .int (nI (6 * c))] [] τ := by
  obtain ⟨q1, q2, q3, q4⟩ := st_undo (N := 5000) hI hc (by decide) 
  refine rw_aload_n F dc_L_law_1321 rfl ?_
  refine rw_cVi F [] dc_L_law_1322 mv_X8_undo ml_L_171 (by decide) (rc_8 (by decide)) rfl rfl (Nat.le_of_ble_eq_true rfl) (ct_X8_undo q1) ?_
  refine rw_aload_n F dc_L_law_1325 rfl ?_
  refine rw_cVi F [] dc_L_law_1326 mv_X9_undo ml_L_174 (by decide) (rc_9 (by decide)) rfl rfl (Nat.le_of_ble_eq_true rfl) (ct_X9_undo q2) ?_
  exact rw_icmp_eq (tgt := 1393) F dc_L_law_1329 rfl (fun _ => nxt _ q4) (fun h => absurd q3 h)
theorem lc_tear {K : tw_K} {Q : Option Value → tw_T → Prop} {L : Nat} {xs : Nat → Int32} (F : tw_F K mL_law 40 Q) (S : tw_S K L xs) {c : Nat} {τ : tw_T} (hI : Inv c τ) (hc : c < 512) (hL : 6 * c + 6 ≤ L) (hL2 : L ≤ 3072) (nxt : ∀ τ, Inv (c + 1) τ → tw_R K 1393 [.ref 260, .ref 0, .ref 190, .int (nI (6 * c))] [] τ) : tw_R K 1334 [.ref 260, .ref 0, .ref 190, .int (nI (6 * c))] [] τ := by
  obtain ⟨q3, q4⟩ := st_tear hI hc 
  refine rw_aload_n F dc_L_law_1334 rfl ?_
  refine rw_cVi F [] dc_L_law_1335 mv_X8_tear ml_L_175 (by decide) (rc_8 (by decide)) rfl rfl (Nat.le_of_ble_eq_true rfl) ct_X8_tear ?_
  refine rw_aload_n F dc_L_law_1338 rfl ?_
  refine rw_cVi F [] dc_L_law_1339 mv_X9_tear ml_L_178 (by decide) (rc_9 (by decide)) rfl rfl (Nat.le_of_ble_eq_true rfl) ct_X9_tear ?_
  exact rw_icmp_eq (tgt := 1393) F dc_L_law_1342 rfl (fun _ => nxt _ q4) (fun h => absurd q3 h)
theorem lc_count {K : tw_K} {Q : Option Value → tw_T → Prop} {L : Nat} {xs : Nat → Int32} (F : tw_F K mL_law 40 Q) (S : tw_S K L xs) {c : Nat} {τ : tw_T} (hI : Inv c τ) (hc : c < 512) (hL : 6 * c + 6 ≤ L) (hL2 : L ≤ 3072) (nxt : ∀ τ, Inv (c + 1) τ → tw_R K 1393 [.ref 260, .ref 0, .ref 190, .int (nI (6 * c))] [] τ) : tw_R K 1347 [.ref 260, .ref 0, .ref 190, .int (nI (6 * c))] [] τ := by
  obtain ⟨q1, q2, q3, q4⟩ := st_count (N := 5000) hI hc (by decide) (xs (nI (6 * c) + 1).toNatClampNeg)
  refine rw_aload_n F dc_L_law_1347 rfl ?_
  refine rw_aload_n F dc_L_law_1348 rfl ?_
  refine rw_iload_n F dc_L_law_1349 rfl ?_
  refine rw_iconst (v := 1) F dc_L_law_1350 rfl ?_
  refine rw_iadd F dc_L_law_1351 ?_
  refine rw_sld F S dc_L_law_1352 (sl_in (j := 1) hL hL2 (by decide)) ?_
  refine rw_cVi F [_] dc_L_law_1353 mv_X8_count ml_L_179 (by decide) (rc_8 (by decide)) rfl rfl (Nat.le_of_ble_eq_true rfl) (ct_X8_count q1) ?_
  refine rw_aload_n F dc_L_law_1356 rfl ?_
  refine rw_aload_n F dc_L_law_1357 rfl ?_
  refine rw_iload_n F dc_L_law_1358 rfl ?_
  refine rw_iconst (v := 1) F dc_L_law_1359 rfl ?_
  refine rw_iadd F dc_L_law_1360 ?_
  refine rw_sld F S dc_L_law_1361 (sl_in (j := 1) hL hL2 (by decide)) ?_
  refine rw_cVi F [_] dc_L_law_1362 mv_X9_count ml_L_182 (by decide) (rc_9 (by decide)) rfl rfl (Nat.le_of_ble_eq_true rfl) (cr_X9_count q2) ?_
  exact rw_icmp_eq (tgt := 1393) F dc_L_law_1365 rfl (fun _ => nxt _ q4) (fun h => absurd q3 h)
theorem lc_status {K : tw_K} {Q : Option Value → tw_T → Prop} {L : Nat} {xs : Nat → Int32} (F : tw_F K mL_law 40 Q) (S : tw_S K L xs) {c : Nat} {τ : tw_T} (hI : Inv c τ) (hc : c < 512) (hL : 6 * c + 6 ≤ L) (hL2 : L ≤ 3072) (nxt : ∀ τ, Inv (c + 1) τ → tw_R K 1393 [.ref 260, .ref 0, .ref 190, .int (nI (6 * c))] [] τ) : tw_R K 1370 [.ref 260, .ref 0, .ref 190, .int (nI (6 * c))] [] τ := by
  obtain ⟨q1, q2, q3, q4⟩ := st_status (N := 5000) hI hc (by decide) (xs (nI (6 * c) + 1).toNatClampNeg)
  refine rw_aload_n F dc_L_law_1370 rfl ?_
  refine rw_aload_n F dc_L_law_1371 rfl ?_
  refine rw_iload_n F dc_L_law_1372 rfl ?_
  refine rw_iconst (v := 1) F dc_L_law_1373 rfl ?_
  refine rw_iadd F dc_L_law_1374 ?_
  refine rw_sld F S dc_L_law_1375 (sl_in (j := 1) hL hL2 (by decide)) ?_
  refine rw_cVi F [_] dc_L_law_1376 mv_X8_status ml_L_183 (by decide) (rc_8 (by decide)) rfl rfl (Nat.le_of_ble_eq_true rfl) (cr_X8_status q1) ?_
  refine rw_aload_n F dc_L_law_1379 rfl ?_
  refine rw_aload_n F dc_L_law_1380 rfl ?_
  refine rw_iload_n F dc_L_law_1381 rfl ?_
  refine rw_iconst (v := 1) F dc_L_law_1382 rfl ?_
  refine rw_iadd F dc_L_law_1383 ?_
  refine rw_sld F S dc_L_law_1384 (sl_in (j := 1) hL hL2 (by decide)) ?_
  refine rw_cVi F [_] dc_L_law_1385 mv_X9_status ml_L_186 (by decide) (rc_9 (by decide)) rfl rfl (Nat.le_of_ble_eq_true rfl) (ct_X9_status q2) ?_
  exact rw_icmp_eq (tgt := 1393) F dc_L_law_1388 rfl (fun _ => nxt _ q4) (fun h => absurd q3 h)
