theorem law_prime {G : vv_G} {b L : Nat} {xs : Nat → Int32} {nm : String} {cells slots i : Nat} {S : vs_S} {a : aS} (hi : i + 6 ≤ L) (hL : L ≤ 3072) (hfc : cells ≤ 600000) (hfs : slots ≤ 7302250) (hG : aG a) (hC : CSt S a) (hM : MSt S a) (kk : ∀ (S' : vs_S) (a' : aS), aG a' → CSt S' a' → MSt S' a' → lV G b L xs nm cells slots 18 (i + 6) [] S') : lV G b L xs nm cells slots 168 i [] S := by
  refine vv_aload_n 1 dL_law_168 rfl rfl 2 rfl ?_
  refine lL_arg (k := 1) rfl (by omega) hL dL_law_169 dL_law_170 dL_law_171 dL_law_172 dL_law_173 rfl ?_
  refine lL_call (k_prime (z := (xs (i + 1)).toInt) hC hG (z_lo _) (z_hi _)) lk_L_13 lm_X9_prime rfl rfl rfl rfl (Nat.le_of_ble_eq_true rfl) rfl ⟨rfl, rfl⟩ hfc hfs dL_law_174 rfl (fun S1 h1 => ?_)
  obtain ⟨hC1, F1⟩ := h1
  have hM1 := hM.frC F1
  refine vv_aload_n 2 dL_law_177 rfl rfl 3 rfl ?_
  refine lL_arg (k := 1) rfl (by omega) hL dL_law_178 dL_law_179 dL_law_180 dL_law_181 dL_law_182 rfl ?_
  refine lL_call (M_prime (z := (xs (i + 1)).toInt) hM1 hG (z_lo _) (z_hi _)) lk_L_17 lm_X10_prime rfl rfl rfl rfl (Nat.le_of_ble_eq_true rfl) rfl ⟨rfl, rfl⟩ hfc hfs dL_law_183 rfl (fun S2 h2 => ?_)
  obtain ⟨hM2, F2⟩ := h2
  refine vv_icmp_eq 1169 dL_law_186 rfl rfl (fun _ => ?_) (fun c => absurd rfl c)
  exact lL_fin kk hM2 hC1 F2 (G_prime hG _)
theorem law_sheet {G : vv_G} {b L : Nat} {xs : Nat → Int32} {nm : String} {cells slots i : Nat} {S : vs_S} {a : aS} (hi : i + 6 ≤ L) (hL : L ≤ 3072) (hfc : cells ≤ 600000) (hfs : slots ≤ 7302250) (hG : aG a) (hC : CSt S a) (hM : MSt S a) (kk : ∀ (S' : vs_S) (a' : aS), aG a' → CSt S' a' → MSt S' a' → lV G b L xs nm cells slots 18 (i + 6) [] S') : lV G b L xs nm cells slots 191 i [] S := by
  refine vv_aload_n 1 dL_law_191 rfl rfl 2 rfl ?_
  refine lL_arg (k := 1) rfl (by omega) hL dL_law_192 dL_law_193 dL_law_194 dL_law_195 dL_law_196 rfl ?_
  refine lL_arg (k := 2) rfl (by omega) hL dL_law_197 dL_law_198 dL_law_199 dL_law_200 dL_law_201 rfl ?_
  refine lL_arg (k := 3) rfl (by omega) hL dL_law_202 dL_law_203 dL_law_204 dL_law_205 dL_law_206 rfl ?_
  refine lL_call (k_sheet (s := (xs (i + 1)).toInt) (l := (xs (i + 2)).toInt) (n := (xs (i + 3)).toInt) hC hG (z_lo _) (z_hi _) (z_lo _) (z_hi _) (z_lo _) (z_hi _)) lk_L_18 lm_X9_sheet rfl rfl rfl rfl (Nat.le_of_ble_eq_true rfl) rfl ⟨rfl, rfl⟩ hfc hfs dL_law_207 rfl (fun S1 h1 => ?_)
  obtain ⟨hC1, F1⟩ := h1
  have hM1 := hM.frC F1
  refine vv_aload_n 2 dL_law_210 rfl rfl 3 rfl ?_
  refine lL_arg (k := 1) rfl (by omega) hL dL_law_211 dL_law_212 dL_law_213 dL_law_214 dL_law_215 rfl ?_
  refine lL_arg (k := 2) rfl (by omega) hL dL_law_216 dL_law_217 dL_law_218 dL_law_219 dL_law_220 rfl ?_
  refine lL_arg (k := 3) rfl (by omega) hL dL_law_221 dL_law_222 dL_law_223 dL_law_224 dL_law_225 rfl ?_
  refine lL_call (M_sheet (s := (xs (i + 1)).toInt) (l := (xs (i + 2)).toInt) (n := (xs (i + 3)).toInt) hM1 hG (z_lo _) (z_hi _) (z_lo _) (z_hi _) (z_lo _) (z_hi _)) lk_L_22 lm_X10_sheet rfl rfl rfl rfl (Nat.le_of_ble_eq_true rfl) rfl ⟨rfl, rfl⟩ hfc hfs dL_law_226 rfl (fun S2 h2 => ?_)
  obtain ⟨hM2, F2⟩ := h2
  refine vv_icmp_eq 1169 dL_law_229 rfl rfl (fun _ => ?_) (fun c => absurd rfl c)
  exact lL_fin kk hM2 hC1 F2 (G_sheet hG _ _ _)
theorem law_put {G : vv_G} {b L : Nat} {xs : Nat → Int32} {nm : String} {cells slots i : Nat} {S : vs_S} {a : aS} (hi : i + 6 ≤ L) (hL : L ≤ 3072) (hfc : cells ≤ 600000) (hfs : slots ≤ 7302250) (hG : aG a) (hC : CSt S a) (hM : MSt S a) (kk : ∀ (S' : vs_S) (a' : aS), aG a' → CSt S' a' → MSt S' a' → lV G b L xs nm cells slots 18 (i + 6) [] S') : lV G b L xs nm cells slots 234 i [] S := by
  refine vv_aload_n 1 dL_law_234 rfl rfl 2 rfl ?_
  refine lL_arg (k := 1) rfl (by omega) hL dL_law_235 dL_law_236 dL_law_237 dL_law_238 dL_law_239 rfl ?_
  refine lL_arg (k := 2) rfl (by omega) hL dL_law_240 dL_law_241 dL_law_242 dL_law_243 dL_law_244 rfl ?_
  refine lL_arg (k := 3) rfl (by omega) hL dL_law_245 dL_law_246 dL_law_247 dL_law_248 dL_law_249 rfl ?_
  refine lL_arg (k := 4) rfl (by omega) hL dL_law_250 dL_law_251 dL_law_252 dL_law_253 dL_law_254 rfl ?_
  refine vv_i2l dL_law_255 rfl ?_
  refine vv_bipush (v := 32) dL_law_256 rfl rfl ?_
  refine vv_lshl dL_law_258 rfl ?_
  refine lL_arg (k := 5) rfl (by omega) hL dL_law_259 dL_law_260 dL_law_261 dL_law_262 dL_law_263 rfl ?_
  refine vv_i2l dL_law_264 rfl ?_
  refine vv_ldc2 lc_L_23 dL_law_265 rfl ?_
  refine vv_land dL_law_268 rfl ?_
  refine vv_lor dL_law_269 rfl ?_
  refine lL_call (k_put (s := (xs (i + 1)).toInt) (l := (xs (i + 2)).toInt) (i := (xs (i + 3)).toInt) hC hG (z_lo _) (z_hi _) (z_lo _) (z_hi _) (z_lo _) (z_hi _)) lk_L_25 lm_X9_put rfl rfl rfl rfl (Nat.le_of_ble_eq_true rfl) rfl ⟨rfl, rfl⟩ hfc hfs dL_law_270 rfl (fun S1 h1 => ?_)
  obtain ⟨hC1, F1⟩ := h1
  have hM1 := hM.frC F1
  refine vv_aload_n 2 dL_law_273 rfl rfl 3 rfl ?_
  refine lL_arg (k := 1) rfl (by omega) hL dL_law_274 dL_law_275 dL_law_276 dL_law_277 dL_law_278 rfl ?_
  refine lL_arg (k := 2) rfl (by omega) hL dL_law_279 dL_law_280 dL_law_281 dL_law_282 dL_law_283 rfl ?_
  refine lL_arg (k := 3) rfl (by omega) hL dL_law_284 dL_law_285 dL_law_286 dL_law_287 dL_law_288 rfl ?_
  refine lL_arg (k := 4) rfl (by omega) hL dL_law_289 dL_law_290 dL_law_291 dL_law_292 dL_law_293 rfl ?_
  refine vv_i2l dL_law_294 rfl ?_
  refine vv_bipush (v := 32) dL_law_295 rfl rfl ?_
  refine vv_lshl dL_law_297 rfl ?_
  refine lL_arg (k := 5) rfl (by omega) hL dL_law_298 dL_law_299 dL_law_300 dL_law_301 dL_law_302 rfl ?_
  refine vv_i2l dL_law_303 rfl ?_
  refine vv_ldc2 lc_L_23 dL_law_304 rfl ?_
  refine vv_land dL_law_307 rfl ?_
  refine vv_lor dL_law_308 rfl ?_
  refine lL_call (M_put (s := (xs (i + 1)).toInt) (l := (xs (i + 2)).toInt) (i := (xs (i + 3)).toInt) hM1 hG (z_lo _) (z_hi _) (z_lo _) (z_hi _) (z_lo _) (z_hi _)) lk_L_29 lm_X10_put rfl rfl rfl rfl (Nat.le_of_ble_eq_true rfl) rfl ⟨rfl, rfl⟩ hfc hfs dL_law_309 rfl (fun S2 h2 => ?_)
  obtain ⟨hM2, F2⟩ := h2
  refine vv_icmp_eq 1169 dL_law_312 rfl rfl (fun _ => ?_) (fun c => absurd rfl c)
  exact lL_fin kk hM2 hC1 F2 (G_put hG _ _ _ _)
theorem law_copy {G : vv_G} {b L : Nat} {xs : Nat → Int32} {nm : String} {cells slots i : Nat} {S : vs_S} {a : aS} (hi : i + 6 ≤ L) (hL : L ≤ 3072) (hfc : cells ≤ 600000) (hfs : slots ≤ 7302250) (hG : aG a) (hC : CSt S a) (hM : MSt S a) (kk : ∀ (S' : vs_S) (a' : aS), aG a' → CSt S' a' → MSt S' a' → lV G b L xs nm cells slots 18 (i + 6) [] S') : lV G b L xs nm cells slots 317 i [] S := by
  refine vv_aload_n 1 dL_law_317 rfl rfl 2 rfl ?_
  refine lL_arg (k := 1) rfl (by omega) hL dL_law_318 dL_law_319 dL_law_320 dL_law_321 dL_law_322 rfl ?_
  refine lL_arg (k := 2) rfl (by omega) hL dL_law_323 dL_law_324 dL_law_325 dL_law_326 dL_law_327 rfl ?_
  refine lL_arg (k := 3) rfl (by omega) hL dL_law_328 dL_law_329 dL_law_330 dL_law_331 dL_law_332 rfl ?_
  refine lL_arg (k := 4) rfl (by omega) hL dL_law_333 dL_law_334 dL_law_335 dL_law_336 dL_law_337 rfl ?_
  refine lL_arg (k := 5) rfl (by omega) hL dL_law_338 dL_law_339 dL_law_340 dL_law_341 dL_law_342 rfl ?_
  refine lL_call (k_copy (s := (xs (i + 1)).toInt) (i := (xs (i + 2)).toInt) (t := (xs (i + 3)).toInt) (j := (xs (i + 4)).toInt) (n := (xs (i + 5)).toInt) hC hG (z_lo _) (z_hi _) (z_lo _) (z_hi _) (z_lo _) (z_hi _) (z_lo _) (z_hi _) (z_lo _) (z_hi _)) lk_L_30 lm_X9_copy rfl rfl rfl rfl (Nat.le_of_ble_eq_true rfl) rfl ⟨rfl, rfl⟩ hfc hfs dL_law_343 rfl (fun S1 h1 => ?_)
  obtain ⟨hC1, F1⟩ := h1
  have hM1 := hM.frC F1
  refine vv_aload_n 2 dL_law_346 rfl rfl 3 rfl ?_
  refine lL_arg (k := 1) rfl (by omega) hL dL_law_347 dL_law_348 dL_law_349 dL_law_350 dL_law_351 rfl ?_
  refine lL_arg (k := 2) rfl (by omega) hL dL_law_352 dL_law_353 dL_law_354 dL_law_355 dL_law_356 rfl ?_
  refine lL_arg (k := 3) rfl (by omega) hL dL_law_357 dL_law_358 dL_law_359 dL_law_360 dL_law_361 rfl ?_
  refine lL_arg (k := 4) rfl (by omega) hL dL_law_362 dL_law_363 dL_law_364 dL_law_365 dL_law_366 rfl ?_
  refine lL_arg (k := 5) rfl (by omega) hL dL_law_367 dL_law_368 dL_law_369 dL_law_370 dL_law_371 rfl ?_
  refine lL_call (M_copy (s := (xs (i + 1)).toInt) (i := (xs (i + 2)).toInt) (t := (xs (i + 3)).toInt) (j := (xs (i + 4)).toInt) (n := (xs (i + 5)).toInt) hM1 hG (z_lo _) (z_hi _) (z_lo _) (z_hi _) (z_lo _) (z_hi _) (z_lo _) (z_hi _) (z_lo _) (z_hi _)) lk_L_34 lm_X10_copy rfl rfl rfl rfl (Nat.le_of_ble_eq_true rfl) rfl ⟨rfl, rfl⟩ hfc hfs dL_law_372 rfl (fun S2 h2 => ?_)
  obtain ⟨hM2, F2⟩ := h2
  refine vv_icmp_eq 1169 dL_law_375 rfl rfl (fun _ => ?_) (fun c => absurd rfl c)
  exact lL_fin kk hM2 hC1 F2 (G_copy hG _ _ _ _ _)
theorem law_lose {G : vv_G} {b L : Nat} {xs : Nat → Int32} {nm : String} {cells slots i : Nat} {S : vs_S} {a : aS} (hi : i + 6 ≤ L) (hL : L ≤ 3072) (hfc : cells ≤ 600000) (hfs : slots ≤ 7302250) (hG : aG a) (hC : CSt S a) (hM : MSt S a) (kk : ∀ (S' : vs_S) (a' : aS), aG a' → CSt S' a' → MSt S' a' → lV G b L xs nm cells slots 18 (i + 6) [] S') : lV G b L xs nm cells slots 380 i [] S := by
  refine vv_aload_n 1 dL_law_380 rfl rfl 2 rfl ?_
  refine lL_arg (k := 1) rfl (by omega) hL dL_law_381 dL_law_382 dL_law_383 dL_law_384 dL_law_385 rfl ?_
  refine lL_call (k_lose (s := (xs (i + 1)).toInt) hC hG (z_lo _) (z_hi _)) lk_L_35 lm_X9_lose rfl rfl rfl rfl (Nat.le_of_ble_eq_true rfl) rfl ⟨rfl, rfl⟩ hfc hfs dL_law_386 rfl (fun S1 h1 => ?_)
  obtain ⟨hC1, F1⟩ := h1
  have hM1 := hM.frC F1
  refine vv_aload_n 2 dL_law_389 rfl rfl 3 rfl ?_
  refine lL_arg (k := 1) rfl (by omega) hL dL_law_390 dL_law_391 dL_law_392 dL_law_393 dL_law_394 rfl ?_
  refine lL_call (M_lose (s := (xs (i + 1)).toInt) hM1 hG (z_lo _) (z_hi _)) lk_L_38 lm_X10_lose rfl rfl rfl rfl (Nat.le_of_ble_eq_true rfl) rfl ⟨rfl, rfl⟩ hfc hfs dL_law_395 rfl (fun S2 h2 => ?_)
  obtain ⟨hM2, F2⟩ := h2
  refine vv_icmp_eq 1169 dL_law_398 rfl rfl (fun _ => ?_) (fun c => absurd rfl c)
  exact lL_fin kk hM2 hC1 F2 (G_lose hG _)
theorem law_series {G : vv_G} {b L : Nat} {xs : Nat → Int32} {nm : String} {cells slots i : Nat} {S : vs_S} {a : aS} (hi : i + 6 ≤ L) (hL : L ≤ 3072) (hfc : cells ≤ 600000) (hfs : slots ≤ 7302250) (hG : aG a) (hC : CSt S a) (hM : MSt S a) (kk : ∀ (S' : vs_S) (a' : aS), aG a' → CSt S' a' → MSt S' a' → lV G b L xs nm cells slots 18 (i + 6) [] S') : lV G b L xs nm cells slots 403 i [] S := by
  refine vv_aload_n 1 dL_law_403 rfl rfl 2 rfl ?_
  refine lL_arg (k := 1) rfl (by omega) hL dL_law_404 dL_law_405 dL_law_406 dL_law_407 dL_law_408 rfl ?_
  refine lL_arg (k := 2) rfl (by omega) hL dL_law_409 dL_law_410 dL_law_411 dL_law_412 dL_law_413 rfl ?_
  refine lL_arg (k := 3) rfl (by omega) hL dL_law_414 dL_law_415 dL_law_416 dL_law_417 dL_law_418 rfl ?_
  refine lL_call (k_series (s := (xs (i + 1)).toInt) (i := (xs (i + 2)).toInt) (n := (xs (i + 3)).toInt) hC hG (z_lo _) (z_hi _) (z_lo _) (z_hi _) (z_lo _) (z_hi _)) lk_L_39 lm_X9_series rfl rfl rfl rfl (Nat.le_of_ble_eq_true rfl) rfl ⟨rfl, rfl⟩ hfc hfs dL_law_419 rfl (fun S1 h1 => ?_)
  obtain ⟨hC1, F1⟩ := h1
  have hM1 := hM.frC F1
  refine vv_aload_n 2 dL_law_422 rfl rfl 3 rfl ?_
  refine lL_arg (k := 1) rfl (by omega) hL dL_law_423 dL_law_424 dL_law_425 dL_law_426 dL_law_427 rfl ?_
  refine lL_arg (k := 2) rfl (by omega) hL dL_law_428 dL_law_429 dL_law_430 dL_law_431 dL_law_432 rfl ?_
  refine lL_arg (k := 3) rfl (by omega) hL dL_law_433 dL_law_434 dL_law_435 dL_law_436 dL_law_437 rfl ?_
  refine lL_call (M_series (s := (xs (i + 1)).toInt) (b := (xs (i + 2)).toInt) (n := (xs (i + 3)).toInt) hM1 hG (z_lo _) (z_hi _) (z_lo _) (z_hi _) (z_lo _) (z_hi _)) lk_L_42 lm_X10_series rfl rfl rfl rfl (Nat.le_of_ble_eq_true rfl) rfl ⟨rfl, rfl⟩ hfc hfs dL_law_438 rfl (fun S2 h2 => ?_)
  obtain ⟨hM2, F2⟩ := h2
  refine vv_icmp_eq 1169 dL_law_441 rfl rfl (fun _ => ?_) (fun c => absurd rfl c)
  exact lL_fin kk hM2 hC1 F2 (G_series hG _ _ _)
theorem law_share {G : vv_G} {b L : Nat} {xs : Nat → Int32} {nm : String} {cells slots i : Nat} {S : vs_S} {a : aS} (hi : i + 6 ≤ L) (hL : L ≤ 3072) (hfc : cells ≤ 600000) (hfs : slots ≤ 7302250) (hG : aG a) (hC : CSt S a) (hM : MSt S a) (kk : ∀ (S' : vs_S) (a' : aS), aG a' → CSt S' a' → MSt S' a' → lV G b L xs nm cells slots 18 (i + 6) [] S') : lV G b L xs nm cells slots 446 i [] S := by
  refine vv_aload_n 1 dL_law_446 rfl rfl 2 rfl ?_
  refine lL_arg (k := 1) rfl (by omega) hL dL_law_447 dL_law_448 dL_law_449 dL_law_450 dL_law_451 rfl ?_
  refine lL_arg (k := 2) rfl (by omega) hL dL_law_452 dL_law_453 dL_law_454 dL_law_455 dL_law_456 rfl ?_
  refine lL_arg (k := 3) rfl (by omega) hL dL_law_457 dL_law_458 dL_law_459 dL_law_460 dL_law_461 rfl ?_
  refine lL_arg (k := 4) rfl (by omega) hL dL_law_462 dL_law_463 dL_law_464 dL_law_465 dL_law_466 rfl ?_
  refine lL_arg (k := 5) rfl (by omega) hL dL_law_467 dL_law_468 dL_law_469 dL_law_470 dL_law_471 rfl ?_
  refine lL_call (k_share (s := (xs (i + 1)).toInt) (i := (xs (i + 2)).toInt) (l := (xs (i + 3)).toInt) (m := (xs (i + 4)).toInt) (n := (xs (i + 5)).toInt) hC hG (z_lo _) (z_hi _) (z_lo _) (z_hi _) (z_lo _) (z_hi _) (z_lo _) (z_hi _) (z_lo _) (z_hi _)) lk_L_43 lm_X9_share rfl rfl rfl rfl (Nat.le_of_ble_eq_true rfl) rfl ⟨rfl, rfl⟩ hfc hfs dL_law_472 rfl (fun S1 h1 => ?_)
  obtain ⟨hC1, F1⟩ := h1
  have hM1 := hM.frC F1
  refine vv_aload_n 2 dL_law_475 rfl rfl 3 rfl ?_
  refine lL_arg (k := 1) rfl (by omega) hL dL_law_476 dL_law_477 dL_law_478 dL_law_479 dL_law_480 rfl ?_
  refine lL_arg (k := 2) rfl (by omega) hL dL_law_481 dL_law_482 dL_law_483 dL_law_484 dL_law_485 rfl ?_
  refine lL_arg (k := 3) rfl (by omega) hL dL_law_486 dL_law_487 dL_law_488 dL_law_489 dL_law_490 rfl ?_
  refine lL_arg (k := 4) rfl (by omega) hL dL_law_491 dL_law_492 dL_law_493 dL_law_494 dL_law_495 rfl ?_
  refine lL_arg (k := 5) rfl (by omega) hL dL_law_496 dL_law_497 dL_law_498 dL_law_499 dL_law_500 rfl ?_
  refine lL_call (M_share (s := (xs (i + 1)).toInt) (b := (xs (i + 2)).toInt) (l := (xs (i + 3)).toInt) (m := (xs (i + 4)).toInt) (n := (xs (i + 5)).toInt) hM1 hG (z_lo _) (z_hi _) (z_lo _) (z_hi _) (z_lo _) (z_hi _) (z_lo _) (z_hi _) (z_lo _) (z_hi _)) lk_L_46 lm_X10_share rfl rfl rfl rfl (Nat.le_of_ble_eq_true rfl) rfl ⟨rfl, rfl⟩ hfc hfs dL_law_501 rfl (fun S2 h2 => ?_)
  obtain ⟨hM2, F2⟩ := h2
  refine vv_icmp_eq 1169 dL_law_504 rfl rfl (fun _ => ?_) (fun c => absurd rfl c)
  exact lL_fin kk hM2 hC1 F2 (G_share hG _ _ _ _ _)
theorem law_unfold {G : vv_G} {b L : Nat} {xs : Nat → Int32} {nm : String} {cells slots i : Nat} {S : vs_S} {a : aS} (hi : i + 6 ≤ L) (hL : L ≤ 3072) (hfc : cells ≤ 600000) (hfs : slots ≤ 7302250) (hG : aG a) (hC : CSt S a) (hM : MSt S a) (kk : ∀ (S' : vs_S) (a' : aS), aG a' → CSt S' a' → MSt S' a' → lV G b L xs nm cells slots 18 (i + 6) [] S') : lV G b L xs nm cells slots 509 i [] S := by
  refine vv_aload_n 1 dL_law_509 rfl rfl 2 rfl ?_
  refine lL_arg (k := 1) rfl (by omega) hL dL_law_510 dL_law_511 dL_law_512 dL_law_513 dL_law_514 rfl ?_
  refine lL_call (k_unfold (n := (xs (i + 1)).toInt) hC hG (z_lo _) (z_hi _)) lk_L_47 lm_X9_unfold rfl rfl rfl rfl (Nat.le_of_ble_eq_true rfl) rfl ⟨rfl, rfl⟩ hfc hfs dL_law_515 rfl (fun S1 h1 => ?_)
  obtain ⟨hC1, F1⟩ := h1
  have hM1 := hM.frC F1
  refine vv_aload_n 2 dL_law_518 rfl rfl 3 rfl ?_
  refine lL_arg (k := 1) rfl (by omega) hL dL_law_519 dL_law_520 dL_law_521 dL_law_522 dL_law_523 rfl ?_
  refine lL_call (M_unfold (n := (xs (i + 1)).toInt) hM1 hG (z_lo _) (z_hi _)) lk_L_50 lm_X10_unfold rfl rfl rfl rfl (Nat.le_of_ble_eq_true rfl) rfl ⟨rfl, rfl⟩ hfc hfs dL_law_524 rfl (fun S2 h2 => ?_)
  obtain ⟨hM2, F2⟩ := h2
  refine vv_icmp_eq 1169 dL_law_527 rfl rfl (fun _ => ?_) (fun c => absurd rfl c)
  exact lL_fin kk hM2 hC1 F2 (G_unfold hG _)
theorem law_plus {G : vv_G} {b L : Nat} {xs : Nat → Int32} {nm : String} {cells slots i : Nat} {S : vs_S} {a : aS} (hi : i + 6 ≤ L) (hL : L ≤ 3072) (hfc : cells ≤ 600000) (hfs : slots ≤ 7302250) (hG : aG a) (hC : CSt S a) (hM : MSt S a) (kk : ∀ (S' : vs_S) (a' : aS), aG a' → CSt S' a' → MSt S' a' → lV G b L xs nm cells slots 18 (i + 6) [] S') : lV G b L xs nm cells slots 532 i [] S := by
  refine vv_aload_n 1 dL_law_532 rfl rfl 2 rfl ?_
  refine lL_arg (k := 1) rfl (by omega) hL dL_law_533 dL_law_534 dL_law_535 dL_law_536 dL_law_537 rfl ?_
  refine lL_arg (k := 2) rfl (by omega) hL dL_law_538 dL_law_539 dL_law_540 dL_law_541 dL_law_542 rfl ?_
  refine lL_arg (k := 3) rfl (by omega) hL dL_law_543 dL_law_544 dL_law_545 dL_law_546 dL_law_547 rfl ?_
  refine lL_call (k_plus (f := (xs (i + 1)).toInt) (g := (xs (i + 2)).toInt) (b := (xs (i + 3)).toInt) hC hG (z_lo _) (z_hi _) (z_lo _) (z_hi _) (z_lo _) (z_hi _)) lk_L_51 lm_X9_plus rfl rfl rfl rfl (Nat.le_of_ble_eq_true rfl) rfl ⟨rfl, rfl⟩ hfc hfs dL_law_548 rfl (fun S1 h1 => ?_)
  obtain ⟨hC1, F1⟩ := h1
  have hM1 := hM.frC F1
  refine vv_aload_n 2 dL_law_551 rfl rfl 3 rfl ?_
  refine lL_arg (k := 1) rfl (by omega) hL dL_law_552 dL_law_553 dL_law_554 dL_law_555 dL_law_556 rfl ?_
  refine lL_arg (k := 2) rfl (by omega) hL dL_law_557 dL_law_558 dL_law_559 dL_law_560 dL_law_561 rfl ?_
  refine lL_arg (k := 3) rfl (by omega) hL dL_law_562 dL_law_563 dL_law_564 dL_law_565 dL_law_566 rfl ?_
  refine lL_call (M_plus (f := (xs (i + 1)).toInt) (g := (xs (i + 2)).toInt) (b := (xs (i + 3)).toInt) hM1 hG (z_lo _) (z_hi _) (z_lo _) (z_hi _) (z_lo _) (z_hi _)) lk_L_54 lm_X10_plus rfl rfl rfl rfl (Nat.le_of_ble_eq_true rfl) rfl ⟨rfl, rfl⟩ hfc hfs dL_law_567 rfl (fun S2 h2 => ?_)
  obtain ⟨hM2, F2⟩ := h2
  refine vv_icmp_eq 1169 dL_law_570 rfl rfl (fun _ => ?_) (fun c => absurd rfl c)
  exact lL_fin kk hM2 hC1 F2 (G_plus hG _ _ _)
theorem law_times {G : vv_G} {b L : Nat} {xs : Nat → Int32} {nm : String} {cells slots i : Nat} {S : vs_S} {a : aS} (hi : i + 6 ≤ L) (hL : L ≤ 3072) (hfc : cells ≤ 600000) (hfs : slots ≤ 7302250) (hG : aG a) (hC : CSt S a) (hM : MSt S a) (kk : ∀ (S' : vs_S) (a' : aS), aG a' → CSt S' a' → MSt S' a' → lV G b L xs nm cells slots 18 (i + 6) [] S') : lV G b L xs nm cells slots 575 i [] S := by
  refine vv_aload_n 1 dL_law_575 rfl rfl 2 rfl ?_
  refine lL_arg (k := 1) rfl (by omega) hL dL_law_576 dL_law_577 dL_law_578 dL_law_579 dL_law_580 rfl ?_
  refine lL_arg (k := 2) rfl (by omega) hL dL_law_581 dL_law_582 dL_law_583 dL_law_584 dL_law_585 rfl ?_
  refine lL_call (k_times (f := (xs (i + 1)).toInt) (g := (xs (i + 2)).toInt) hC hG (z_lo _) (z_hi _) (z_lo _) (z_hi _)) lk_L_55 lm_X9_times rfl rfl rfl rfl (Nat.le_of_ble_eq_true rfl) rfl ⟨rfl, rfl⟩ hfc hfs dL_law_586 rfl (fun S1 h1 => ?_)
  obtain ⟨hC1, F1⟩ := h1
  have hM1 := hM.frC F1
  refine vv_aload_n 2 dL_law_589 rfl rfl 3 rfl ?_
  refine lL_arg (k := 1) rfl (by omega) hL dL_law_590 dL_law_591 dL_law_592 dL_law_593 dL_law_594 rfl ?_
  refine lL_arg (k := 2) rfl (by omega) hL dL_law_595 dL_law_596 dL_law_597 dL_law_598 dL_law_599 rfl ?_
  refine lL_call (M_times (f := (xs (i + 1)).toInt) (g := (xs (i + 2)).toInt) hM1 hG (z_lo _) (z_hi _) (z_lo _) (z_hi _)) lk_L_59 lm_X10_times rfl rfl rfl rfl (Nat.le_of_ble_eq_true rfl) rfl ⟨rfl, rfl⟩ hfc hfs dL_law_600 rfl (fun S2 h2 => ?_)
  obtain ⟨hM2, F2⟩ := h2
  refine vv_icmp_eq 1169 dL_law_603 rfl rfl (fun _ => ?_) (fun c => absurd rfl c)
  exact lL_fin kk hM2 hC1 F2 (G_times hG _ _)
theorem law_under {G : vv_G} {b L : Nat} {xs : Nat → Int32} {nm : String} {cells slots i : Nat} {S : vs_S} {a : aS} (hi : i + 6 ≤ L) (hL : L ≤ 3072) (hfc : cells ≤ 600000) (hfs : slots ≤ 7302250) (hG : aG a) (hC : CSt S a) (hM : MSt S a) (kk : ∀ (S' : vs_S) (a' : aS), aG a' → CSt S' a' → MSt S' a' → lV G b L xs nm cells slots 18 (i + 6) [] S') : lV G b L xs nm cells slots 608 i [] S := by
  refine vv_aload_n 1 dL_law_608 rfl rfl 2 rfl ?_
  refine lL_arg (k := 1) rfl (by omega) hL dL_law_609 dL_law_610 dL_law_611 dL_law_612 dL_law_613 rfl ?_
  refine lL_call (k_under (f := (xs (i + 1)).toInt) hC hG (z_lo _) (z_hi _)) lk_L_60 lm_X9_under rfl rfl rfl rfl (Nat.le_of_ble_eq_true rfl) rfl ⟨rfl, rfl⟩ hfc hfs dL_law_614 rfl (fun S1 h1 => ?_)
  obtain ⟨hC1, F1⟩ := h1
  have hM1 := hM.frC F1
  refine vv_aload_n 2 dL_law_617 rfl rfl 3 rfl ?_
  refine lL_arg (k := 1) rfl (by omega) hL dL_law_618 dL_law_619 dL_law_620 dL_law_621 dL_law_622 rfl ?_
  refine lL_call (M_under (f := (xs (i + 1)).toInt) hM1 hG (z_lo _) (z_hi _)) lk_L_63 lm_X10_under rfl rfl rfl rfl (Nat.le_of_ble_eq_true rfl) rfl ⟨rfl, rfl⟩ hfc hfs dL_law_623 rfl (fun S2 h2 => ?_)
  obtain ⟨hM2, F2⟩ := h2
  refine vv_icmp_eq 1169 dL_law_626 rfl rfl (fun _ => ?_) (fun c => absurd rfl c)
  exact lL_fin kk hM2 hC1 F2 (G_under hG _)
theorem law_moved {G : vv_G} {b L : Nat} {xs : Nat → Int32} {nm : String} {cells slots i : Nat} {S : vs_S} {a : aS} (hi : i + 6 ≤ L) (hL : L ≤ 3072) (hfc : cells ≤ 600000) (hfs : slots ≤ 7302250) (hG : aG a) (hC : CSt S a) (hM : MSt S a) (kk : ∀ (S' : vs_S) (a' : aS), aG a' → CSt S' a' → MSt S' a' → lV G b L xs nm cells slots 18 (i + 6) [] S') : lV G b L xs nm cells slots 631 i [] S := by
  refine vv_aload_n 1 dL_law_631 rfl rfl 2 rfl ?_
  refine lL_arg (k := 1) rfl (by omega) hL dL_law_632 dL_law_633 dL_law_634 dL_law_635 dL_law_636 rfl ?_
  refine lL_arg (k := 2) rfl (by omega) hL dL_law_637 dL_law_638 dL_law_639 dL_law_640 dL_law_641 rfl ?_
  refine lL_arg (k := 3) rfl (by omega) hL dL_law_642 dL_law_643 dL_law_644 dL_law_645 dL_law_646 rfl ?_
  refine lL_call (k_moved (f := (xs (i + 1)).toInt) (x := (xs (i + 2)).toInt) (k := (xs (i + 3)).toInt) hC hG (z_lo _) (z_hi _) (z_lo _) (z_hi _) (z_lo _) (z_hi _)) lk_L_64 lm_X9_moved rfl rfl rfl rfl (Nat.le_of_ble_eq_true rfl) rfl ⟨rfl, rfl⟩ hfc hfs dL_law_647 rfl (fun S1 h1 => ?_)
  obtain ⟨hC1, F1⟩ := h1
  have hM1 := hM.frC F1
  refine vv_aload_n 2 dL_law_650 rfl rfl 3 rfl ?_
  refine lL_arg (k := 1) rfl (by omega) hL dL_law_651 dL_law_652 dL_law_653 dL_law_654 dL_law_655 rfl ?_
  refine lL_arg (k := 2) rfl (by omega) hL dL_law_656 dL_law_657 dL_law_658 dL_law_659 dL_law_660 rfl ?_
  refine lL_arg (k := 3) rfl (by omega) hL dL_law_661 dL_law_662 dL_law_663 dL_law_664 dL_law_665 rfl ?_
  refine lL_call (M_moved (f := (xs (i + 1)).toInt) (x := (xs (i + 2)).toInt) (k := (xs (i + 3)).toInt) hM1 hG (z_lo _) (z_hi _) (z_lo _) (z_hi _) (z_lo _) (z_hi _)) lk_L_67 lm_X10_moved rfl rfl rfl rfl (Nat.le_of_ble_eq_true rfl) rfl ⟨rfl, rfl⟩ hfc hfs dL_law_666 rfl (fun S2 h2 => ?_)
  obtain ⟨hM2, F2⟩ := h2
  refine vv_icmp_eq 1169 dL_law_669 rfl rfl (fun _ => ?_) (fun c => absurd rfl c)
  exact lL_fin kk hM2 hC1 F2 (G_moved hG _ _ _)
theorem law_number {G : vv_G} {b L : Nat} {xs : Nat → Int32} {nm : String} {cells slots i : Nat} {S : vs_S} {a : aS} (hi : i + 6 ≤ L) (hL : L ≤ 3072) (hfc : cells ≤ 600000) (hfs : slots ≤ 7302250) (hG : aG a) (hC : CSt S a) (hM : MSt S a) (kk : ∀ (S' : vs_S) (a' : aS), aG a' → CSt S' a' → MSt S' a' → lV G b L xs nm cells slots 18 (i + 6) [] S') : lV G b L xs nm cells slots 674 i [] S := by
  refine vv_aload_n 1 dL_law_674 rfl rfl 2 rfl ?_
  refine lL_arg (k := 1) rfl (by omega) hL dL_law_675 dL_law_676 dL_law_677 dL_law_678 dL_law_679 rfl ?_
  refine lL_arg (k := 2) rfl (by omega) hL dL_law_680 dL_law_681 dL_law_682 dL_law_683 dL_law_684 rfl ?_
  refine lL_call (k_number (f := (xs (i + 1)).toInt) (k := (xs (i + 2)).toInt) hC hG (z_lo _) (z_hi _) (z_lo _) (z_hi _)) lk_L_68 lm_X9_number rfl rfl rfl rfl (Nat.le_of_ble_eq_true rfl) rfl ⟨rfl, rfl⟩ hfc hfs dL_law_685 rfl (fun S1 h1 => ?_)
  obtain ⟨hC1, F1⟩ := h1
  have hM1 := hM.frC F1
  refine vv_aload_n 2 dL_law_688 rfl rfl 3 rfl ?_
  refine lL_arg (k := 1) rfl (by omega) hL dL_law_689 dL_law_690 dL_law_691 dL_law_692 dL_law_693 rfl ?_
  refine lL_arg (k := 2) rfl (by omega) hL dL_law_694 dL_law_695 dL_law_696 dL_law_697 dL_law_698 rfl ?_
  refine lL_call (M_number (f := (xs (i + 1)).toInt) (k := (xs (i + 2)).toInt) hM1 hG (z_lo _) (z_hi _) (z_lo _) (z_hi _)) lk_L_71 lm_X10_number rfl rfl rfl rfl (Nat.le_of_ble_eq_true rfl) rfl ⟨rfl, rfl⟩ hfc hfs dL_law_699 rfl (fun S2 h2 => ?_)
  obtain ⟨hM2, F2⟩ := h2
  refine vv_icmp_eq 1169 dL_law_702 rfl rfl (fun _ => ?_) (fun c => absurd rfl c)
  exact lL_fin kk hM2 hC1 F2 (G_number hG _ _)
theorem law_length {G : vv_G} {b L : Nat} {xs : Nat → Int32} {nm : String} {cells slots i : Nat} {S : vs_S} {a : aS} (hi : i + 6 ≤ L) (hL : L ≤ 3072) (hfc : cells ≤ 600000) (hfs : slots ≤ 7302250) (hG : aG a) (hC : CSt S a) (hM : MSt S a) (kk : ∀ (S' : vs_S) (a' : aS), aG a' → CSt S' a' → MSt S' a' → lV G b L xs nm cells slots 18 (i + 6) [] S') : lV G b L xs nm cells slots 707 i [] S := by
  refine vv_aload_n 1 dL_law_707 rfl rfl 2 rfl ?_
  refine lL_arg (k := 1) rfl (by omega) hL dL_law_708 dL_law_709 dL_law_710 dL_law_711 dL_law_712 rfl ?_
  refine lL_call (k_length (f := (xs (i + 1)).toInt) hC hG (z_lo _) (z_hi _)) lk_L_72 lm_X9_length rfl rfl rfl rfl (Nat.le_of_ble_eq_true rfl) rfl ⟨rfl, rfl⟩ hfc hfs dL_law_713 rfl (fun S1 h1 => ?_)
  obtain ⟨hC1, F1⟩ := h1
  have hM1 := hM.frC F1
  refine vv_aload_n 2 dL_law_716 rfl rfl 3 rfl ?_
  refine lL_arg (k := 1) rfl (by omega) hL dL_law_717 dL_law_718 dL_law_719 dL_law_720 dL_law_721 rfl ?_
  refine lL_call (M_length (f := (xs (i + 1)).toInt) hM1 hG (z_lo _) (z_hi _)) lk_L_75 lm_X10_length rfl rfl rfl rfl (Nat.le_of_ble_eq_true rfl) rfl ⟨rfl, rfl⟩ hfc hfs dL_law_722 rfl (fun S2 h2 => ?_)
  obtain ⟨hM2, F2⟩ := h2
  refine vv_icmp_eq 1169 dL_law_725 rfl rfl (fun _ => ?_) (fun c => absurd rfl c)
  exact lL_fin kk hM2 hC1 F2 (G_length hG _)
theorem law_clear {G : vv_G} {b L : Nat} {xs : Nat → Int32} {nm : String} {cells slots i : Nat} {S : vs_S} {a : aS} (hi : i + 6 ≤ L) (hL : L ≤ 3072) (hfc : cells ≤ 600000) (hfs : slots ≤ 7302250) (hG : aG a) (hC : CSt S a) (hM : MSt S a) (kk : ∀ (S' : vs_S) (a' : aS), aG a' → CSt S' a' → MSt S' a' → lV G b L xs nm cells slots 18 (i + 6) [] S') : lV G b L xs nm cells slots 730 i [] S := by
  refine vv_aload_n 1 dL_law_730 rfl rfl 2 rfl ?_
  refine lL_call (k_clear  hC hG) lk_L_76 lm_X9_clear rfl rfl rfl rfl (Nat.le_of_ble_eq_true rfl) rfl ⟨rfl, rfl⟩ hfc hfs dL_law_731 rfl (fun S1 h1 => ?_)
  obtain ⟨hC1, F1⟩ := h1
  have hM1 := hM.frC F1
  refine vv_aload_n 2 dL_law_734 rfl rfl 3 rfl ?_
  refine lL_call (M_clear  hM1 hG) lk_L_80 lm_X10_clear rfl rfl rfl rfl (Nat.le_of_ble_eq_true rfl) rfl ⟨rfl, rfl⟩ hfc hfs dL_law_735 rfl (fun S2 h2 => ?_)
  obtain ⟨hM2, F2⟩ := h2
  refine vv_icmp_eq 1169 dL_law_738 rfl rfl (fun _ => ?_) (fun c => absurd rfl c)
  exact lL_fin kk hM2 hC1 F2 (G_clear hG)
theorem law_entry {G : vv_G} {b L : Nat} {xs : Nat → Int32} {nm : String} {cells slots i : Nat} {S : vs_S} {a : aS} (hi : i + 6 ≤ L) (hL : L ≤ 3072) (hfc : cells ≤ 600000) (hfs : slots ≤ 7302250) (hG : aG a) (hC : CSt S a) (hM : MSt S a) (kk : ∀ (S' : vs_S) (a' : aS), aG a' → CSt S' a' → MSt S' a' → lV G b L xs nm cells slots 18 (i + 6) [] S') : lV G b L xs nm cells slots 743 i [] S := by
  refine vv_aload_n 1 dL_law_743 rfl rfl 2 rfl ?_
  refine lL_arg (k := 1) rfl (by omega) hL dL_law_744 dL_law_745 dL_law_746 dL_law_747 dL_law_748 rfl ?_
  refine lL_arg (k := 2) rfl (by omega) hL dL_law_749 dL_law_750 dL_law_751 dL_law_752 dL_law_753 rfl ?_
  refine lL_arg (k := 3) rfl (by omega) hL dL_law_754 dL_law_755 dL_law_756 dL_law_757 dL_law_758 rfl ?_
  refine lL_call (k_entry (f := (xs (i + 1)).toInt) (l := (xs (i + 2)).toInt) (m := (xs (i + 3)).toInt) hC hG (z_lo _) (z_hi _) (z_lo _) (z_hi _) (z_lo _) (z_hi _)) lk_L_81 lm_X9_entry rfl rfl rfl rfl (Nat.le_of_ble_eq_true rfl) rfl ⟨rfl, rfl⟩ hfc hfs dL_law_759 rfl (fun S1 h1 => ?_)
  obtain ⟨hC1, F1⟩ := h1
  have hM1 := hM.frC F1
  refine vv_aload_n 2 dL_law_762 rfl rfl 3 rfl ?_
  refine lL_arg (k := 1) rfl (by omega) hL dL_law_763 dL_law_764 dL_law_765 dL_law_766 dL_law_767 rfl ?_
  refine lL_arg (k := 2) rfl (by omega) hL dL_law_768 dL_law_769 dL_law_770 dL_law_771 dL_law_772 rfl ?_
  refine lL_arg (k := 3) rfl (by omega) hL dL_law_773 dL_law_774 dL_law_775 dL_law_776 dL_law_777 rfl ?_
  refine lL_call (M_entry (f := (xs (i + 1)).toInt) (l := (xs (i + 2)).toInt) (m := (xs (i + 3)).toInt) hM1 hG (z_lo _) (z_hi _) (z_lo _) (z_hi _) (z_lo _) (z_hi _)) lk_L_84 lm_X10_entry rfl rfl rfl rfl (Nat.le_of_ble_eq_true rfl) rfl ⟨rfl, rfl⟩ hfc hfs dL_law_778 rfl (fun S2 h2 => ?_)
  obtain ⟨hM2, F2⟩ := h2
  refine vv_icmp_eq 1169 dL_law_781 rfl rfl (fun _ => ?_) (fun c => absurd rfl c)
  exact lL_fin kk hM2 hC1 F2 (G_entry hG _ _ _)
theorem law_worth {G : vv_G} {b L : Nat} {xs : Nat → Int32} {nm : String} {cells slots i : Nat} {S : vs_S} {a : aS} (hi : i + 6 ≤ L) (hL : L ≤ 3072) (hfc : cells ≤ 600000) (hfs : slots ≤ 7302250) (hG : aG a) (hC : CSt S a) (hM : MSt S a) (kk : ∀ (S' : vs_S) (a' : aS), aG a' → CSt S' a' → MSt S' a' → lV G b L xs nm cells slots 18 (i + 6) [] S') : lV G b L xs nm cells slots 786 i [] S := by
  refine vv_aload_n 1 dL_law_786 rfl rfl 2 rfl ?_
  refine lL_arg (k := 1) rfl (by omega) hL dL_law_787 dL_law_788 dL_law_789 dL_law_790 dL_law_791 rfl ?_
  refine lL_arg (k := 2) rfl (by omega) hL dL_law_792 dL_law_793 dL_law_794 dL_law_795 dL_law_796 rfl ?_
  refine lL_arg (k := 3) rfl (by omega) hL dL_law_797 dL_law_798 dL_law_799 dL_law_800 dL_law_801 rfl ?_
  refine lL_call (k_worth (f := (xs (i + 1)).toInt) (l := (xs (i + 2)).toInt) (m := (xs (i + 3)).toInt) hC hG (z_lo _) (z_hi _) (z_lo _) (z_hi _) (z_lo _) (z_hi _)) lk_L_85 lm_X9_worth rfl rfl rfl rfl (Nat.le_of_ble_eq_true rfl) rfl ⟨rfl, rfl⟩ hfc hfs dL_law_802 rfl (fun S1 h1 => ?_)
  obtain ⟨hC1, F1⟩ := h1
  have hM1 := hM.frC F1
  refine vv_aload_n 2 dL_law_805 rfl rfl 3 rfl ?_
  refine lL_arg (k := 1) rfl (by omega) hL dL_law_806 dL_law_807 dL_law_808 dL_law_809 dL_law_810 rfl ?_
  refine lL_arg (k := 2) rfl (by omega) hL dL_law_811 dL_law_812 dL_law_813 dL_law_814 dL_law_815 rfl ?_
  refine lL_arg (k := 3) rfl (by omega) hL dL_law_816 dL_law_817 dL_law_818 dL_law_819 dL_law_820 rfl ?_
  refine lL_call (M_worth (f := (xs (i + 1)).toInt) (l := (xs (i + 2)).toInt) (m := (xs (i + 3)).toInt) hM1 hG (z_lo _) (z_hi _) (z_lo _) (z_hi _) (z_lo _) (z_hi _)) lk_L_88 lm_X10_worth rfl rfl rfl rfl (Nat.le_of_ble_eq_true rfl) rfl ⟨rfl, rfl⟩ hfc hfs dL_law_821 rfl (fun S2 h2 => ?_)
  obtain ⟨hM2, F2⟩ := h2
  refine vv_icmp_eq 1169 dL_law_824 rfl rfl (fun _ => ?_) (fun c => absurd rfl c)
  exact lL_fin kk hM2 hC1 F2 (G_worth hG _ _ _)
theorem law_block {G : vv_G} {b L : Nat} {xs : Nat → Int32} {nm : String} {cells slots i : Nat} {S : vs_S} {a : aS} (hi : i + 6 ≤ L) (hL : L ≤ 3072) (hfc : cells ≤ 600000) (hfs : slots ≤ 7302250) (hG : aG a) (hC : CSt S a) (hM : MSt S a) (kk : ∀ (S' : vs_S) (a' : aS), aG a' → CSt S' a' → MSt S' a' → lV G b L xs nm cells slots 18 (i + 6) [] S') : lV G b L xs nm cells slots 829 i [] S := by
  refine vv_aload_n 1 dL_law_829 rfl rfl 2 rfl ?_
  refine lL_arg (k := 1) rfl (by omega) hL dL_law_830 dL_law_831 dL_law_832 dL_law_833 dL_law_834 rfl ?_
  refine lL_arg (k := 2) rfl (by omega) hL dL_law_835 dL_law_836 dL_law_837 dL_law_838 dL_law_839 rfl ?_
  refine lL_arg (k := 3) rfl (by omega) hL dL_law_840 dL_law_841 dL_law_842 dL_law_843 dL_law_844 rfl ?_
  refine lL_arg (k := 4) rfl (by omega) hL dL_law_845 dL_law_846 dL_law_847 dL_law_848 dL_law_849 rfl ?_
  refine lL_call (k_block (f := (xs (i + 1)).toInt) (l := (xs (i + 2)).toInt) (m := (xs (i + 3)).toInt) (w := (xs (i + 4)).toInt) hC hG (z_lo _) (z_hi _) (z_lo _) (z_hi _) (z_lo _) (z_hi _) (z_lo _) (z_hi _)) lk_L_89 lm_X9_block rfl rfl rfl rfl (Nat.le_of_ble_eq_true rfl) rfl ⟨rfl, rfl⟩ hfc hfs dL_law_850 rfl (fun S1 h1 => ?_)
  obtain ⟨hC1, F1⟩ := h1
  have hM1 := hM.frC F1
  refine vv_aload_n 2 dL_law_853 rfl rfl 3 rfl ?_
  refine lL_arg (k := 1) rfl (by omega) hL dL_law_854 dL_law_855 dL_law_856 dL_law_857 dL_law_858 rfl ?_
  refine lL_arg (k := 2) rfl (by omega) hL dL_law_859 dL_law_860 dL_law_861 dL_law_862 dL_law_863 rfl ?_
  refine lL_arg (k := 3) rfl (by omega) hL dL_law_864 dL_law_865 dL_law_866 dL_law_867 dL_law_868 rfl ?_
  refine lL_arg (k := 4) rfl (by omega) hL dL_law_869 dL_law_870 dL_law_871 dL_law_872 dL_law_873 rfl ?_
  refine lL_call (M_block (f := (xs (i + 1)).toInt) (l := (xs (i + 2)).toInt) (m := (xs (i + 3)).toInt) (w := (xs (i + 4)).toInt) hM1 hG (z_lo _) (z_hi _) (z_lo _) (z_hi _) (z_lo _) (z_hi _) (z_lo _) (z_hi _)) lk_L_93 lm_X10_block rfl rfl rfl rfl (Nat.le_of_ble_eq_true rfl) rfl ⟨rfl, rfl⟩ hfc hfs dL_law_874 rfl (fun S2 h2 => ?_)
  obtain ⟨hM2, F2⟩ := h2
  refine vv_icmp_eq 1169 dL_law_877 rfl rfl (fun _ => ?_) (fun c => absurd rfl c)
  exact lL_fin kk hM2 hC1 F2 (G_block hG _ _ _ _)
theorem law_stair {G : vv_G} {b L : Nat} {xs : Nat → Int32} {nm : String} {cells slots i : Nat} {S : vs_S} {a : aS} (hi : i + 6 ≤ L) (hL : L ≤ 3072) (hfc : cells ≤ 600000) (hfs : slots ≤ 7302250) (hG : aG a) (hC : CSt S a) (hM : MSt S a) (kk : ∀ (S' : vs_S) (a' : aS), aG a' → CSt S' a' → MSt S' a' → lV G b L xs nm cells slots 18 (i + 6) [] S') : lV G b L xs nm cells slots 882 i [] S := by
  refine vv_aload_n 1 dL_law_882 rfl rfl 2 rfl ?_
  refine lL_arg (k := 1) rfl (by omega) hL dL_law_883 dL_law_884 dL_law_885 dL_law_886 dL_law_887 rfl ?_
  refine lL_arg (k := 2) rfl (by omega) hL dL_law_888 dL_law_889 dL_law_890 dL_law_891 dL_law_892 rfl ?_
  refine lL_call (k_stair (f := (xs (i + 1)).toInt) (k := (xs (i + 2)).toInt) hC hG (z_lo _) (z_hi _) (z_lo _) (z_hi _)) lk_L_94 lm_X9_stair rfl rfl rfl rfl (Nat.le_of_ble_eq_true rfl) rfl ⟨rfl, rfl⟩ hfc hfs dL_law_893 rfl (fun S1 h1 => ?_)
  obtain ⟨hC1, F1⟩ := h1
  have hM1 := hM.frC F1
  refine vv_aload_n 2 dL_law_896 rfl rfl 3 rfl ?_
  refine lL_arg (k := 1) rfl (by omega) hL dL_law_897 dL_law_898 dL_law_899 dL_law_900 dL_law_901 rfl ?_
  refine lL_arg (k := 2) rfl (by omega) hL dL_law_902 dL_law_903 dL_law_904 dL_law_905 dL_law_906 rfl ?_
  refine lL_call (M_stair (f := (xs (i + 1)).toInt) (k := (xs (i + 2)).toInt) hM1 hG (z_lo _) (z_hi _) (z_lo _) (z_hi _)) lk_L_97 lm_X10_stair rfl rfl rfl rfl (Nat.le_of_ble_eq_true rfl) rfl ⟨rfl, rfl⟩ hfc hfs dL_law_907 rfl (fun S2 h2 => ?_)
  obtain ⟨hM2, F2⟩ := h2
  refine vv_icmp_eq 1169 dL_law_910 rfl rfl (fun _ => ?_) (fun c => absurd rfl c)
  exact lL_fin kk hM2 hC1 F2 (G_stair hG _ _)
theorem law_recur {G : vv_G} {b L : Nat} {xs : Nat → Int32} {nm : String} {cells slots i : Nat} {S : vs_S} {a : aS} (hi : i + 6 ≤ L) (hL : L ≤ 3072) (hfc : cells ≤ 600000) (hfs : slots ≤ 7302250) (hG : aG a) (hC : CSt S a) (hM : MSt S a) (kk : ∀ (S' : vs_S) (a' : aS), aG a' → CSt S' a' → MSt S' a' → lV G b L xs nm cells slots 18 (i + 6) [] S') : lV G b L xs nm cells slots 915 i [] S := by
  refine vv_aload_n 1 dL_law_915 rfl rfl 2 rfl ?_
  refine lL_arg (k := 1) rfl (by omega) hL dL_law_916 dL_law_917 dL_law_918 dL_law_919 dL_law_920 rfl ?_
  refine lL_call (k_recur (f := (xs (i + 1)).toInt) hC hG (z_lo _) (z_hi _)) lk_L_98 lm_X9_recur rfl rfl rfl rfl (Nat.le_of_ble_eq_true rfl) rfl ⟨rfl, rfl⟩ hfc hfs dL_law_921 rfl (fun S1 h1 => ?_)
  obtain ⟨hC1, F1⟩ := h1
  have hM1 := hM.frC F1
  refine vv_aload_n 2 dL_law_924 rfl rfl 3 rfl ?_
  refine lL_arg (k := 1) rfl (by omega) hL dL_law_925 dL_law_926 dL_law_927 dL_law_928 dL_law_929 rfl ?_
  refine lL_call (M_recur (f := (xs (i + 1)).toInt) hM1 hG (z_lo _) (z_hi _)) lk_L_101 lm_X10_recur rfl rfl rfl rfl (Nat.le_of_ble_eq_true rfl) rfl ⟨rfl, rfl⟩ hfc hfs dL_law_930 rfl (fun S2 h2 => ?_)
  obtain ⟨hM2, F2⟩ := h2
  refine vv_icmp_eq 1169 dL_law_933 rfl rfl (fun _ => ?_) (fun c => absurd rfl c)
  exact lL_fin kk hM2 hC1 F2 (G_recur hG _)
theorem law_point {G : vv_G} {b L : Nat} {xs : Nat → Int32} {nm : String} {cells slots i : Nat} {S : vs_S} {a : aS} (hi : i + 6 ≤ L) (hL : L ≤ 3072) (hfc : cells ≤ 600000) (hfs : slots ≤ 7302250) (hG : aG a) (hC : CSt S a) (hM : MSt S a) (kk : ∀ (S' : vs_S) (a' : aS), aG a' → CSt S' a' → MSt S' a' → lV G b L xs nm cells slots 18 (i + 6) [] S') : lV G b L xs nm cells slots 938 i [] S := by
  refine vv_aload_n 1 dL_law_938 rfl rfl 2 rfl ?_
  refine lL_arg (k := 1) rfl (by omega) hL dL_law_939 dL_law_940 dL_law_941 dL_law_942 dL_law_943 rfl ?_
  refine lL_arg (k := 2) rfl (by omega) hL dL_law_944 dL_law_945 dL_law_946 dL_law_947 dL_law_948 rfl ?_
  refine lL_call (k_point (x := (xs (i + 1)).toInt) (y := (xs (i + 2)).toInt) hC hG (z_lo _) (z_hi _) (z_lo _) (z_hi _)) lk_L_102 lm_X9_point rfl rfl rfl rfl (Nat.le_of_ble_eq_true rfl) rfl ⟨rfl, rfl⟩ hfc hfs dL_law_949 rfl (fun S1 h1 => ?_)
  obtain ⟨hC1, F1⟩ := h1
  have hM1 := hM.frC F1
  refine vv_aload_n 2 dL_law_952 rfl rfl 3 rfl ?_
  refine lL_arg (k := 1) rfl (by omega) hL dL_law_953 dL_law_954 dL_law_955 dL_law_956 dL_law_957 rfl ?_
  refine lL_arg (k := 2) rfl (by omega) hL dL_law_958 dL_law_959 dL_law_960 dL_law_961 dL_law_962 rfl ?_
  refine lL_call (M_point (x := (xs (i + 1)).toInt) (y := (xs (i + 2)).toInt) hM1 hG (z_lo _) (z_hi _) (z_lo _) (z_hi _)) lk_L_105 lm_X10_point rfl rfl rfl rfl (Nat.le_of_ble_eq_true rfl) rfl ⟨rfl, rfl⟩ hfc hfs dL_law_963 rfl (fun S2 h2 => ?_)
  obtain ⟨hM2, F2⟩ := h2
  refine vv_icmp_eq 1169 dL_law_966 rfl rfl (fun _ => ?_) (fun c => absurd rfl c)
  exact lL_fin kk hM2 hC1 F2 (G_point hG _ _)
theorem law_wipe {G : vv_G} {b L : Nat} {xs : Nat → Int32} {nm : String} {cells slots i : Nat} {S : vs_S} {a : aS} (hi : i + 6 ≤ L) (hL : L ≤ 3072) (hfc : cells ≤ 600000) (hfs : slots ≤ 7302250) (hG : aG a) (hC : CSt S a) (hM : MSt S a) (kk : ∀ (S' : vs_S) (a' : aS), aG a' → CSt S' a' → MSt S' a' → lV G b L xs nm cells slots 18 (i + 6) [] S') : lV G b L xs nm cells slots 971 i [] S := by
  refine vv_aload_n 1 dL_law_971 rfl rfl 2 rfl ?_
  refine lL_call (k_wipe  hC hG) lk_L_106 lm_X9_wipe rfl rfl rfl rfl (Nat.le_of_ble_eq_true rfl) rfl ⟨rfl, rfl⟩ hfc hfs dL_law_972 rfl (fun S1 h1 => ?_)
  obtain ⟨hC1, F1⟩ := h1
  have hM1 := hM.frC F1
  refine vv_aload_n 2 dL_law_975 rfl rfl 3 rfl ?_
  refine lL_call (M_wipe  hM1 hG) lk_L_109 lm_X10_wipe rfl rfl rfl rfl (Nat.le_of_ble_eq_true rfl) rfl ⟨rfl, rfl⟩ hfc hfs dL_law_976 rfl (fun S2 h2 => ?_)
  obtain ⟨hM2, F2⟩ := h2
  refine vv_icmp_eq 1169 dL_law_979 rfl rfl (fun _ => ?_) (fun c => absurd rfl c)
  exact lL_fin kk hM2 hC1 F2 (G_wipe hG)
theorem law_join {G : vv_G} {b L : Nat} {xs : Nat → Int32} {nm : String} {cells slots i : Nat} {S : vs_S} {a : aS} (hi : i + 6 ≤ L) (hL : L ≤ 3072) (hfc : cells ≤ 600000) (hfs : slots ≤ 7302250) (hG : aG a) (hC : CSt S a) (hM : MSt S a) (kk : ∀ (S' : vs_S) (a' : aS), aG a' → CSt S' a' → MSt S' a' → lV G b L xs nm cells slots 18 (i + 6) [] S') : lV G b L xs nm cells slots 984 i [] S := by
  refine vv_aload_n 1 dL_law_984 rfl rfl 2 rfl ?_
  refine lL_arg (k := 1) rfl (by omega) hL dL_law_985 dL_law_986 dL_law_987 dL_law_988 dL_law_989 rfl ?_
  refine lL_arg (k := 2) rfl (by omega) hL dL_law_990 dL_law_991 dL_law_992 dL_law_993 dL_law_994 rfl ?_
  refine lL_call (k_join (l := (xs (i + 1)).toInt) (m := (xs (i + 2)).toInt) hC hG (z_lo _) (z_hi _) (z_lo _) (z_hi _)) lk_L_110 lm_X9_join rfl rfl rfl rfl (Nat.le_of_ble_eq_true rfl) rfl ⟨rfl, rfl⟩ hfc hfs dL_law_995 rfl (fun S1 h1 => ?_)
  obtain ⟨hC1, F1⟩ := h1
  have hM1 := hM.frC F1
  refine vv_aload_n 2 dL_law_998 rfl rfl 3 rfl ?_
  refine lL_arg (k := 1) rfl (by omega) hL dL_law_999 dL_law_1000 dL_law_1001 dL_law_1002 dL_law_1003 rfl ?_
  refine lL_arg (k := 2) rfl (by omega) hL dL_law_1004 dL_law_1005 dL_law_1006 dL_law_1007 dL_law_1008 rfl ?_
  refine lL_call (M_join (l := (xs (i + 1)).toInt) (m := (xs (i + 2)).toInt) hM1 hG (z_lo _) (z_hi _) (z_lo _) (z_hi _)) lk_L_113 lm_X10_join rfl rfl rfl rfl (Nat.le_of_ble_eq_true rfl) rfl ⟨rfl, rfl⟩ hfc hfs dL_law_1009 rfl (fun S2 h2 => ?_)
  obtain ⟨hM2, F2⟩ := h2
  refine vv_icmp_eq 1169 dL_law_1012 rfl rfl (fun _ => ?_) (fun c => absurd rfl c)
  exact lL_fin kk hM2 hC1 F2 (G_join hG _ _)
theorem law_degree {G : vv_G} {b L : Nat} {xs : Nat → Int32} {nm : String} {cells slots i : Nat} {S : vs_S} {a : aS} (hi : i + 6 ≤ L) (hL : L ≤ 3072) (hfc : cells ≤ 600000) (hfs : slots ≤ 7302250) (hG : aG a) (hC : CSt S a) (hM : MSt S a) (kk : ∀ (S' : vs_S) (a' : aS), aG a' → CSt S' a' → MSt S' a' → lV G b L xs nm cells slots 18 (i + 6) [] S') : lV G b L xs nm cells slots 1017 i [] S := by
  refine vv_aload_n 1 dL_law_1017 rfl rfl 2 rfl ?_
  refine lL_arg (k := 1) rfl (by omega) hL dL_law_1018 dL_law_1019 dL_law_1020 dL_law_1021 dL_law_1022 rfl ?_
  refine lL_call (k_degree (s := (xs (i + 1)).toInt) hC hG (z_lo _) (z_hi _)) lk_L_114 lm_X9_degree rfl rfl rfl rfl (Nat.le_of_ble_eq_true rfl) rfl ⟨rfl, rfl⟩ hfc hfs dL_law_1023 rfl (fun S1 h1 => ?_)
  obtain ⟨hC1, F1⟩ := h1
  have hM1 := hM.frC F1
  refine vv_aload_n 2 dL_law_1026 rfl rfl 3 rfl ?_
  refine lL_arg (k := 1) rfl (by omega) hL dL_law_1027 dL_law_1028 dL_law_1029 dL_law_1030 dL_law_1031 rfl ?_
  refine lL_call (M_degree (s := (xs (i + 1)).toInt) hM1 hG (z_lo _) (z_hi _)) lk_L_117 lm_X10_degree rfl rfl rfl rfl (Nat.le_of_ble_eq_true rfl) rfl ⟨rfl, rfl⟩ hfc hfs dL_law_1032 rfl (fun S2 h2 => ?_)
  obtain ⟨hM2, F2⟩ := h2
  refine vv_icmp_eq 1169 dL_law_1035 rfl rfl (fun _ => ?_) (fun c => absurd rfl c)
  exact lL_fin kk hM2 hC1 F2 (G_degree hG _)
theorem law_term {G : vv_G} {b L : Nat} {xs : Nat → Int32} {nm : String} {cells slots i : Nat} {S : vs_S} {a : aS} (hi : i + 6 ≤ L) (hL : L ≤ 3072) (hfc : cells ≤ 600000) (hfs : slots ≤ 7302250) (hG : aG a) (hC : CSt S a) (hM : MSt S a) (kk : ∀ (S' : vs_S) (a' : aS), aG a' → CSt S' a' → MSt S' a' → lV G b L xs nm cells slots 18 (i + 6) [] S') : lV G b L xs nm cells slots 1040 i [] S := by
  refine vv_aload_n 1 dL_law_1040 rfl rfl 2 rfl ?_
  refine lL_arg (k := 1) rfl (by omega) hL dL_law_1041 dL_law_1042 dL_law_1043 dL_law_1044 dL_law_1045 rfl ?_
  refine lL_arg (k := 2) rfl (by omega) hL dL_law_1046 dL_law_1047 dL_law_1048 dL_law_1049 dL_law_1050 rfl ?_
  refine lL_call (k_term (s := (xs (i + 1)).toInt) (k := (xs (i + 2)).toInt) hC hG (z_lo _) (z_hi _) (z_lo _) (z_hi _)) lk_L_118 lm_X9_term rfl rfl rfl rfl (Nat.le_of_ble_eq_true rfl) rfl ⟨rfl, rfl⟩ hfc hfs dL_law_1051 rfl (fun S1 h1 => ?_)
  obtain ⟨hC1, F1⟩ := h1
  have hM1 := hM.frC F1
  refine vv_aload_n 2 dL_law_1054 rfl rfl 3 rfl ?_
  refine lL_arg (k := 1) rfl (by omega) hL dL_law_1055 dL_law_1056 dL_law_1057 dL_law_1058 dL_law_1059 rfl ?_
  refine lL_arg (k := 2) rfl (by omega) hL dL_law_1060 dL_law_1061 dL_law_1062 dL_law_1063 dL_law_1064 rfl ?_
  refine lL_call (M_term (s := (xs (i + 1)).toInt) (k := (xs (i + 2)).toInt) hM1 hG (z_lo _) (z_hi _) (z_lo _) (z_hi _)) lk_L_121 lm_X10_term rfl rfl rfl rfl (Nat.le_of_ble_eq_true rfl) rfl ⟨rfl, rfl⟩ hfc hfs dL_law_1065 rfl (fun S2 h2 => ?_)
  obtain ⟨hM2, F2⟩ := h2
  refine vv_icmp_eq 1169 dL_law_1068 rfl rfl (fun _ => ?_) (fun c => absurd rfl c)
  exact lL_fin kk hM2 hC1 F2 (G_term hG _ _)
theorem law_value {G : vv_G} {b L : Nat} {xs : Nat → Int32} {nm : String} {cells slots i : Nat} {S : vs_S} {a : aS} (hi : i + 6 ≤ L) (hL : L ≤ 3072) (hfc : cells ≤ 600000) (hfs : slots ≤ 7302250) (hG : aG a) (hC : CSt S a) (hM : MSt S a) (kk : ∀ (S' : vs_S) (a' : aS), aG a' → CSt S' a' → MSt S' a' → lV G b L xs nm cells slots 18 (i + 6) [] S') : lV G b L xs nm cells slots 1073 i [] S := by
  refine vv_aload_n 1 dL_law_1073 rfl rfl 2 rfl ?_
  refine lL_arg (k := 1) rfl (by omega) hL dL_law_1074 dL_law_1075 dL_law_1076 dL_law_1077 dL_law_1078 rfl ?_
  refine lL_call (k_value (x := (xs (i + 1)).toInt) hC hG (z_lo _) (z_hi _)) lk_L_122 lm_X9_value rfl rfl rfl rfl (Nat.le_of_ble_eq_true rfl) rfl ⟨rfl, rfl⟩ hfc hfs dL_law_1079 rfl (fun S1 h1 => ?_)
  obtain ⟨hC1, F1⟩ := h1
  have hM1 := hM.frC F1
  refine vv_aload_n 2 dL_law_1082 rfl rfl 3 rfl ?_
  refine lL_arg (k := 1) rfl (by omega) hL dL_law_1083 dL_law_1084 dL_law_1085 dL_law_1086 dL_law_1087 rfl ?_
  refine lL_call (M_value (x := (xs (i + 1)).toInt) hM1 hG (z_lo _) (z_hi _)) lk_L_125 lm_X10_value rfl rfl rfl rfl (Nat.le_of_ble_eq_true rfl) rfl ⟨rfl, rfl⟩ hfc hfs dL_law_1088 rfl (fun S2 h2 => ?_)
  obtain ⟨hM2, F2⟩ := h2
  refine vv_icmp_eq 1169 dL_law_1091 rfl rfl (fun _ => ?_) (fun c => absurd rfl c)
  exact lL_fin kk hM2 hC1 F2 (G_value hG _)
theorem law_cause {G : vv_G} {b L : Nat} {xs : Nat → Int32} {nm : String} {cells slots i : Nat} {S : vs_S} {a : aS} (hi : i + 6 ≤ L) (hL : L ≤ 3072) (hfc : cells ≤ 600000) (hfs : slots ≤ 7302250) (hG : aG a) (hC : CSt S a) (hM : MSt S a) (kk : ∀ (S' : vs_S) (a' : aS), aG a' → CSt S' a' → MSt S' a' → lV G b L xs nm cells slots 18 (i + 6) [] S') : lV G b L xs nm cells slots 1096 i [] S := by
  refine vv_aload_n 1 dL_law_1096 rfl rfl 2 rfl ?_
  refine lL_call (k_cause  hC hG) lk_L_126 lm_X9_cause rfl rfl rfl rfl (Nat.le_of_ble_eq_true rfl) rfl ⟨rfl, rfl⟩ hfc hfs dL_law_1097 rfl (fun S1 h1 => ?_)
  obtain ⟨hC1, F1⟩ := h1
  have hM1 := hM.frC F1
  refine vv_aload_n 2 dL_law_1100 rfl rfl 3 rfl ?_
  refine lL_call (M_cause  hM1 hG) lk_L_129 lm_X10_cause rfl rfl rfl rfl (Nat.le_of_ble_eq_true rfl) rfl ⟨rfl, rfl⟩ hfc hfs dL_law_1101 rfl (fun S2 h2 => ?_)
  obtain ⟨hM2, F2⟩ := h2
  refine vv_icmp_eq 1169 dL_law_1104 rfl rfl (fun _ => ?_) (fun c => absurd rfl c)
  exact lL_fin kk hM2 hC1 F2 (G_cause hG)
theorem law_causes {G : vv_G} {b L : Nat} {xs : Nat → Int32} {nm : String} {cells slots i : Nat} {S : vs_S} {a : aS} (hi : i + 6 ≤ L) (hL : L ≤ 3072) (hfc : cells ≤ 600000) (hfs : slots ≤ 7302250) (hG : aG a) (hC : CSt S a) (hM : MSt S a) (kk : ∀ (S' : vs_S) (a' : aS), aG a' → CSt S' a' → MSt S' a' → lV G b L xs nm cells slots 18 (i + 6) [] S') : lV G b L xs nm cells slots 1109 i [] S := by
  refine vv_aload_n 1 dL_law_1109 rfl rfl 2 rfl ?_
  refine lL_arg (k := 1) rfl (by omega) hL dL_law_1110 dL_law_1111 dL_law_1112 dL_law_1113 dL_law_1114 rfl ?_
  refine lL_call (k_causes (c := (xs (i + 1)).toInt) hC hG (z_lo _) (z_hi _)) lk_L_130 lm_X9_causes rfl rfl rfl rfl (Nat.le_of_ble_eq_true rfl) rfl ⟨rfl, rfl⟩ hfc hfs dL_law_1115 rfl (fun S1 h1 => ?_)
  obtain ⟨hC1, F1⟩ := h1
  have hM1 := hM.frC F1
  refine vv_aload_n 2 dL_law_1118 rfl rfl 3 rfl ?_
  refine lL_arg (k := 1) rfl (by omega) hL dL_law_1119 dL_law_1120 dL_law_1121 dL_law_1122 dL_law_1123 rfl ?_
  refine lL_call (M_causes (c := (xs (i + 1)).toInt) hM1 hG (z_lo _) (z_hi _)) lk_L_133 lm_X10_causes rfl rfl rfl rfl (Nat.le_of_ble_eq_true rfl) rfl ⟨rfl, rfl⟩ hfc hfs dL_law_1124 rfl (fun S2 h2 => ?_)
  obtain ⟨hM2, F2⟩ := h2
  refine vv_icmp_eq 1169 dL_law_1127 rfl rfl (fun _ => ?_) (fun c => absurd rfl c)
  exact lL_fin kk hM2 hC1 F2 (G_causes hG _)
theorem law_count {G : vv_G} {b L : Nat} {xs : Nat → Int32} {nm : String} {cells slots i : Nat} {S : vs_S} {a : aS} (hi : i + 6 ≤ L) (hL : L ≤ 3072) (hfc : cells ≤ 600000) (hfs : slots ≤ 7302250) (hG : aG a) (hC : CSt S a) (hM : MSt S a) (kk : ∀ (S' : vs_S) (a' : aS), aG a' → CSt S' a' → MSt S' a' → lV G b L xs nm cells slots 18 (i + 6) [] S') : lV G b L xs nm cells slots 1132 i [] S := by
  refine vv_aload_n 1 dL_law_1132 rfl rfl 2 rfl ?_
  refine lL_arg (k := 1) rfl (by omega) hL dL_law_1133 dL_law_1134 dL_law_1135 dL_law_1136 dL_law_1137 rfl ?_
  refine lL_call (k_count (w := (xs (i + 1)).toInt) hC hG (z_lo _) (z_hi _)) lk_L_134 lm_X9_count rfl rfl rfl rfl (Nat.le_of_ble_eq_true rfl) rfl ⟨rfl, rfl⟩ hfc hfs dL_law_1138 rfl (fun S1 h1 => ?_)
  obtain ⟨hC1, F1⟩ := h1
  have hM1 := hM.frC F1
  refine vv_aload_n 2 dL_law_1141 rfl rfl 3 rfl ?_
  refine lL_arg (k := 1) rfl (by omega) hL dL_law_1142 dL_law_1143 dL_law_1144 dL_law_1145 dL_law_1146 rfl ?_
  refine lL_call (M_count (w := (xs (i + 1)).toInt) hM1 hG (z_lo _) (z_hi _)) lk_L_137 lm_X10_count rfl rfl rfl rfl (Nat.le_of_ble_eq_true rfl) rfl ⟨rfl, rfl⟩ hfc hfs dL_law_1147 rfl (fun S2 h2 => ?_)
  obtain ⟨hM2, F2⟩ := h2
  refine vv_icmp_eq 1169 dL_law_1150 rfl rfl (fun _ => ?_) (fun c => absurd rfl c)
  exact lL_fin kk hM2 hC1 F2 (G_count hG _)
theorem law_digest {G : vv_G} {b L : Nat} {xs : Nat → Int32} {nm : String} {cells slots i : Nat} {S : vs_S} {a : aS} (hi : i + 6 ≤ L) (hL : L ≤ 3072) (hfc : cells ≤ 600000) (hfs : slots ≤ 7302250) (hG : aG a) (hC : CSt S a) (hM : MSt S a) (kk : ∀ (S' : vs_S) (a' : aS), aG a' → CSt S' a' → MSt S' a' → lV G b L xs nm cells slots 18 (i + 6) [] S') : lV G b L xs nm cells slots 1155 i [] S := by
  refine vv_aload_n 1 dL_law_1155 rfl rfl 2 rfl ?_
  refine lL_call (vs_CP_eq (k_digest  hC hG)) lk_L_138 lm_X9_digest rfl rfl rfl rfl (Nat.le_of_ble_eq_true rfl) rfl ⟨rfl, rfl⟩ hfc hfs dL_law_1156 rfl (fun S1 h1 => ?_)
  subst h1
  have hM1 := hM
  refine vv_aload_n 2 dL_law_1159 rfl rfl 3 rfl ?_
  refine lL_call (vs_CP_eq (M_digest  hM1 hG)) lk_L_142 lm_X10_digest rfl rfl rfl rfl (Nat.le_of_ble_eq_true rfl) rfl ⟨rfl, rfl⟩ hfc hfs dL_law_1160 rfl (fun S2 h2 => ?_)
  subst h2
  refine vv_lcmp dL_law_1163 rfl ?_
  refine vv_if_eq 1169 dL_law_1164 rfl rfl (fun _ => ?_) (fun c => absurd ((lg_cmp_eq _ _).mpr rfl) c)
  exact lL_fin kk hM hC (fun o _ => ⟨rfl, rfl, rfl, rfl⟩) hG
