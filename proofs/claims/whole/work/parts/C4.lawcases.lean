section C4
variable {G : xG} {b L : Nat} {xs : Nat → Int32} {I : xI} {J : xJ} {S : xSt} {k : Nat}
theorem lc_sheet (hk : k + 6 ≤ L) (hL : L ≤ 3072) (h : cIv I J S) (hm : mIv I S) (kk : ∀ I' J' S', cIv I' J' S' → mIv I' S' → xT G M_law (zQ b L xs) 1259 (zLV G b k) [] I' J') : xT G M_law (zQ b L xs) 180 (zLV G b k) [] I J := by
  refine xr_aload1 dL_law_180 rfl ?_
  refine zr_a1 dL_law_181 dL_law_182 dL_law_183 dL_law_184 dL_law_185 hk hL ?_
  refine zr_a2 dL_law_186 dL_law_187 dL_law_188 dL_law_189 dL_law_190 hk hL ?_
  refine zr_a3 dL_law_191 dL_law_192 dL_law_193 dL_law_194 dL_law_195 hk hL ?_
  refine xr_cVi [.int (xs (k + 1)), .int (xs (k + 2)), .int (xs (k + 3))] dL_law_196 (xcv_of cf_X8_sheet ml_L_13 (by decide)) rfl lay_0 rfl rfl rfl (Nat.le_of_ble_eq_true rfl) (w8_sheet (S := S) (xs (k + 1)) (xs (k + 2)) (xs (k + 3)) h) (fun v I1 J1 q => ?_)
  obtain ⟨e1, h1, f1⟩ := q
  refine xr_aload2 dL_law_199 rfl ?_
  refine zr_a1 dL_law_200 dL_law_201 dL_law_202 dL_law_203 dL_law_204 hk hL ?_
  refine zr_a2 dL_law_205 dL_law_206 dL_law_207 dL_law_208 dL_law_209 hk hL ?_
  refine zr_a3 dL_law_210 dL_law_211 dL_law_212 dL_law_213 dL_law_214 hk hL ?_
  refine xr_cVi [.int (xs (k + 1)), .int (xs (k + 2)), .int (xs (k + 3))] dL_law_215 (xcv_of cf_X9_sheet ml_L_17 (by decide)) rfl lay_77 rfl rfl rfl (Nat.le_of_ble_eq_true rfl) (c9_sheet (S := S) (xs (k + 1)) (xs (k + 2)) (xs (k + 3)) (hm.cg (fun a ha => (f1 a ha).1))) (fun v2 I2 J2 q => ?_)
  obtain ⟨e2, h2, f2⟩ := q
  refine xr_icmp_eq 1259 dL_law_218 (by decide) (fun _ => ?_) (fun hne => absurd (e1.trans e2.symm) hne)
  exact kk I2 J2 (sp_sheet S (xs (k + 1)) (xs (k + 2)) (xs (k + 3))).2 (h1.cg f2) h2
theorem lc_cell (hk : k + 6 ≤ L) (hL : L ≤ 3072) (h : cIv I J S) (hm : mIv I S) (kk : ∀ I' J' S', cIv I' J' S' → mIv I' S' → xT G M_law (zQ b L xs) 1259 (zLV G b k) [] I' J') : xT G M_law (zQ b L xs) 223 (zLV G b k) [] I J := by
  refine xr_aload1 dL_law_223 rfl ?_
  refine zr_a1 dL_law_224 dL_law_225 dL_law_226 dL_law_227 dL_law_228 hk hL ?_
  refine zr_a2 dL_law_229 dL_law_230 dL_law_231 dL_law_232 dL_law_233 hk hL ?_
  refine zr_a3 dL_law_234 dL_law_235 dL_law_236 dL_law_237 dL_law_238 hk hL ?_
  refine xr_cVi [.int (xs (k + 1)), .int (xs (k + 2)), .int (xs (k + 3))] dL_law_239 (xcv_of cf_X8_cell ml_L_18 (by decide)) rfl lay_0 rfl rfl rfl (Nat.le_of_ble_eq_true rfl) (w8_cell (S := S) (xs (k + 1)) (xs (k + 2)) (xs (k + 3)) h) (fun v I1 J1 q => ?_)
  obtain ⟨e1, h1, f1⟩ := q
  refine xr_aload2 dL_law_242 rfl ?_
  refine zr_a1 dL_law_243 dL_law_244 dL_law_245 dL_law_246 dL_law_247 hk hL ?_
  refine zr_a2 dL_law_248 dL_law_249 dL_law_250 dL_law_251 dL_law_252 hk hL ?_
  refine zr_a3 dL_law_253 dL_law_254 dL_law_255 dL_law_256 dL_law_257 hk hL ?_
  refine xr_cVi [.int (xs (k + 1)), .int (xs (k + 2)), .int (xs (k + 3))] dL_law_258 (xcv_of cf_X9_cell ml_L_21 (by decide)) rfl lay_77 rfl rfl rfl (Nat.le_of_ble_eq_true rfl) (c9_cell (S := S) (xs (k + 1)) (xs (k + 2)) (xs (k + 3)) (hm.cg (fun a ha => (f1 a ha).1))) (fun v2 I2 J2 q => ?_)
  obtain ⟨e2, h2, f2⟩ := q
  refine xr_icmp_eq 1259 dL_law_261 (by decide) (fun _ => ?_) (fun hne => absurd (e1.trans e2.symm) hne)
  exact kk I2 J2 (sp_cell S (xs (k + 1)) (xs (k + 2)) (xs (k + 3))).2 (h1.cg f2) h2
theorem lc_told (hk : k + 6 ≤ L) (hL : L ≤ 3072) (h : cIv I J S) (hm : mIv I S) (kk : ∀ I' J' S', cIv I' J' S' → mIv I' S' → xT G M_law (zQ b L xs) 1259 (zLV G b k) [] I' J') : xT G M_law (zQ b L xs) 266 (zLV G b k) [] I J := by
  refine xr_aload1 dL_law_266 rfl ?_
  refine zr_a1 dL_law_267 dL_law_268 dL_law_269 dL_law_270 dL_law_271 hk hL ?_
  refine zr_a2 dL_law_272 dL_law_273 dL_law_274 dL_law_275 dL_law_276 hk hL ?_
  refine xr_cVi [.int (xs (k + 1)), .int (xs (k + 2))] dL_law_277 (xcv_of cf_X8_told ml_L_22 (by decide)) rfl lay_0 rfl rfl rfl (Nat.le_of_ble_eq_true rfl) (w8_told (S := S) (xs (k + 1)) (xs (k + 2)) h) (fun v I1 J1 q => ?_)
  obtain ⟨e1, h1, f1⟩ := q
  refine xr_aload2 dL_law_280 rfl ?_
  refine zr_a1 dL_law_281 dL_law_282 dL_law_283 dL_law_284 dL_law_285 hk hL ?_
  refine zr_a2 dL_law_286 dL_law_287 dL_law_288 dL_law_289 dL_law_290 hk hL ?_
  refine xr_cVi [.int (xs (k + 1)), .int (xs (k + 2))] dL_law_291 (xcv_of cf_X9_told ml_L_26 (by decide)) rfl lay_77 rfl rfl rfl (Nat.le_of_ble_eq_true rfl) (w9_told (S := S) (xs (k + 1)) (xs (k + 2)) (hm.cg (fun a ha => (f1 a ha).1))) (fun v2 I2 J2 q => ?_)
  obtain ⟨e2, h2, f2⟩ := q
  refine xr_icmp_eq 1259 dL_law_294 (by decide) (fun _ => ?_) (fun hne => absurd (e1.trans e2.symm) hne)
  exact kk I2 J2 S (h1.cg f2) h2
theorem lc_lose (hk : k + 6 ≤ L) (hL : L ≤ 3072) (h : cIv I J S) (hm : mIv I S) (kk : ∀ I' J' S', cIv I' J' S' → mIv I' S' → xT G M_law (zQ b L xs) 1259 (zLV G b k) [] I' J') : xT G M_law (zQ b L xs) 299 (zLV G b k) [] I J := by
  refine xr_aload1 dL_law_299 rfl ?_
  refine zr_a1 dL_law_300 dL_law_301 dL_law_302 dL_law_303 dL_law_304 hk hL ?_
  refine xr_cVi [.int (xs (k + 1))] dL_law_305 (xcv_of cf_X8_lose ml_L_27 (by decide)) rfl lay_0 rfl rfl rfl (Nat.le_of_ble_eq_true rfl) (w8_lose (S := S) (xs (k + 1)) h) (fun v I1 J1 q => ?_)
  obtain ⟨e1, h1, f1⟩ := q
  refine xr_aload2 dL_law_308 rfl ?_
  refine zr_a1 dL_law_309 dL_law_310 dL_law_311 dL_law_312 dL_law_313 hk hL ?_
  refine xr_cVi [.int (xs (k + 1))] dL_law_314 (xcv_of cf_X9_lose ml_L_31 (by decide)) rfl lay_77 rfl rfl rfl (Nat.le_of_ble_eq_true rfl) (c9_lose (S := S) (xs (k + 1)) (hm.cg (fun a ha => (f1 a ha).1))) (fun v2 I2 J2 q => ?_)
  obtain ⟨e2, h2, f2⟩ := q
  refine xr_icmp_eq 1259 dL_law_317 (by decide) (fun _ => ?_) (fun hne => absurd (e1.trans e2.symm) hne)
  exact kk I2 J2 (sp_lose S (xs (k + 1))).2 (h1.cg f2) h2
theorem lc_letters (hk : k + 6 ≤ L) (hL : L ≤ 3072) (h : cIv I J S) (hm : mIv I S) (kk : ∀ I' J' S', cIv I' J' S' → mIv I' S' → xT G M_law (zQ b L xs) 1259 (zLV G b k) [] I' J') : xT G M_law (zQ b L xs) 322 (zLV G b k) [] I J := by
  refine xr_aload1 dL_law_322 rfl ?_
  refine zr_a1 dL_law_323 dL_law_324 dL_law_325 dL_law_326 dL_law_327 hk hL ?_
  refine xr_cVi [.int (xs (k + 1))] dL_law_328 (xcv_of cf_X8_letters ml_L_32 (by decide)) rfl lay_0 rfl rfl rfl (Nat.le_of_ble_eq_true rfl) (w8_letters (S := S) (xs (k + 1)) h) (fun v I1 J1 q => ?_)
  obtain ⟨e1, h1, f1⟩ := q
  refine xr_aload2 dL_law_331 rfl ?_
  refine zr_a1 dL_law_332 dL_law_333 dL_law_334 dL_law_335 dL_law_336 hk hL ?_
  refine xr_cVi [.int (xs (k + 1))] dL_law_337 (xcv_of cf_X9_letters ml_L_35 (by decide)) rfl lay_77 rfl rfl rfl (Nat.le_of_ble_eq_true rfl) (c9_letters (S := S) (xs (k + 1)) (hm.cg (fun a ha => (f1 a ha).1))) (fun v2 I2 J2 q => ?_)
  obtain ⟨e2, h2, f2⟩ := q
  refine xr_icmp_eq 1259 dL_law_340 (by decide) (fun _ => ?_) (fun hne => absurd (e1.trans e2.symm) hne)
  exact kk I2 J2 (sp_letters S (xs (k + 1))).2 (h1.cg f2) h2
theorem lc_state (hk : k + 6 ≤ L) (hL : L ≤ 3072) (h : cIv I J S) (hm : mIv I S) (kk : ∀ I' J' S', cIv I' J' S' → mIv I' S' → xT G M_law (zQ b L xs) 1259 (zLV G b k) [] I' J') : xT G M_law (zQ b L xs) 345 (zLV G b k) [] I J := by
  refine xr_aload1 dL_law_345 rfl ?_
  refine zr_a1 dL_law_346 dL_law_347 dL_law_348 dL_law_349 dL_law_350 hk hL ?_
  refine zr_a2 dL_law_351 dL_law_352 dL_law_353 dL_law_354 dL_law_355 hk hL ?_
  refine xr_cVi [.int (xs (k + 1)), .int (xs (k + 2))] dL_law_356 (xcv_of cf_X8_state ml_L_36 (by decide)) rfl lay_0 rfl rfl rfl (Nat.le_of_ble_eq_true rfl) (w8_state (S := S) (xs (k + 1)) (xs (k + 2)) h) (fun v I1 J1 q => ?_)
  obtain ⟨e1, h1, f1⟩ := q
  refine xr_aload2 dL_law_359 rfl ?_
  refine zr_a1 dL_law_360 dL_law_361 dL_law_362 dL_law_363 dL_law_364 hk hL ?_
  refine zr_a2 dL_law_365 dL_law_366 dL_law_367 dL_law_368 dL_law_369 hk hL ?_
  refine xr_cVi [.int (xs (k + 1)), .int (xs (k + 2))] dL_law_370 (xcv_of cf_X9_state ml_L_39 (by decide)) rfl lay_77 rfl rfl rfl (Nat.le_of_ble_eq_true rfl) (c9_state (S := S) (xs (k + 1)) (xs (k + 2)) (hm.cg (fun a ha => (f1 a ha).1))) (fun v2 I2 J2 q => ?_)
  obtain ⟨e2, h2, f2⟩ := q
  refine xr_icmp_eq 1259 dL_law_373 (by decide) (fun _ => ?_) (fun hne => absurd (e1.trans e2.symm) hne)
  exact kk I2 J2 (sp_state S (xs (k + 1)) (xs (k + 2))).2 (h1.cg f2) h2
theorem lc_change (hk : k + 6 ≤ L) (hL : L ≤ 3072) (h : cIv I J S) (hm : mIv I S) (kk : ∀ I' J' S', cIv I' J' S' → mIv I' S' → xT G M_law (zQ b L xs) 1259 (zLV G b k) [] I' J') : xT G M_law (zQ b L xs) 378 (zLV G b k) [] I J := by
  refine xr_aload1 dL_law_378 rfl ?_
  refine zr_a1 dL_law_379 dL_law_380 dL_law_381 dL_law_382 dL_law_383 hk hL ?_
  refine zr_a2 dL_law_384 dL_law_385 dL_law_386 dL_law_387 dL_law_388 hk hL ?_
  refine zr_a3 dL_law_389 dL_law_390 dL_law_391 dL_law_392 dL_law_393 hk hL ?_
  refine zr_a4 dL_law_394 dL_law_395 dL_law_396 dL_law_397 dL_law_398 hk hL ?_
  refine xr_cVi [.int (xs (k + 1)), .int (xs (k + 2)), .int (xs (k + 3)), .int (xs (k + 4))] dL_law_399 (xcv_of cf_X8_change ml_L_40 (by decide)) rfl lay_0 rfl rfl rfl (Nat.le_of_ble_eq_true rfl) (w8_change (S := S) (xs (k + 1)) (xs (k + 2)) (xs (k + 3)) (xs (k + 4)) h) (fun v I1 J1 q => ?_)
  obtain ⟨e1, h1, f1⟩ := q
  refine xr_aload2 dL_law_402 rfl ?_
  refine zr_a1 dL_law_403 dL_law_404 dL_law_405 dL_law_406 dL_law_407 hk hL ?_
  refine zr_a2 dL_law_408 dL_law_409 dL_law_410 dL_law_411 dL_law_412 hk hL ?_
  refine zr_a3 dL_law_413 dL_law_414 dL_law_415 dL_law_416 dL_law_417 hk hL ?_
  refine zr_a4 dL_law_418 dL_law_419 dL_law_420 dL_law_421 dL_law_422 hk hL ?_
  refine xr_cVi [.int (xs (k + 1)), .int (xs (k + 2)), .int (xs (k + 3)), .int (xs (k + 4))] dL_law_423 (xcv_of cf_X9_change ml_L_44 (by decide)) rfl lay_77 rfl rfl rfl (Nat.le_of_ble_eq_true rfl) (c9_change (S := S) (xs (k + 1)) (xs (k + 2)) (xs (k + 3)) (xs (k + 4)) (hm.cg (fun a ha => (f1 a ha).1))) (fun v2 I2 J2 q => ?_)
  obtain ⟨e2, h2, f2⟩ := q
  refine xr_icmp_eq 1259 dL_law_426 (by decide) (fun _ => ?_) (fun hne => absurd (e1.trans e2.symm) hne)
  exact kk I2 J2 (sp_change S (xs (k + 1)) (xs (k + 2)) (xs (k + 3)) (xs (k + 4))).2 (h1.cg f2) h2
theorem lc_of (hk : k + 6 ≤ L) (hL : L ≤ 3072) (h : cIv I J S) (hm : mIv I S) (kk : ∀ I' J' S', cIv I' J' S' → mIv I' S' → xT G M_law (zQ b L xs) 1259 (zLV G b k) [] I' J') : xT G M_law (zQ b L xs) 431 (zLV G b k) [] I J := by
  refine xr_aload1 dL_law_431 rfl ?_
  refine zr_a1 dL_law_432 dL_law_433 dL_law_434 dL_law_435 dL_law_436 hk hL ?_
  refine zr_a2 dL_law_437 dL_law_438 dL_law_439 dL_law_440 dL_law_441 hk hL ?_
  refine zr_a3 dL_law_442 dL_law_443 dL_law_444 dL_law_445 dL_law_446 hk hL ?_
  refine xr_cVi [.int (xs (k + 1)), .int (xs (k + 2)), .int (xs (k + 3))] dL_law_447 (xcv_of cf_X8_of ml_L_45 (by decide)) rfl lay_0 rfl rfl rfl (Nat.le_of_ble_eq_true rfl) (w8_of (S := S) (xs (k + 1)) (xs (k + 2)) (xs (k + 3)) h) (fun v I1 J1 q => ?_)
  obtain ⟨e1, h1, f1⟩ := q
  refine xr_aload2 dL_law_450 rfl ?_
  refine zr_a1 dL_law_451 dL_law_452 dL_law_453 dL_law_454 dL_law_455 hk hL ?_
  refine zr_a2 dL_law_456 dL_law_457 dL_law_458 dL_law_459 dL_law_460 hk hL ?_
  refine zr_a3 dL_law_461 dL_law_462 dL_law_463 dL_law_464 dL_law_465 hk hL ?_
  refine xr_cVi [.int (xs (k + 1)), .int (xs (k + 2)), .int (xs (k + 3))] dL_law_466 (xcv_of cf_X9_of ml_L_48 (by decide)) rfl lay_77 rfl rfl rfl (Nat.le_of_ble_eq_true rfl) (c9_of (S := S) (xs (k + 1)) (xs (k + 2)) (xs (k + 3)) (hm.cg (fun a ha => (f1 a ha).1))) (fun v2 I2 J2 q => ?_)
  obtain ⟨e2, h2, f2⟩ := q
  refine xr_icmp_eq 1259 dL_law_469 (by decide) (fun _ => ?_) (fun hne => absurd (e1.trans e2.symm) hne)
  exact kk I2 J2 S (h1.cg f2) h2
theorem lc_many (hk : k + 6 ≤ L) (hL : L ≤ 3072) (h : cIv I J S) (hm : mIv I S) (kk : ∀ I' J' S', cIv I' J' S' → mIv I' S' → xT G M_law (zQ b L xs) 1259 (zLV G b k) [] I' J') : xT G M_law (zQ b L xs) 474 (zLV G b k) [] I J := by
  refine xr_aload1 dL_law_474 rfl ?_
  refine zr_a1 dL_law_475 dL_law_476 dL_law_477 dL_law_478 dL_law_479 hk hL ?_
  refine xr_cVi [.int (xs (k + 1))] dL_law_480 (xcv_of cf_X8_many ml_L_49 (by decide)) rfl lay_0 rfl rfl rfl (Nat.le_of_ble_eq_true rfl) (w8_many (S := S) (xs (k + 1)) h) (fun v I1 J1 q => ?_)
  obtain ⟨e1, h1, f1⟩ := q
  refine xr_aload2 dL_law_483 rfl ?_
  refine zr_a1 dL_law_484 dL_law_485 dL_law_486 dL_law_487 dL_law_488 hk hL ?_
  refine xr_cVi [.int (xs (k + 1))] dL_law_489 (xcv_of cf_X9_many ml_L_52 (by decide)) rfl lay_77 rfl rfl rfl (Nat.le_of_ble_eq_true rfl) (c9_many (S := S) (xs (k + 1)) (hm.cg (fun a ha => (f1 a ha).1))) (fun v2 I2 J2 q => ?_)
  obtain ⟨e2, h2, f2⟩ := q
  refine xr_icmp_eq 1259 dL_law_492 (by decide) (fun _ => ?_) (fun hne => absurd (e1.trans e2.symm) hne)
  exact kk I2 J2 S (h1.cg f2) h2
theorem lc_put (hk : k + 6 ≤ L) (hL : L ≤ 3072) (h : cIv I J S) (hm : mIv I S) (kk : ∀ I' J' S', cIv I' J' S' → mIv I' S' → xT G M_law (zQ b L xs) 1259 (zLV G b k) [] I' J') : xT G M_law (zQ b L xs) 497 (zLV G b k) [] I J := by
  refine xr_aload1 dL_law_497 rfl ?_
  refine zr_a1 dL_law_498 dL_law_499 dL_law_500 dL_law_501 dL_law_502 hk hL ?_
  refine zr_a2 dL_law_503 dL_law_504 dL_law_505 dL_law_506 dL_law_507 hk hL ?_
  refine zr_a3 dL_law_508 dL_law_509 dL_law_510 dL_law_511 dL_law_512 hk hL ?_
  refine zr_a4 dL_law_513 dL_law_514 dL_law_515 dL_law_516 dL_law_517 hk hL ?_
  refine zr_a5 dL_law_518 dL_law_519 dL_law_520 dL_law_521 dL_law_522 hk hL ?_
  refine xr_cVi [.int (xs (k + 1)), .int (xs (k + 2)), .int (xs (k + 3)), .int (xs (k + 4)), .int (xs (k + 5))] dL_law_523 (xcv_of cf_X8_put ml_L_53 (by decide)) rfl lay_0 rfl rfl rfl (Nat.le_of_ble_eq_true rfl) (w8_put (S := S) (xs (k + 1)) (xs (k + 2)) (xs (k + 3)) (xs (k + 4)) (xs (k + 5)) h) (fun v I1 J1 q => ?_)
  obtain ⟨e1, h1, f1⟩ := q
  refine xr_aload2 dL_law_526 rfl ?_
  refine zr_a1 dL_law_527 dL_law_528 dL_law_529 dL_law_530 dL_law_531 hk hL ?_
  refine zr_a2 dL_law_532 dL_law_533 dL_law_534 dL_law_535 dL_law_536 hk hL ?_
  refine zr_a3 dL_law_537 dL_law_538 dL_law_539 dL_law_540 dL_law_541 hk hL ?_
  refine zr_a4 dL_law_542 dL_law_543 dL_law_544 dL_law_545 dL_law_546 hk hL ?_
  refine zr_a5 dL_law_547 dL_law_548 dL_law_549 dL_law_550 dL_law_551 hk hL ?_
  refine xr_cVi [.int (xs (k + 1)), .int (xs (k + 2)), .int (xs (k + 3)), .int (xs (k + 4)), .int (xs (k + 5))] dL_law_552 (xcv_of cf_X9_put ml_L_57 (by decide)) rfl lay_77 rfl rfl rfl (Nat.le_of_ble_eq_true rfl) (c9_put (S := S) (xs (k + 1)) (xs (k + 2)) (xs (k + 3)) (xs (k + 4)) (xs (k + 5)) (hm.cg (fun a ha => (f1 a ha).1))) (fun v2 I2 J2 q => ?_)
  obtain ⟨e2, h2, f2⟩ := q
  refine xr_icmp_eq 1259 dL_law_555 (by decide) (fun _ => ?_) (fun hne => absurd (e1.trans e2.symm) hne)
  exact kk I2 J2 (sp_put S (xs (k + 1)) (xs (k + 2)) (xs (k + 3)) (xs (k + 4)) (xs (k + 5))).2 (h1.cg f2) h2
theorem lc_wipe (hk : k + 6 ≤ L) (hL : L ≤ 3072) (h : cIv I J S) (hm : mIv I S) (kk : ∀ I' J' S', cIv I' J' S' → mIv I' S' → xT G M_law (zQ b L xs) 1259 (zLV G b k) [] I' J') : xT G M_law (zQ b L xs) 560 (zLV G b k) [] I J := by
  refine xr_aload1 dL_law_560 rfl ?_
  refine zr_a1 dL_law_561 dL_law_562 dL_law_563 dL_law_564 dL_law_565 hk hL ?_
  refine xr_cVi [.int (xs (k + 1))] dL_law_566 (xcv_of cf_X8_wipe ml_L_58 (by decide)) rfl lay_0 rfl rfl rfl (Nat.le_of_ble_eq_true rfl) (w8_wipe (S := S) (xs (k + 1)) h) (fun v I1 J1 q => ?_)
  obtain ⟨e1, h1, f1⟩ := q
  refine xr_aload2 dL_law_569 rfl ?_
  refine zr_a1 dL_law_570 dL_law_571 dL_law_572 dL_law_573 dL_law_574 hk hL ?_
  refine xr_cVi [.int (xs (k + 1))] dL_law_575 (xcv_of cf_X9_wipe ml_L_61 (by decide)) rfl lay_77 rfl rfl rfl (Nat.le_of_ble_eq_true rfl) (c9_wipe (S := S) (xs (k + 1)) (hm.cg (fun a ha => (f1 a ha).1))) (fun v2 I2 J2 q => ?_)
  obtain ⟨e2, h2, f2⟩ := q
  refine xr_icmp_eq 1259 dL_law_578 (by decide) (fun _ => ?_) (fun hne => absurd (e1.trans e2.symm) hne)
  exact kk I2 J2 (sp_wipe S (xs (k + 1))).2 (h1.cg f2) h2
theorem lc_size (hk : k + 6 ≤ L) (hL : L ≤ 3072) (h : cIv I J S) (hm : mIv I S) (kk : ∀ I' J' S', cIv I' J' S' → mIv I' S' → xT G M_law (zQ b L xs) 1259 (zLV G b k) [] I' J') : xT G M_law (zQ b L xs) 583 (zLV G b k) [] I J := by
  refine xr_aload1 dL_law_583 rfl ?_
  refine zr_a1 dL_law_584 dL_law_585 dL_law_586 dL_law_587 dL_law_588 hk hL ?_
  refine xr_cVi [.int (xs (k + 1))] dL_law_589 (xcv_of cf_X8_size ml_L_62 (by decide)) rfl lay_0 rfl rfl rfl (Nat.le_of_ble_eq_true rfl) (w8_size (S := S) (xs (k + 1)) h) (fun v I1 J1 q => ?_)
  obtain ⟨e1, h1, f1⟩ := q
  refine xr_aload2 dL_law_592 rfl ?_
  refine zr_a1 dL_law_593 dL_law_594 dL_law_595 dL_law_596 dL_law_597 hk hL ?_
  refine xr_cVi [.int (xs (k + 1))] dL_law_598 (xcv_of cf_X9_size ml_L_65 (by decide)) rfl lay_77 rfl rfl rfl (Nat.le_of_ble_eq_true rfl) (w9_size (S := S) (xs (k + 1)) (hm.cg (fun a ha => (f1 a ha).1))) (fun v2 I2 J2 q => ?_)
  obtain ⟨e2, h2, f2⟩ := q
  refine xr_icmp_eq 1259 dL_law_601 (by decide) (fun _ => ?_) (fun hne => absurd (e1.trans e2.symm) hne)
  exact kk I2 J2 S (h1.cg f2) h2
theorem lc_token (hk : k + 6 ≤ L) (hL : L ≤ 3072) (h : cIv I J S) (hm : mIv I S) (kk : ∀ I' J' S', cIv I' J' S' → mIv I' S' → xT G M_law (zQ b L xs) 1259 (zLV G b k) [] I' J') : xT G M_law (zQ b L xs) 606 (zLV G b k) [] I J := by
  refine xr_aload1 dL_law_606 rfl ?_
  refine zr_a1 dL_law_607 dL_law_608 dL_law_609 dL_law_610 dL_law_611 hk hL ?_
  refine zr_a2 dL_law_612 dL_law_613 dL_law_614 dL_law_615 dL_law_616 hk hL ?_
  refine xr_cVi [.int (xs (k + 1)), .int (xs (k + 2))] dL_law_617 (xcv_of cf_X8_token ml_L_66 (by decide)) rfl lay_0 rfl rfl rfl (Nat.le_of_ble_eq_true rfl) (w8_token (S := S) (xs (k + 1)) (xs (k + 2)) h) (fun v I1 J1 q => ?_)
  obtain ⟨e1, h1, f1⟩ := q
  refine xr_aload2 dL_law_620 rfl ?_
  refine zr_a1 dL_law_621 dL_law_622 dL_law_623 dL_law_624 dL_law_625 hk hL ?_
  refine zr_a2 dL_law_626 dL_law_627 dL_law_628 dL_law_629 dL_law_630 hk hL ?_
  refine xr_cVi [.int (xs (k + 1)), .int (xs (k + 2))] dL_law_631 (xcv_of cf_X9_token ml_L_69 (by decide)) rfl lay_77 rfl rfl rfl (Nat.le_of_ble_eq_true rfl) (w9_token (S := S) (xs (k + 1)) (xs (k + 2)) (hm.cg (fun a ha => (f1 a ha).1))) (fun v2 I2 J2 q => ?_)
  obtain ⟨e2, h2, f2⟩ := q
  refine xr_icmp_eq 1259 dL_law_634 (by decide) (fun _ => ?_) (fun hne => absurd (e1.trans e2.symm) hne)
  exact kk I2 J2 S (h1.cg f2) h2
theorem lc_times (hk : k + 6 ≤ L) (hL : L ≤ 3072) (h : cIv I J S) (hm : mIv I S) (kk : ∀ I' J' S', cIv I' J' S' → mIv I' S' → xT G M_law (zQ b L xs) 1259 (zLV G b k) [] I' J') : xT G M_law (zQ b L xs) 639 (zLV G b k) [] I J := by
  refine xr_aload1 dL_law_639 rfl ?_
  refine zr_a1 dL_law_640 dL_law_641 dL_law_642 dL_law_643 dL_law_644 hk hL ?_
  refine zr_a2 dL_law_645 dL_law_646 dL_law_647 dL_law_648 dL_law_649 hk hL ?_
  refine zr_a3 dL_law_650 dL_law_651 dL_law_652 dL_law_653 dL_law_654 hk hL ?_
  refine xr_cVi [.int (xs (k + 1)), .int (xs (k + 2)), .int (xs (k + 3))] dL_law_655 (xcv_of cf_X8_times ml_L_70 (by decide)) rfl lay_0 rfl rfl rfl (Nat.le_of_ble_eq_true rfl) (w8_times (S := S) (xs (k + 1)) (xs (k + 2)) (xs (k + 3)) h) (fun v I1 J1 q => ?_)
  obtain ⟨e1, h1, f1⟩ := q
  refine xr_aload2 dL_law_658 rfl ?_
  refine zr_a1 dL_law_659 dL_law_660 dL_law_661 dL_law_662 dL_law_663 hk hL ?_
  refine zr_a2 dL_law_664 dL_law_665 dL_law_666 dL_law_667 dL_law_668 hk hL ?_
  refine zr_a3 dL_law_669 dL_law_670 dL_law_671 dL_law_672 dL_law_673 hk hL ?_
  refine xr_cVi [.int (xs (k + 1)), .int (xs (k + 2)), .int (xs (k + 3))] dL_law_674 (xcv_of cf_X9_times ml_L_73 (by decide)) rfl lay_77 rfl rfl rfl (Nat.le_of_ble_eq_true rfl) (c9_times (S := S) (xs (k + 1)) (xs (k + 2)) (xs (k + 3)) (hm.cg (fun a ha => (f1 a ha).1))) (fun v2 I2 J2 q => ?_)
  obtain ⟨e2, h2, f2⟩ := q
  refine xr_icmp_eq 1259 dL_law_677 (by decide) (fun _ => ?_) (fun hne => absurd (e1.trans e2.symm) hne)
  exact kk I2 J2 (sp_times S (xs (k + 1)) (xs (k + 2)) (xs (k + 3))).2 (h1.cg f2) h2
theorem lc_turn (hk : k + 6 ≤ L) (hL : L ≤ 3072) (h : cIv I J S) (hm : mIv I S) (kk : ∀ I' J' S', cIv I' J' S' → mIv I' S' → xT G M_law (zQ b L xs) 1259 (zLV G b k) [] I' J') : xT G M_law (zQ b L xs) 682 (zLV G b k) [] I J := by
  refine xr_aload1 dL_law_682 rfl ?_
  refine zr_a1 dL_law_683 dL_law_684 dL_law_685 dL_law_686 dL_law_687 hk hL ?_
  refine zr_a2 dL_law_688 dL_law_689 dL_law_690 dL_law_691 dL_law_692 hk hL ?_
  refine xr_cVi [.int (xs (k + 1)), .int (xs (k + 2))] dL_law_693 (xcv_of cf_X8_turn ml_L_74 (by decide)) rfl lay_0 rfl rfl rfl (Nat.le_of_ble_eq_true rfl) (w8_turn (S := S) (xs (k + 1)) (xs (k + 2)) h) (fun v I1 J1 q => ?_)
  obtain ⟨e1, h1, f1⟩ := q
  refine xr_aload2 dL_law_696 rfl ?_
  refine zr_a1 dL_law_697 dL_law_698 dL_law_699 dL_law_700 dL_law_701 hk hL ?_
  refine zr_a2 dL_law_702 dL_law_703 dL_law_704 dL_law_705 dL_law_706 hk hL ?_
  refine xr_cVi [.int (xs (k + 1)), .int (xs (k + 2))] dL_law_707 (xcv_of cf_X9_turn ml_L_77 (by decide)) rfl lay_77 rfl rfl rfl (Nat.le_of_ble_eq_true rfl) (c9_turn (S := S) (xs (k + 1)) (xs (k + 2)) (hm.cg (fun a ha => (f1 a ha).1))) (fun v2 I2 J2 q => ?_)
  obtain ⟨e2, h2, f2⟩ := q
  refine xr_icmp_eq 1259 dL_law_710 (by decide) (fun _ => ?_) (fun hne => absurd (e1.trans e2.symm) hne)
  exact kk I2 J2 (sp_turn S (xs (k + 1)) (xs (k + 2))).2 (h1.cg f2) h2
theorem lc_act (hk : k + 6 ≤ L) (hL : L ≤ 3072) (h : cIv I J S) (hm : mIv I S) (kk : ∀ I' J' S', cIv I' J' S' → mIv I' S' → xT G M_law (zQ b L xs) 1259 (zLV G b k) [] I' J') : xT G M_law (zQ b L xs) 715 (zLV G b k) [] I J := by
  refine xr_aload1 dL_law_715 rfl ?_
  refine zr_a1 dL_law_716 dL_law_717 dL_law_718 dL_law_719 dL_law_720 hk hL ?_
  refine zr_a2 dL_law_721 dL_law_722 dL_law_723 dL_law_724 dL_law_725 hk hL ?_
  refine xr_cVi [.int (xs (k + 1)), .int (xs (k + 2))] dL_law_726 (xcv_of cf_X8_act ml_L_78 (by decide)) rfl lay_0 rfl rfl rfl (Nat.le_of_ble_eq_true rfl) (w8_act (S := S) (xs (k + 1)) (xs (k + 2)) h) (fun v I1 J1 q => ?_)
  obtain ⟨e1, h1, f1⟩ := q
  refine xr_aload2 dL_law_729 rfl ?_
  refine zr_a1 dL_law_730 dL_law_731 dL_law_732 dL_law_733 dL_law_734 hk hL ?_
  refine zr_a2 dL_law_735 dL_law_736 dL_law_737 dL_law_738 dL_law_739 hk hL ?_
  refine xr_cVi [.int (xs (k + 1)), .int (xs (k + 2))] dL_law_740 (xcv_of cf_X9_act ml_L_81 (by decide)) rfl lay_77 rfl rfl rfl (Nat.le_of_ble_eq_true rfl) (c9_act (S := S) (xs (k + 1)) (xs (k + 2)) (hm.cg (fun a ha => (f1 a ha).1))) (fun v2 I2 J2 q => ?_)
  obtain ⟨e2, h2, f2⟩ := q
  refine xr_icmp_eq 1259 dL_law_743 (by decide) (fun _ => ?_) (fun hne => absurd (e1.trans e2.symm) hne)
  exact kk I2 J2 S (h1.cg f2) h2
theorem lc_part (hk : k + 6 ≤ L) (hL : L ≤ 3072) (h : cIv I J S) (hm : mIv I S) (kk : ∀ I' J' S', cIv I' J' S' → mIv I' S' → xT G M_law (zQ b L xs) 1259 (zLV G b k) [] I' J') : xT G M_law (zQ b L xs) 748 (zLV G b k) [] I J := by
  refine xr_aload1 dL_law_748 rfl ?_
  refine zr_a1 dL_law_749 dL_law_750 dL_law_751 dL_law_752 dL_law_753 hk hL ?_
  refine zr_a2 dL_law_754 dL_law_755 dL_law_756 dL_law_757 dL_law_758 hk hL ?_
  refine zr_a3 dL_law_759 dL_law_760 dL_law_761 dL_law_762 dL_law_763 hk hL ?_
  refine xr_cVi [.int (xs (k + 1)), .int (xs (k + 2)), .int (xs (k + 3))] dL_law_764 (xcv_of cf_X8_part ml_L_82 (by decide)) rfl lay_0 rfl rfl rfl (Nat.le_of_ble_eq_true rfl) (w8_part (S := S) (xs (k + 1)) (xs (k + 2)) (xs (k + 3)) h) (fun v I1 J1 q => ?_)
  obtain ⟨e1, h1, f1⟩ := q
  refine xr_aload2 dL_law_767 rfl ?_
  refine zr_a1 dL_law_768 dL_law_769 dL_law_770 dL_law_771 dL_law_772 hk hL ?_
  refine zr_a2 dL_law_773 dL_law_774 dL_law_775 dL_law_776 dL_law_777 hk hL ?_
  refine zr_a3 dL_law_778 dL_law_779 dL_law_780 dL_law_781 dL_law_782 hk hL ?_
  refine xr_cVi [.int (xs (k + 1)), .int (xs (k + 2)), .int (xs (k + 3))] dL_law_783 (xcv_of cf_X9_part ml_L_85 (by decide)) rfl lay_77 rfl rfl rfl (Nat.le_of_ble_eq_true rfl) (c9_part (S := S) (xs (k + 1)) (xs (k + 2)) (xs (k + 3)) (hm.cg (fun a ha => (f1 a ha).1))) (fun v2 I2 J2 q => ?_)
  obtain ⟨e2, h2, f2⟩ := q
  refine xr_icmp_eq 1259 dL_law_786 (by decide) (fun _ => ?_) (fun hne => absurd (e1.trans e2.symm) hne)
  exact kk I2 J2 (sp_part S (xs (k + 1)) (xs (k + 2)) (xs (k + 3))).2 (h1.cg f2) h2
theorem lc_same (hk : k + 6 ≤ L) (hL : L ≤ 3072) (h : cIv I J S) (hm : mIv I S) (kk : ∀ I' J' S', cIv I' J' S' → mIv I' S' → xT G M_law (zQ b L xs) 1259 (zLV G b k) [] I' J') : xT G M_law (zQ b L xs) 791 (zLV G b k) [] I J := by
  refine xr_aload1 dL_law_791 rfl ?_
  refine zr_a1 dL_law_792 dL_law_793 dL_law_794 dL_law_795 dL_law_796 hk hL ?_
  refine zr_a2 dL_law_797 dL_law_798 dL_law_799 dL_law_800 dL_law_801 hk hL ?_
  refine xr_cVi [.int (xs (k + 1)), .int (xs (k + 2))] dL_law_802 (xcv_of cf_X8_same ml_L_86 (by decide)) rfl lay_0 rfl rfl rfl (Nat.le_of_ble_eq_true rfl) (w8_same (S := S) (xs (k + 1)) (xs (k + 2)) h) (fun v I1 J1 q => ?_)
  obtain ⟨e1, h1, f1⟩ := q
  refine xr_aload2 dL_law_805 rfl ?_
  refine zr_a1 dL_law_806 dL_law_807 dL_law_808 dL_law_809 dL_law_810 hk hL ?_
  refine zr_a2 dL_law_811 dL_law_812 dL_law_813 dL_law_814 dL_law_815 hk hL ?_
  refine xr_cVi [.int (xs (k + 1)), .int (xs (k + 2))] dL_law_816 (xcv_of cf_X9_same ml_L_89 (by decide)) rfl lay_77 rfl rfl rfl (Nat.le_of_ble_eq_true rfl) (c9_same (S := S) (xs (k + 1)) (xs (k + 2)) (hm.cg (fun a ha => (f1 a ha).1))) (fun v2 I2 J2 q => ?_)
  obtain ⟨e2, h2, f2⟩ := q
  refine xr_icmp_eq 1259 dL_law_819 (by decide) (fun _ => ?_) (fun hne => absurd (e1.trans e2.symm) hne)
  exact kk I2 J2 S (h1.cg f2) h2
theorem lc_apart (hk : k + 6 ≤ L) (hL : L ≤ 3072) (h : cIv I J S) (hm : mIv I S) (kk : ∀ I' J' S', cIv I' J' S' → mIv I' S' → xT G M_law (zQ b L xs) 1259 (zLV G b k) [] I' J') : xT G M_law (zQ b L xs) 824 (zLV G b k) [] I J := by
  refine xr_aload1 dL_law_824 rfl ?_
  refine zr_a1 dL_law_825 dL_law_826 dL_law_827 dL_law_828 dL_law_829 hk hL ?_
  refine zr_a2 dL_law_830 dL_law_831 dL_law_832 dL_law_833 dL_law_834 hk hL ?_
  refine xr_cVi [.int (xs (k + 1)), .int (xs (k + 2))] dL_law_835 (xcv_of cf_X8_apart ml_L_90 (by decide)) rfl lay_0 rfl rfl rfl (Nat.le_of_ble_eq_true rfl) (w8_apart (S := S) (xs (k + 1)) (xs (k + 2)) h) (fun v I1 J1 q => ?_)
  obtain ⟨e1, h1, f1⟩ := q
  refine xr_aload2 dL_law_838 rfl ?_
  refine zr_a1 dL_law_839 dL_law_840 dL_law_841 dL_law_842 dL_law_843 hk hL ?_
  refine zr_a2 dL_law_844 dL_law_845 dL_law_846 dL_law_847 dL_law_848 hk hL ?_
  refine xr_cVi [.int (xs (k + 1)), .int (xs (k + 2))] dL_law_849 (xcv_of cf_X9_apart ml_L_93 (by decide)) rfl lay_77 rfl rfl rfl (Nat.le_of_ble_eq_true rfl) (c9_apart (S := S) (xs (k + 1)) (xs (k + 2)) (hm.cg (fun a ha => (f1 a ha).1))) (fun v2 I2 J2 q => ?_)
  obtain ⟨e2, h2, f2⟩ := q
  refine xr_icmp_eq 1259 dL_law_852 (by decide) (fun _ => ?_) (fun hne => absurd (e1.trans e2.symm) hne)
  exact kk I2 J2 S (h1.cg f2) h2
theorem lc_heap (hk : k + 6 ≤ L) (hL : L ≤ 3072) (h : cIv I J S) (hm : mIv I S) (kk : ∀ I' J' S', cIv I' J' S' → mIv I' S' → xT G M_law (zQ b L xs) 1259 (zLV G b k) [] I' J') : xT G M_law (zQ b L xs) 857 (zLV G b k) [] I J := by
  refine xr_aload1 dL_law_857 rfl ?_
  refine zr_a1 dL_law_858 dL_law_859 dL_law_860 dL_law_861 dL_law_862 hk hL ?_
  refine xr_cVi [.int (xs (k + 1))] dL_law_863 (xcv_of cf_X8_heap ml_L_94 (by decide)) rfl lay_0 rfl rfl rfl (Nat.le_of_ble_eq_true rfl) (w8_heap (S := S) (xs (k + 1)) h) (fun v I1 J1 q => ?_)
  obtain ⟨e1, h1, f1⟩ := q
  refine xr_aload2 dL_law_866 rfl ?_
  refine zr_a1 dL_law_867 dL_law_868 dL_law_869 dL_law_870 dL_law_871 hk hL ?_
  refine xr_cVi [.int (xs (k + 1))] dL_law_872 (xcv_of cf_X9_heap ml_L_97 (by decide)) rfl lay_77 rfl rfl rfl (Nat.le_of_ble_eq_true rfl) (c9_heap (S := S) (xs (k + 1)) (hm.cg (fun a ha => (f1 a ha).1))) (fun v2 I2 J2 q => ?_)
  obtain ⟨e2, h2, f2⟩ := q
  refine xr_icmp_eq 1259 dL_law_875 (by decide) (fun _ => ?_) (fun hne => absurd (e1.trans e2.symm) hne)
  exact kk I2 J2 S (h1.cg f2) h2
theorem lc_least (hk : k + 6 ≤ L) (hL : L ≤ 3072) (h : cIv I J S) (hm : mIv I S) (kk : ∀ I' J' S', cIv I' J' S' → mIv I' S' → xT G M_law (zQ b L xs) 1259 (zLV G b k) [] I' J') : xT G M_law (zQ b L xs) 880 (zLV G b k) [] I J := by
  refine xr_aload1 dL_law_880 rfl ?_
  refine zr_a1 dL_law_881 dL_law_882 dL_law_883 dL_law_884 dL_law_885 hk hL ?_
  refine xr_cVi [.int (xs (k + 1))] dL_law_886 (xcv_of cf_X8_least ml_L_98 (by decide)) rfl lay_0 rfl rfl rfl (Nat.le_of_ble_eq_true rfl) (w8_least (S := S) (xs (k + 1)) h) (fun v I1 J1 q => ?_)
  obtain ⟨e1, h1, f1⟩ := q
  refine xr_aload2 dL_law_889 rfl ?_
  refine zr_a1 dL_law_890 dL_law_891 dL_law_892 dL_law_893 dL_law_894 hk hL ?_
  refine xr_cVi [.int (xs (k + 1))] dL_law_895 (xcv_of cf_X9_least ml_L_101 (by decide)) rfl lay_77 rfl rfl rfl (Nat.le_of_ble_eq_true rfl) (c9_least (S := S) (xs (k + 1)) (hm.cg (fun a ha => (f1 a ha).1))) (fun v2 I2 J2 q => ?_)
  obtain ⟨e2, h2, f2⟩ := q
  refine xr_icmp_eq 1259 dL_law_898 (by decide) (fun _ => ?_) (fun hne => absurd (e1.trans e2.symm) hne)
  exact kk I2 J2 S (h1.cg f2) h2
theorem lc_order (hk : k + 6 ≤ L) (hL : L ≤ 3072) (h : cIv I J S) (hm : mIv I S) (kk : ∀ I' J' S', cIv I' J' S' → mIv I' S' → xT G M_law (zQ b L xs) 1259 (zLV G b k) [] I' J') : xT G M_law (zQ b L xs) 903 (zLV G b k) [] I J := by
  refine xr_aload1 dL_law_903 rfl ?_
  refine zr_a1 dL_law_904 dL_law_905 dL_law_906 dL_law_907 dL_law_908 hk hL ?_
  refine zr_a2 dL_law_909 dL_law_910 dL_law_911 dL_law_912 dL_law_913 hk hL ?_
  refine xr_cVi [.int (xs (k + 1)), .int (xs (k + 2))] dL_law_914 (xcv_of cf_X8_order ml_L_102 (by decide)) rfl lay_0 rfl rfl rfl (Nat.le_of_ble_eq_true rfl) (w8_order (S := S) (xs (k + 1)) (xs (k + 2)) h) (fun v I1 J1 q => ?_)
  obtain ⟨e1, h1, f1⟩ := q
  refine xr_aload2 dL_law_917 rfl ?_
  refine zr_a1 dL_law_918 dL_law_919 dL_law_920 dL_law_921 dL_law_922 hk hL ?_
  refine zr_a2 dL_law_923 dL_law_924 dL_law_925 dL_law_926 dL_law_927 hk hL ?_
  refine xr_cVi [.int (xs (k + 1)), .int (xs (k + 2))] dL_law_928 (xcv_of cf_X9_order ml_L_105 (by decide)) rfl lay_77 rfl rfl rfl (Nat.le_of_ble_eq_true rfl) (c9_order (S := S) (xs (k + 1)) (xs (k + 2)) (hm.cg (fun a ha => (f1 a ha).1))) (fun v2 I2 J2 q => ?_)
  obtain ⟨e2, h2, f2⟩ := q
  refine xr_icmp_eq 1259 dL_law_931 (by decide) (fun _ => ?_) (fun hne => absurd (e1.trans e2.symm) hne)
  exact kk I2 J2 S (h1.cg f2) h2
theorem lc_orbits (hk : k + 6 ≤ L) (hL : L ≤ 3072) (h : cIv I J S) (hm : mIv I S) (kk : ∀ I' J' S', cIv I' J' S' → mIv I' S' → xT G M_law (zQ b L xs) 1259 (zLV G b k) [] I' J') : xT G M_law (zQ b L xs) 936 (zLV G b k) [] I J := by
  refine xr_aload1 dL_law_936 rfl ?_
  refine zr_a1 dL_law_937 dL_law_938 dL_law_939 dL_law_940 dL_law_941 hk hL ?_
  refine xr_cVi [.int (xs (k + 1))] dL_law_942 (xcv_of cf_X8_orbits ml_L_106 (by decide)) rfl lay_0 rfl rfl rfl (Nat.le_of_ble_eq_true rfl) (w8_orbits (S := S) (xs (k + 1)) h) (fun v I1 J1 q => ?_)
  obtain ⟨e1, h1, f1⟩ := q
  refine xr_aload2 dL_law_945 rfl ?_
  refine zr_a1 dL_law_946 dL_law_947 dL_law_948 dL_law_949 dL_law_950 hk hL ?_
  refine xr_cVi [.int (xs (k + 1))] dL_law_951 (xcv_of cf_X9_orbits ml_L_109 (by decide)) rfl lay_77 rfl rfl rfl (Nat.le_of_ble_eq_true rfl) (c9_orbits (S := S) (xs (k + 1)) (hm.cg (fun a ha => (f1 a ha).1))) (fun v2 I2 J2 q => ?_)
  obtain ⟨e2, h2, f2⟩ := q
  refine xr_icmp_eq 1259 dL_law_954 (by decide) (fun _ => ?_) (fun hne => absurd (e1.trans e2.symm) hne)
  exact kk I2 J2 S (h1.cg f2) h2
theorem lc_orbit (hk : k + 6 ≤ L) (hL : L ≤ 3072) (h : cIv I J S) (hm : mIv I S) (kk : ∀ I' J' S', cIv I' J' S' → mIv I' S' → xT G M_law (zQ b L xs) 1259 (zLV G b k) [] I' J') : xT G M_law (zQ b L xs) 959 (zLV G b k) [] I J := by
  refine xr_aload1 dL_law_959 rfl ?_
  refine zr_a1 dL_law_960 dL_law_961 dL_law_962 dL_law_963 dL_law_964 hk hL ?_
  refine xr_cVi [.int (xs (k + 1))] dL_law_965 (xcv_of cf_X8_orbit ml_L_110 (by decide)) rfl lay_0 rfl rfl rfl (Nat.le_of_ble_eq_true rfl) (w8_orbit (S := S) (xs (k + 1)) h) (fun v I1 J1 q => ?_)
  obtain ⟨e1, h1, f1⟩ := q
  refine xr_aload2 dL_law_968 rfl ?_
  refine zr_a1 dL_law_969 dL_law_970 dL_law_971 dL_law_972 dL_law_973 hk hL ?_
  refine xr_cVi [.int (xs (k + 1))] dL_law_974 (xcv_of cf_X9_orbit ml_L_113 (by decide)) rfl lay_77 rfl rfl rfl (Nat.le_of_ble_eq_true rfl) (c9_orbit (S := S) (xs (k + 1)) (hm.cg (fun a ha => (f1 a ha).1))) (fun v2 I2 J2 q => ?_)
  obtain ⟨e2, h2, f2⟩ := q
  refine xr_icmp_eq 1259 dL_law_977 (by decide) (fun _ => ?_) (fun hne => absurd (e1.trans e2.symm) hne)
  exact kk I2 J2 S (h1.cg f2) h2
theorem lc_far (hk : k + 6 ≤ L) (hL : L ≤ 3072) (h : cIv I J S) (hm : mIv I S) (kk : ∀ I' J' S', cIv I' J' S' → mIv I' S' → xT G M_law (zQ b L xs) 1259 (zLV G b k) [] I' J') : xT G M_law (zQ b L xs) 982 (zLV G b k) [] I J := by
  refine xr_aload1 dL_law_982 rfl ?_
  refine zr_a1 dL_law_983 dL_law_984 dL_law_985 dL_law_986 dL_law_987 hk hL ?_
  refine zr_a2 dL_law_988 dL_law_989 dL_law_990 dL_law_991 dL_law_992 hk hL ?_
  refine xr_cVi [.int (xs (k + 1)), .int (xs (k + 2))] dL_law_993 (xcv_of cf_X8_far ml_L_114 (by decide)) rfl lay_0 rfl rfl rfl (Nat.le_of_ble_eq_true rfl) (w8_far (S := S) (xs (k + 1)) (xs (k + 2)) h) (fun v I1 J1 q => ?_)
  obtain ⟨e1, h1, f1⟩ := q
  refine xr_aload2 dL_law_996 rfl ?_
  refine zr_a1 dL_law_997 dL_law_998 dL_law_999 dL_law_1000 dL_law_1001 hk hL ?_
  refine zr_a2 dL_law_1002 dL_law_1003 dL_law_1004 dL_law_1005 dL_law_1006 hk hL ?_
  refine xr_cVi [.int (xs (k + 1)), .int (xs (k + 2))] dL_law_1007 (xcv_of cf_X9_far ml_L_117 (by decide)) rfl lay_77 rfl rfl rfl (Nat.le_of_ble_eq_true rfl) (w9_far (S := S) (xs (k + 1)) (xs (k + 2)) (hm.cg (fun a ha => (f1 a ha).1))) (fun v2 I2 J2 q => ?_)
  obtain ⟨e2, h2, f2⟩ := q
  refine xr_icmp_eq 1259 dL_law_1010 (by decide) (fun _ => ?_) (fun hne => absurd (e1.trans e2.symm) hne)
  exact kk I2 J2 S (h1.cg f2) h2
theorem lc_way (hk : k + 6 ≤ L) (hL : L ≤ 3072) (h : cIv I J S) (hm : mIv I S) (kk : ∀ I' J' S', cIv I' J' S' → mIv I' S' → xT G M_law (zQ b L xs) 1259 (zLV G b k) [] I' J') : xT G M_law (zQ b L xs) 1015 (zLV G b k) [] I J := by
  refine xr_aload1 dL_law_1015 rfl ?_
  refine zr_a1 dL_law_1016 dL_law_1017 dL_law_1018 dL_law_1019 dL_law_1020 hk hL ?_
  refine zr_a2 dL_law_1021 dL_law_1022 dL_law_1023 dL_law_1024 dL_law_1025 hk hL ?_
  refine zr_a3 dL_law_1026 dL_law_1027 dL_law_1028 dL_law_1029 dL_law_1030 hk hL ?_
  refine xr_cVi [.int (xs (k + 1)), .int (xs (k + 2)), .int (xs (k + 3))] dL_law_1031 (xcv_of cf_X8_way ml_L_118 (by decide)) rfl lay_0 rfl rfl rfl (Nat.le_of_ble_eq_true rfl) (w8_way (S := S) (xs (k + 1)) (xs (k + 2)) (xs (k + 3)) h) (fun v I1 J1 q => ?_)
  obtain ⟨e1, h1, f1⟩ := q
  refine xr_aload2 dL_law_1034 rfl ?_
  refine zr_a1 dL_law_1035 dL_law_1036 dL_law_1037 dL_law_1038 dL_law_1039 hk hL ?_
  refine zr_a2 dL_law_1040 dL_law_1041 dL_law_1042 dL_law_1043 dL_law_1044 hk hL ?_
  refine zr_a3 dL_law_1045 dL_law_1046 dL_law_1047 dL_law_1048 dL_law_1049 hk hL ?_
  refine xr_cVi [.int (xs (k + 1)), .int (xs (k + 2)), .int (xs (k + 3))] dL_law_1050 (xcv_of cf_X9_way ml_L_121 (by decide)) rfl lay_77 rfl rfl rfl (Nat.le_of_ble_eq_true rfl) (c9_way (S := S) (xs (k + 1)) (xs (k + 2)) (xs (k + 3)) (hm.cg (fun a ha => (f1 a ha).1))) (fun v2 I2 J2 q => ?_)
  obtain ⟨e2, h2, f2⟩ := q
  refine xr_icmp_eq 1259 dL_law_1053 (by decide) (fun _ => ?_) (fun hne => absurd (e1.trans e2.symm) hne)
  exact kk I2 J2 S (h1.cg f2) h2
theorem lc_reach (hk : k + 6 ≤ L) (hL : L ≤ 3072) (h : cIv I J S) (hm : mIv I S) (kk : ∀ I' J' S', cIv I' J' S' → mIv I' S' → xT G M_law (zQ b L xs) 1259 (zLV G b k) [] I' J') : xT G M_law (zQ b L xs) 1058 (zLV G b k) [] I J := by
  refine xr_aload1 dL_law_1058 rfl ?_
  refine zr_a1 dL_law_1059 dL_law_1060 dL_law_1061 dL_law_1062 dL_law_1063 hk hL ?_
  refine xr_cVi [.int (xs (k + 1))] dL_law_1064 (xcv_of cf_X8_reach ml_L_122 (by decide)) rfl lay_0 rfl rfl rfl (Nat.le_of_ble_eq_true rfl) (w8_reach (S := S) (xs (k + 1)) h) (fun v I1 J1 q => ?_)
  obtain ⟨e1, h1, f1⟩ := q
  refine xr_aload2 dL_law_1067 rfl ?_
  refine zr_a1 dL_law_1068 dL_law_1069 dL_law_1070 dL_law_1071 dL_law_1072 hk hL ?_
  refine xr_cVi [.int (xs (k + 1))] dL_law_1073 (xcv_of cf_X9_reach ml_L_125 (by decide)) rfl lay_77 rfl rfl rfl (Nat.le_of_ble_eq_true rfl) (c9_reach (S := S) (xs (k + 1)) (hm.cg (fun a ha => (f1 a ha).1))) (fun v2 I2 J2 q => ?_)
  obtain ⟨e2, h2, f2⟩ := q
  refine xr_icmp_eq 1259 dL_law_1076 (by decide) (fun _ => ?_) (fun hne => absurd (e1.trans e2.symm) hne)
  exact kk I2 J2 S (h1.cg f2) h2
theorem lc_group (hk : k + 6 ≤ L) (hL : L ≤ 3072) (h : cIv I J S) (hm : mIv I S) (kk : ∀ I' J' S', cIv I' J' S' → mIv I' S' → xT G M_law (zQ b L xs) 1259 (zLV G b k) [] I' J') : xT G M_law (zQ b L xs) 1081 (zLV G b k) [] I J := by
  refine xr_aload1 dL_law_1081 rfl ?_
  refine zr_a1 dL_law_1082 dL_law_1083 dL_law_1084 dL_law_1085 dL_law_1086 hk hL ?_
  refine xr_cVi [.int (xs (k + 1))] dL_law_1087 (xcv_of cf_X8_group ml_L_126 (by decide)) rfl lay_0 rfl rfl rfl (Nat.le_of_ble_eq_true rfl) (w8_group (S := S) (xs (k + 1)) h) (fun v I1 J1 q => ?_)
  obtain ⟨e1, h1, f1⟩ := q
  refine xr_aload2 dL_law_1090 rfl ?_
  refine zr_a1 dL_law_1091 dL_law_1092 dL_law_1093 dL_law_1094 dL_law_1095 hk hL ?_
  refine xr_cVi [.int (xs (k + 1))] dL_law_1096 (xcv_of cf_X9_group ml_L_129 (by decide)) rfl lay_77 rfl rfl rfl (Nat.le_of_ble_eq_true rfl) (c9_group (S := S) (xs (k + 1)) (hm.cg (fun a ha => (f1 a ha).1))) (fun v2 I2 J2 q => ?_)
  obtain ⟨e2, h2, f2⟩ := q
  refine xr_icmp_eq 1259 dL_law_1099 (by decide) (fun _ => ?_) (fun hne => absurd (e1.trans e2.symm) hne)
  exact kk I2 J2 S (h1.cg f2) h2
theorem lc_growth (hk : k + 6 ≤ L) (hL : L ≤ 3072) (h : cIv I J S) (hm : mIv I S) (kk : ∀ I' J' S', cIv I' J' S' → mIv I' S' → xT G M_law (zQ b L xs) 1259 (zLV G b k) [] I' J') : xT G M_law (zQ b L xs) 1104 (zLV G b k) [] I J := by
  refine xr_aload1 dL_law_1104 rfl ?_
  refine zr_a1 dL_law_1105 dL_law_1106 dL_law_1107 dL_law_1108 dL_law_1109 hk hL ?_
  refine xr_cVi [.int (xs (k + 1))] dL_law_1110 (xcv_of cf_X8_growth ml_L_130 (by decide)) rfl lay_0 rfl rfl rfl (Nat.le_of_ble_eq_true rfl) (w8_growth (S := S) (xs (k + 1)) h) (fun v I1 J1 q => ?_)
  obtain ⟨e1, h1, f1⟩ := q
  refine xr_aload2 dL_law_1113 rfl ?_
  refine zr_a1 dL_law_1114 dL_law_1115 dL_law_1116 dL_law_1117 dL_law_1118 hk hL ?_
  refine xr_cVi [.int (xs (k + 1))] dL_law_1119 (xcv_of cf_X9_growth ml_L_133 (by decide)) rfl lay_77 rfl rfl rfl (Nat.le_of_ble_eq_true rfl) (c9_growth (S := S) (xs (k + 1)) (hm.cg (fun a ha => (f1 a ha).1))) (fun v2 I2 J2 q => ?_)
  obtain ⟨e2, h2, f2⟩ := q
  refine xr_icmp_eq 1259 dL_law_1122 (by decide) (fun _ => ?_) (fun hne => absurd (e1.trans e2.symm) hne)
  exact kk I2 J2 S (h1.cg f2) h2
theorem lc_laws (hk : k + 6 ≤ L) (hL : L ≤ 3072) (h : cIv I J S) (hm : mIv I S) (kk : ∀ I' J' S', cIv I' J' S' → mIv I' S' → xT G M_law (zQ b L xs) 1259 (zLV G b k) [] I' J') : xT G M_law (zQ b L xs) 1127 (zLV G b k) [] I J := by
  refine xr_aload1 dL_law_1127 rfl ?_
  refine zr_a1 dL_law_1128 dL_law_1129 dL_law_1130 dL_law_1131 dL_law_1132 hk hL ?_
  refine xr_cVi [.int (xs (k + 1))] dL_law_1133 (xcv_of cf_X8_laws ml_L_134 (by decide)) rfl lay_0 rfl rfl rfl (Nat.le_of_ble_eq_true rfl) (w8_laws (S := S) (xs (k + 1)) h) (fun v I1 J1 q => ?_)
  obtain ⟨e1, h1, f1⟩ := q
  refine xr_aload2 dL_law_1136 rfl ?_
  refine zr_a1 dL_law_1137 dL_law_1138 dL_law_1139 dL_law_1140 dL_law_1141 hk hL ?_
  refine xr_cVi [.int (xs (k + 1))] dL_law_1142 (xcv_of cf_X9_laws ml_L_137 (by decide)) rfl lay_77 rfl rfl rfl (Nat.le_of_ble_eq_true rfl) (c9_laws (S := S) (xs (k + 1)) (hm.cg (fun a ha => (f1 a ha).1))) (fun v2 I2 J2 q => ?_)
  obtain ⟨e2, h2, f2⟩ := q
  refine xr_icmp_eq 1259 dL_law_1145 (by decide) (fun _ => ?_) (fun hne => absurd (e1.trans e2.symm) hne)
  exact kk I2 J2 S (h1.cg f2) h2
theorem lc_law (hk : k + 6 ≤ L) (hL : L ≤ 3072) (h : cIv I J S) (hm : mIv I S) (kk : ∀ I' J' S', cIv I' J' S' → mIv I' S' → xT G M_law (zQ b L xs) 1259 (zLV G b k) [] I' J') : xT G M_law (zQ b L xs) 1150 (zLV G b k) [] I J := by
  refine xr_aload1 dL_law_1150 rfl ?_
  refine zr_a1 dL_law_1151 dL_law_1152 dL_law_1153 dL_law_1154 dL_law_1155 hk hL ?_
  refine zr_a2 dL_law_1156 dL_law_1157 dL_law_1158 dL_law_1159 dL_law_1160 hk hL ?_
  refine zr_a3 dL_law_1161 dL_law_1162 dL_law_1163 dL_law_1164 dL_law_1165 hk hL ?_
  refine xr_cVi [.int (xs (k + 1)), .int (xs (k + 2)), .int (xs (k + 3))] dL_law_1166 (xcv_of cf_X8_law ml_L_138 (by decide)) rfl lay_0 rfl rfl rfl (Nat.le_of_ble_eq_true rfl) (w8_law (S := S) (xs (k + 1)) (xs (k + 2)) (xs (k + 3)) h) (fun v I1 J1 q => ?_)
  obtain ⟨e1, h1, f1⟩ := q
  refine xr_aload2 dL_law_1169 rfl ?_
  refine zr_a1 dL_law_1170 dL_law_1171 dL_law_1172 dL_law_1173 dL_law_1174 hk hL ?_
  refine zr_a2 dL_law_1175 dL_law_1176 dL_law_1177 dL_law_1178 dL_law_1179 hk hL ?_
  refine zr_a3 dL_law_1180 dL_law_1181 dL_law_1182 dL_law_1183 dL_law_1184 hk hL ?_
  refine xr_cVi [.int (xs (k + 1)), .int (xs (k + 2)), .int (xs (k + 3))] dL_law_1185 (xcv_of cf_X9_law ml_L_141 (by decide)) rfl lay_77 rfl rfl rfl (Nat.le_of_ble_eq_true rfl) (c9_law (S := S) (xs (k + 1)) (xs (k + 2)) (xs (k + 3)) (hm.cg (fun a ha => (f1 a ha).1))) (fun v2 I2 J2 q => ?_)
  obtain ⟨e2, h2, f2⟩ := q
  refine xr_icmp_eq 1259 dL_law_1188 (by decide) (fun _ => ?_) (fun hne => absurd (e1.trans e2.symm) hne)
  exact kk I2 J2 (sp_law S (xs (k + 1)) (xs (k + 2)) (xs (k + 3))).2 (h1.cg f2) h2
theorem lc_fall (hk : k + 6 ≤ L) (hL : L ≤ 3072) (h : cIv I J S) (hm : mIv I S) (kk : ∀ I' J' S', cIv I' J' S' → mIv I' S' → xT G M_law (zQ b L xs) 1259 (zLV G b k) [] I' J') : xT G M_law (zQ b L xs) 1193 (zLV G b k) [] I J := by
  refine xr_aload1 dL_law_1193 rfl ?_
  refine zr_a1 dL_law_1194 dL_law_1195 dL_law_1196 dL_law_1197 dL_law_1198 hk hL ?_
  refine xr_cVi [.int (xs (k + 1))] dL_law_1199 (xcv_of cf_X8_fall ml_L_142 (by decide)) rfl lay_0 rfl rfl rfl (Nat.le_of_ble_eq_true rfl) (w8_fall (S := S) (xs (k + 1)) h) (fun v I1 J1 q => ?_)
  obtain ⟨e1, h1, f1⟩ := q
  refine xr_aload2 dL_law_1202 rfl ?_
  refine zr_a1 dL_law_1203 dL_law_1204 dL_law_1205 dL_law_1206 dL_law_1207 hk hL ?_
  refine xr_cVi [.int (xs (k + 1))] dL_law_1208 (xcv_of cf_X9_fall ml_L_145 (by decide)) rfl lay_77 rfl rfl rfl (Nat.le_of_ble_eq_true rfl) (w9_fall (S := S) (xs (k + 1)) (hm.cg (fun a ha => (f1 a ha).1))) (fun v2 I2 J2 q => ?_)
  obtain ⟨e2, h2, f2⟩ := q
  refine xr_icmp_eq 1259 dL_law_1211 (by decide) (fun _ => ?_) (fun hne => absurd (e1.trans e2.symm) hne)
  exact kk I2 J2 S (h1.cg f2) h2
theorem lc_fallen (hk : k + 6 ≤ L) (hL : L ≤ 3072) (h : cIv I J S) (hm : mIv I S) (kk : ∀ I' J' S', cIv I' J' S' → mIv I' S' → xT G M_law (zQ b L xs) 1259 (zLV G b k) [] I' J') : xT G M_law (zQ b L xs) 1216 (zLV G b k) [] I J := by
  refine xr_aload1 dL_law_1216 rfl ?_
  refine zr_a1 dL_law_1217 dL_law_1218 dL_law_1219 dL_law_1220 dL_law_1221 hk hL ?_
  refine zr_a2 dL_law_1222 dL_law_1223 dL_law_1224 dL_law_1225 dL_law_1226 hk hL ?_
  refine zr_a3 dL_law_1227 dL_law_1228 dL_law_1229 dL_law_1230 dL_law_1231 hk hL ?_
  refine xr_cVi [.int (xs (k + 1)), .int (xs (k + 2)), .int (xs (k + 3))] dL_law_1232 (xcv_of cf_X8_fallen ml_L_146 (by decide)) rfl lay_0 rfl rfl rfl (Nat.le_of_ble_eq_true rfl) (w8_fallen (S := S) (xs (k + 1)) (xs (k + 2)) (xs (k + 3)) h) (fun v I1 J1 q => ?_)
  obtain ⟨e1, h1, f1⟩ := q
  refine xr_aload2 dL_law_1235 rfl ?_
  refine zr_a1 dL_law_1236 dL_law_1237 dL_law_1238 dL_law_1239 dL_law_1240 hk hL ?_
  refine zr_a2 dL_law_1241 dL_law_1242 dL_law_1243 dL_law_1244 dL_law_1245 hk hL ?_
  refine zr_a3 dL_law_1246 dL_law_1247 dL_law_1248 dL_law_1249 dL_law_1250 hk hL ?_
  refine xr_cVi [.int (xs (k + 1)), .int (xs (k + 2)), .int (xs (k + 3))] dL_law_1251 (xcv_of cf_X9_fallen ml_L_149 (by decide)) rfl lay_77 rfl rfl rfl (Nat.le_of_ble_eq_true rfl) (c9_fallen (S := S) (xs (k + 1)) (xs (k + 2)) (xs (k + 3)) (hm.cg (fun a ha => (f1 a ha).1))) (fun v2 I2 J2 q => ?_)
  obtain ⟨e2, h2, f2⟩ := q
  refine xr_icmp_eq 1259 dL_law_1254 (by decide) (fun _ => ?_) (fun hne => absurd (e1.trans e2.symm) hne)
  exact kk I2 J2 (sp_fallen S (xs (k + 1)) (xs (k + 2)) (xs (k + 3))).2 (h1.cg f2) h2
theorem z_le {k L : Nat} (hk : k ≤ L) (hL : L ≤ 3072) (h : ¬ nI L - 6 < nI k) : k + 6 ≤ L := by
  have e1 : (nI L - 6).toInt = (L : Int) - 6 := by
    rw [Int32.toInt_sub, nI_toInt (by omega)]
    show ((L : Int) - 6).bmod (2 ^ 32) = _
    rw [Int.bmod_def]
    split <;> omega
  have e2 := nI_toInt (n := k) (by omega)
  rw [Int32.lt_iff_toInt_lt, e1, e2] at h
  omega
theorem z_and (x : Int32) : ∃ j : Nat, j < 64 ∧ x &&& 63 = nI j := by
  refine ⟨(x &&& 63).toBitVec.toNat, ?_, ?_⟩
  · show (x.toBitVec &&& 63#32).toNat < 64
    rw [BitVec.toNat_and]
    exact Nat.lt_of_le_of_lt Nat.and_le_right (by decide)
  · apply Int32.toBitVec_inj.mp
    rw [nI, Int32.toBitVec_ofNat', BitVec.ofNat_toNat, BitVec.setWidth_eq]
theorem law_loop (hL : L ≤ 3072) : ∀ (n k : Nat) (S : xSt) (I : xI) (J : xJ), k ≤ L → L < k + n → cIv I J S → mIv I S → xT G M_law (zQ b L xs) 18 (zLV G b k) [] I J := by
  intro n
  induction n with
  | zero => intro k S I J h1 h2; omega
  | succ n ih =>
    intro k S I J hkL hkn h hm
    refine xr_iload3 dL_law_18 rfl ?_
    refine xr_aload0 dL_law_19 rfl ?_
    refine zr_slen dL_law_20 ?_
    refine xr_bip (v := 6) (by decide) dL_law_21 ?_
    refine xr_isub dL_law_23 ?_
    refine xr_icmp_gt 1265 dL_law_24 (by decide) (fun _ => ?_) (fun hc => ?_)
    · refine xr_ic1 dL_law_1265 ?_
      exact zr_ret dL_law_1266
    have hk := z_le hkL hL hc
    have kk : ∀ I' J' S', cIv I' J' S' → mIv I' S' → xT G M_law (zQ b L xs) 1259 (zLV G b k) [] I' J' := by
      intro I' J' S' h' hm'
      refine xr_iinc dL_law_1259 rfl (d := 6) (by decide) (by decide) ?_
      refine xr_goto 18 dL_law_1262 (by decide) ?_
      show xT _ _ _ _ [some (.ref b), some (.ref (G.1 0)), some (.ref (G.1 77)), some (.int (nI k + nI 6))] _ _ _
      rw [nI_add]
      exact ih (k + 6) S' I' J' hk (by omega) h' hm'
    refine xr_aload0 dL_law_27 rfl ?_
    refine xr_iload3 dL_law_28 rfl ?_
    refine zr_sld k dL_law_29 rfl (by omega) (by omega) ?_
    refine xr_bip (v := 63) (by decide) dL_law_30 ?_
    refine xr_iand dL_law_32 ?_
    obtain ⟨j, hj, ej⟩ := z_and (xs k)
    rw [ej]
    have hd : j = 0 ∨ j = 1 ∨ j = 2 ∨ j = 3 ∨ j = 4 ∨ j = 5 ∨ j = 6 ∨ j = 7 ∨ j = 8 ∨ j = 9 ∨ j = 10 ∨ j = 11 ∨ j = 12 ∨ j = 13 ∨ j = 14 ∨ j = 15 ∨ j = 16 ∨ j = 17 ∨ j = 18 ∨ j = 19 ∨ j = 20 ∨ j = 21 ∨ j = 22 ∨ j = 23 ∨ j = 24 ∨ j = 25 ∨ j = 26 ∨ j = 27 ∨ j = 28 ∨ j = 29 ∨ j = 30 ∨ j = 31 ∨ j = 32 ∨ 33 ≤ j := by omega
    rcases hd with rfl | rfl | rfl | rfl | rfl | rfl | rfl | rfl | rfl | rfl | rfl | rfl | rfl | rfl | rfl | rfl | rfl | rfl | rfl | rfl | rfl | rfl | rfl | rfl | rfl | rfl | rfl | rfl | rfl | rfl | rfl | rfl | rfl | hj2
    · exact xr_tabIn 180 dL_law_33 (by decide) (by decide) rfl (by decide) (lc_sheet hk hL h hm kk)
    · exact xr_tabIn 223 dL_law_33 (by decide) (by decide) rfl (by decide) (lc_cell hk hL h hm kk)
    · exact xr_tabIn 266 dL_law_33 (by decide) (by decide) rfl (by decide) (lc_told hk hL h hm kk)
    · exact xr_tabIn 299 dL_law_33 (by decide) (by decide) rfl (by decide) (lc_lose hk hL h hm kk)
    · exact xr_tabIn 322 dL_law_33 (by decide) (by decide) rfl (by decide) (lc_letters hk hL h hm kk)
    · exact xr_tabIn 345 dL_law_33 (by decide) (by decide) rfl (by decide) (lc_state hk hL h hm kk)
    · exact xr_tabIn 378 dL_law_33 (by decide) (by decide) rfl (by decide) (lc_change hk hL h hm kk)
    · exact xr_tabIn 431 dL_law_33 (by decide) (by decide) rfl (by decide) (lc_of hk hL h hm kk)
    · exact xr_tabIn 474 dL_law_33 (by decide) (by decide) rfl (by decide) (lc_many hk hL h hm kk)
    · exact xr_tabIn 497 dL_law_33 (by decide) (by decide) rfl (by decide) (lc_put hk hL h hm kk)
    · exact xr_tabIn 560 dL_law_33 (by decide) (by decide) rfl (by decide) (lc_wipe hk hL h hm kk)
    · exact xr_tabIn 583 dL_law_33 (by decide) (by decide) rfl (by decide) (lc_size hk hL h hm kk)
    · exact xr_tabIn 606 dL_law_33 (by decide) (by decide) rfl (by decide) (lc_token hk hL h hm kk)
    · exact xr_tabIn 639 dL_law_33 (by decide) (by decide) rfl (by decide) (lc_times hk hL h hm kk)
    · exact xr_tabIn 682 dL_law_33 (by decide) (by decide) rfl (by decide) (lc_turn hk hL h hm kk)
    · exact xr_tabIn 715 dL_law_33 (by decide) (by decide) rfl (by decide) (lc_act hk hL h hm kk)
    · exact xr_tabIn 748 dL_law_33 (by decide) (by decide) rfl (by decide) (lc_part hk hL h hm kk)
    · exact xr_tabIn 791 dL_law_33 (by decide) (by decide) rfl (by decide) (lc_same hk hL h hm kk)
    · exact xr_tabIn 824 dL_law_33 (by decide) (by decide) rfl (by decide) (lc_apart hk hL h hm kk)
    · exact xr_tabIn 857 dL_law_33 (by decide) (by decide) rfl (by decide) (lc_heap hk hL h hm kk)
    · exact xr_tabIn 880 dL_law_33 (by decide) (by decide) rfl (by decide) (lc_least hk hL h hm kk)
    · exact xr_tabIn 903 dL_law_33 (by decide) (by decide) rfl (by decide) (lc_order hk hL h hm kk)
    · exact xr_tabIn 936 dL_law_33 (by decide) (by decide) rfl (by decide) (lc_orbits hk hL h hm kk)
    · exact xr_tabIn 959 dL_law_33 (by decide) (by decide) rfl (by decide) (lc_orbit hk hL h hm kk)
    · exact xr_tabIn 982 dL_law_33 (by decide) (by decide) rfl (by decide) (lc_far hk hL h hm kk)
    · exact xr_tabIn 1015 dL_law_33 (by decide) (by decide) rfl (by decide) (lc_way hk hL h hm kk)
    · exact xr_tabIn 1058 dL_law_33 (by decide) (by decide) rfl (by decide) (lc_reach hk hL h hm kk)
    · exact xr_tabIn 1081 dL_law_33 (by decide) (by decide) rfl (by decide) (lc_group hk hL h hm kk)
    · exact xr_tabIn 1104 dL_law_33 (by decide) (by decide) rfl (by decide) (lc_growth hk hL h hm kk)
    · exact xr_tabIn 1127 dL_law_33 (by decide) (by decide) rfl (by decide) (lc_laws hk hL h hm kk)
    · exact xr_tabIn 1150 dL_law_33 (by decide) (by decide) rfl (by decide) (lc_law hk hL h hm kk)
    · exact xr_tabIn 1193 dL_law_33 (by decide) (by decide) rfl (by decide) (lc_fall hk hL h hm kk)
    · exact xr_tabIn 1216 dL_law_33 (by decide) (by decide) rfl (by decide) (lc_fallen hk hL h hm kk)
    · exact xr_tabOut 1259 dL_law_33 (Or.inr (by rw [nI_toInt (by omega)]; omega)) (by decide) (kk I J S h hm)
end C4
