/-! the reference, 0 -/
def ShM_cl : List (Nat × Nat) := [(12, 0), (20, 144), (20, 10), (20, 80), (20, 80), (20, 80), (20, 70), (21, 80), (21, 560), (20, 12), (20, 1000), (20, 1000), (20, 1000), (20, 1000), (20, 70), (20, 12000), (20, 12000), (20, 12000), (20, 12000), (20, 1000), (20, 12), (20, 6), (20, 6), (20, 6), (20, 6), (20, 6), (20, 6), (20, 6), (20, 6), (20, 6), (20, 150), (20, 144), (20, 7320), (20, 25), (20, 24), (20, 1220), (20, 600), (20, 620), (20, 120), (20, 120), (20, 120), (20, 120), (20, 120), (20, 120), (20, 120), (20, 120), (20, 120), (20, 120), (20, 120), (20, 120), (20, 120), (20, 120), (21, 120), (21, 120), (21, 120), (20, 120), (20, 120), (20, 120), (20, 120), (20, 120), (20, 70), (21, 120), (20, 120000), (20, 120000), (20, 120000), (20, 8), (20, 8), (20, 8), (20, 8), (20, 8), (20, 120), (20, 480), (20, 480), (20, 20), (20, 20), (20, 20), (20, 20), (20, 2400), (20, 10), (20, 10), (20, 10), (20, 120), (20, 120), (20, 120), (20, 120), (20, 120), (20, 120), (20, 120), (20, 70), (21, 120)]
def ShM_rf : List (Nat × Nat × Option Nat) := [(326, 3, some 327), (326, 4, some 328), (326, 5, some 329), (326, 6, some 330), (326, 7, some 331), (326, 8, some 332), (326, 9, some 333), (326, 10, some 334), (326, 11, some 335), (326, 14, some 336), (326, 15, some 337), (326, 16, some 338), (326, 17, some 339), (326, 18, some 340), (326, 19, some 341), (326, 20, some 342), (326, 21, some 343), (326, 22, some 344), (326, 23, some 345), (326, 24, some 346), (326, 26, some 347), (326, 27, some 348), (326, 28, some 349), (326, 29, some 350), (326, 30, some 351), (326, 31, some 352), (326, 32, some 353), (326, 33, some 354), (326, 34, some 355), (326, 35, some 356), (326, 36, some 357), (326, 37, some 358), (326, 38, some 359), (326, 39, some 360), (326, 40, some 361), (326, 41, some 362), (326, 42, some 363), (326, 64, some 364), (326, 65, some 365), (326, 66, some 366), (326, 67, some 367), (326, 68, some 368), (326, 69, some 369), (326, 70, some 370), (326, 71, some 371), (326, 72, some 372), (326, 73, some 373), (326, 74, some 374), (326, 75, some 375), (326, 76, some 376), (326, 77, some 377), (326, 78, some 378), (326, 79, some 379), (326, 80, some 380), (326, 81, some 381), (326, 82, some 382), (326, 83, some 383), (326, 84, some 384), (326, 85, some 385), (326, 86, some 386), (326, 87, some 387), (326, 88, some 388), (326, 89, some 389), (326, 90, some 390), (326, 91, some 391), (326, 93, some 392), (326, 94, some 393), (326, 95, some 394), (326, 96, some 395), (326, 97, some 396), (326, 98, some 397), (326, 99, some 398), (326, 101, some 399), (326, 102, some 400), (326, 103, some 401), (326, 104, some 402), (326, 105, some 403), (326, 106, some 404), (326, 107, some 405), (326, 108, some 406), (326, 109, some 407), (326, 110, some 408), (326, 111, some 409), (326, 112, some 410), (326, 113, some 411), (326, 114, some 412), (326, 115, some 413), (326, 116, some 414), (326, 117, some 415)]
/-- the cells that are made once: their classes, their lengths, what they refer to -/
def ShM (h : ea_H) : Prop := (∀ b, b < 90 → 326 + b < ea_n h ∧ ea_c h (326 + b) = (ShM_cl.getD b (0, 0)).1 ∧ ea_l h (326 + b) = (ShM_cl.getD b (0, 0)).2) ∧ ∀ q ∈ ShM_rf, ea_r h q.1 q.2.1 = q.2.2
theorem ShM_core {h h' : ea_H} (e : ea_core h' = ea_core h) (hs : ShM h) : ShM h' := by
  obtain ⟨e1, e2, e3, e4⟩ := ea_core_eq e
  unfold ShM
  rw [e1, e2, e3, e4]
  exact hs
theorem cShM_326 {h : ea_H} (hs : ShM h) : 326 < ea_n h ∧ ea_c h 326 = 12 ∧ ea_l h 326 = 0 := hs.1 0 (by decide)
theorem cShM_327 {h : ea_H} (hs : ShM h) : 327 < ea_n h ∧ ea_c h 327 = 20 ∧ ea_l h 327 = 144 := hs.1 1 (by decide)
theorem cShM_328 {h : ea_H} (hs : ShM h) : 328 < ea_n h ∧ ea_c h 328 = 20 ∧ ea_l h 328 = 10 := hs.1 2 (by decide)
theorem cShM_329 {h : ea_H} (hs : ShM h) : 329 < ea_n h ∧ ea_c h 329 = 20 ∧ ea_l h 329 = 80 := hs.1 3 (by decide)
theorem cShM_330 {h : ea_H} (hs : ShM h) : 330 < ea_n h ∧ ea_c h 330 = 20 ∧ ea_l h 330 = 80 := hs.1 4 (by decide)
theorem cShM_331 {h : ea_H} (hs : ShM h) : 331 < ea_n h ∧ ea_c h 331 = 20 ∧ ea_l h 331 = 80 := hs.1 5 (by decide)
theorem cShM_332 {h : ea_H} (hs : ShM h) : 332 < ea_n h ∧ ea_c h 332 = 20 ∧ ea_l h 332 = 70 := hs.1 6 (by decide)
theorem cShM_333 {h : ea_H} (hs : ShM h) : 333 < ea_n h ∧ ea_c h 333 = 21 ∧ ea_l h 333 = 80 := hs.1 7 (by decide)
theorem cShM_334 {h : ea_H} (hs : ShM h) : 334 < ea_n h ∧ ea_c h 334 = 21 ∧ ea_l h 334 = 560 := hs.1 8 (by decide)
theorem cShM_335 {h : ea_H} (hs : ShM h) : 335 < ea_n h ∧ ea_c h 335 = 20 ∧ ea_l h 335 = 12 := hs.1 9 (by decide)
theorem cShM_336 {h : ea_H} (hs : ShM h) : 336 < ea_n h ∧ ea_c h 336 = 20 ∧ ea_l h 336 = 1000 := hs.1 10 (by decide)
theorem cShM_337 {h : ea_H} (hs : ShM h) : 337 < ea_n h ∧ ea_c h 337 = 20 ∧ ea_l h 337 = 1000 := hs.1 11 (by decide)
theorem cShM_338 {h : ea_H} (hs : ShM h) : 338 < ea_n h ∧ ea_c h 338 = 20 ∧ ea_l h 338 = 1000 := hs.1 12 (by decide)
theorem cShM_339 {h : ea_H} (hs : ShM h) : 339 < ea_n h ∧ ea_c h 339 = 20 ∧ ea_l h 339 = 1000 := hs.1 13 (by decide)
theorem cShM_340 {h : ea_H} (hs : ShM h) : 340 < ea_n h ∧ ea_c h 340 = 20 ∧ ea_l h 340 = 70 := hs.1 14 (by decide)
theorem cShM_341 {h : ea_H} (hs : ShM h) : 341 < ea_n h ∧ ea_c h 341 = 20 ∧ ea_l h 341 = 12000 := hs.1 15 (by decide)
theorem cShM_342 {h : ea_H} (hs : ShM h) : 342 < ea_n h ∧ ea_c h 342 = 20 ∧ ea_l h 342 = 12000 := hs.1 16 (by decide)
theorem cShM_343 {h : ea_H} (hs : ShM h) : 343 < ea_n h ∧ ea_c h 343 = 20 ∧ ea_l h 343 = 12000 := hs.1 17 (by decide)
theorem cShM_344 {h : ea_H} (hs : ShM h) : 344 < ea_n h ∧ ea_c h 344 = 20 ∧ ea_l h 344 = 12000 := hs.1 18 (by decide)
theorem cShM_345 {h : ea_H} (hs : ShM h) : 345 < ea_n h ∧ ea_c h 345 = 20 ∧ ea_l h 345 = 1000 := hs.1 19 (by decide)
theorem cShM_346 {h : ea_H} (hs : ShM h) : 346 < ea_n h ∧ ea_c h 346 = 20 ∧ ea_l h 346 = 12 := hs.1 20 (by decide)
theorem cShM_347 {h : ea_H} (hs : ShM h) : 347 < ea_n h ∧ ea_c h 347 = 20 ∧ ea_l h 347 = 6 := hs.1 21 (by decide)
theorem cShM_348 {h : ea_H} (hs : ShM h) : 348 < ea_n h ∧ ea_c h 348 = 20 ∧ ea_l h 348 = 6 := hs.1 22 (by decide)
theorem cShM_349 {h : ea_H} (hs : ShM h) : 349 < ea_n h ∧ ea_c h 349 = 20 ∧ ea_l h 349 = 6 := hs.1 23 (by decide)
theorem cShM_350 {h : ea_H} (hs : ShM h) : 350 < ea_n h ∧ ea_c h 350 = 20 ∧ ea_l h 350 = 6 := hs.1 24 (by decide)
theorem cShM_351 {h : ea_H} (hs : ShM h) : 351 < ea_n h ∧ ea_c h 351 = 20 ∧ ea_l h 351 = 6 := hs.1 25 (by decide)
theorem cShM_352 {h : ea_H} (hs : ShM h) : 352 < ea_n h ∧ ea_c h 352 = 20 ∧ ea_l h 352 = 6 := hs.1 26 (by decide)
theorem cShM_353 {h : ea_H} (hs : ShM h) : 353 < ea_n h ∧ ea_c h 353 = 20 ∧ ea_l h 353 = 6 := hs.1 27 (by decide)
theorem cShM_354 {h : ea_H} (hs : ShM h) : 354 < ea_n h ∧ ea_c h 354 = 20 ∧ ea_l h 354 = 6 := hs.1 28 (by decide)
theorem cShM_355 {h : ea_H} (hs : ShM h) : 355 < ea_n h ∧ ea_c h 355 = 20 ∧ ea_l h 355 = 6 := hs.1 29 (by decide)
theorem cShM_356 {h : ea_H} (hs : ShM h) : 356 < ea_n h ∧ ea_c h 356 = 20 ∧ ea_l h 356 = 150 := hs.1 30 (by decide)
theorem cShM_357 {h : ea_H} (hs : ShM h) : 357 < ea_n h ∧ ea_c h 357 = 20 ∧ ea_l h 357 = 144 := hs.1 31 (by decide)
theorem cShM_358 {h : ea_H} (hs : ShM h) : 358 < ea_n h ∧ ea_c h 358 = 20 ∧ ea_l h 358 = 7320 := hs.1 32 (by decide)
theorem cShM_359 {h : ea_H} (hs : ShM h) : 359 < ea_n h ∧ ea_c h 359 = 20 ∧ ea_l h 359 = 25 := hs.1 33 (by decide)
theorem cShM_360 {h : ea_H} (hs : ShM h) : 360 < ea_n h ∧ ea_c h 360 = 20 ∧ ea_l h 360 = 24 := hs.1 34 (by decide)
theorem cShM_361 {h : ea_H} (hs : ShM h) : 361 < ea_n h ∧ ea_c h 361 = 20 ∧ ea_l h 361 = 1220 := hs.1 35 (by decide)
theorem cShM_362 {h : ea_H} (hs : ShM h) : 362 < ea_n h ∧ ea_c h 362 = 20 ∧ ea_l h 362 = 600 := hs.1 36 (by decide)
theorem cShM_363 {h : ea_H} (hs : ShM h) : 363 < ea_n h ∧ ea_c h 363 = 20 ∧ ea_l h 363 = 620 := hs.1 37 (by decide)
theorem cShM_364 {h : ea_H} (hs : ShM h) : 364 < ea_n h ∧ ea_c h 364 = 20 ∧ ea_l h 364 = 120 := hs.1 38 (by decide)
theorem cShM_365 {h : ea_H} (hs : ShM h) : 365 < ea_n h ∧ ea_c h 365 = 20 ∧ ea_l h 365 = 120 := hs.1 39 (by decide)
theorem cShM_366 {h : ea_H} (hs : ShM h) : 366 < ea_n h ∧ ea_c h 366 = 20 ∧ ea_l h 366 = 120 := hs.1 40 (by decide)
theorem cShM_367 {h : ea_H} (hs : ShM h) : 367 < ea_n h ∧ ea_c h 367 = 20 ∧ ea_l h 367 = 120 := hs.1 41 (by decide)
theorem cShM_368 {h : ea_H} (hs : ShM h) : 368 < ea_n h ∧ ea_c h 368 = 20 ∧ ea_l h 368 = 120 := hs.1 42 (by decide)
theorem cShM_369 {h : ea_H} (hs : ShM h) : 369 < ea_n h ∧ ea_c h 369 = 20 ∧ ea_l h 369 = 120 := hs.1 43 (by decide)
theorem cShM_370 {h : ea_H} (hs : ShM h) : 370 < ea_n h ∧ ea_c h 370 = 20 ∧ ea_l h 370 = 120 := hs.1 44 (by decide)
theorem cShM_371 {h : ea_H} (hs : ShM h) : 371 < ea_n h ∧ ea_c h 371 = 20 ∧ ea_l h 371 = 120 := hs.1 45 (by decide)
theorem cShM_372 {h : ea_H} (hs : ShM h) : 372 < ea_n h ∧ ea_c h 372 = 20 ∧ ea_l h 372 = 120 := hs.1 46 (by decide)
theorem cShM_373 {h : ea_H} (hs : ShM h) : 373 < ea_n h ∧ ea_c h 373 = 20 ∧ ea_l h 373 = 120 := hs.1 47 (by decide)
theorem cShM_374 {h : ea_H} (hs : ShM h) : 374 < ea_n h ∧ ea_c h 374 = 20 ∧ ea_l h 374 = 120 := hs.1 48 (by decide)
theorem cShM_375 {h : ea_H} (hs : ShM h) : 375 < ea_n h ∧ ea_c h 375 = 20 ∧ ea_l h 375 = 120 := hs.1 49 (by decide)
theorem cShM_376 {h : ea_H} (hs : ShM h) : 376 < ea_n h ∧ ea_c h 376 = 20 ∧ ea_l h 376 = 120 := hs.1 50 (by decide)
theorem cShM_377 {h : ea_H} (hs : ShM h) : 377 < ea_n h ∧ ea_c h 377 = 20 ∧ ea_l h 377 = 120 := hs.1 51 (by decide)
theorem cShM_378 {h : ea_H} (hs : ShM h) : 378 < ea_n h ∧ ea_c h 378 = 21 ∧ ea_l h 378 = 120 := hs.1 52 (by decide)
theorem cShM_379 {h : ea_H} (hs : ShM h) : 379 < ea_n h ∧ ea_c h 379 = 21 ∧ ea_l h 379 = 120 := hs.1 53 (by decide)
theorem cShM_380 {h : ea_H} (hs : ShM h) : 380 < ea_n h ∧ ea_c h 380 = 21 ∧ ea_l h 380 = 120 := hs.1 54 (by decide)
theorem cShM_381 {h : ea_H} (hs : ShM h) : 381 < ea_n h ∧ ea_c h 381 = 20 ∧ ea_l h 381 = 120 := hs.1 55 (by decide)
theorem cShM_382 {h : ea_H} (hs : ShM h) : 382 < ea_n h ∧ ea_c h 382 = 20 ∧ ea_l h 382 = 120 := hs.1 56 (by decide)
theorem cShM_383 {h : ea_H} (hs : ShM h) : 383 < ea_n h ∧ ea_c h 383 = 20 ∧ ea_l h 383 = 120 := hs.1 57 (by decide)
theorem cShM_384 {h : ea_H} (hs : ShM h) : 384 < ea_n h ∧ ea_c h 384 = 20 ∧ ea_l h 384 = 120 := hs.1 58 (by decide)
theorem cShM_385 {h : ea_H} (hs : ShM h) : 385 < ea_n h ∧ ea_c h 385 = 20 ∧ ea_l h 385 = 120 := hs.1 59 (by decide)
theorem cShM_386 {h : ea_H} (hs : ShM h) : 386 < ea_n h ∧ ea_c h 386 = 20 ∧ ea_l h 386 = 70 := hs.1 60 (by decide)
theorem cShM_387 {h : ea_H} (hs : ShM h) : 387 < ea_n h ∧ ea_c h 387 = 21 ∧ ea_l h 387 = 120 := hs.1 61 (by decide)
theorem cShM_388 {h : ea_H} (hs : ShM h) : 388 < ea_n h ∧ ea_c h 388 = 20 ∧ ea_l h 388 = 120000 := hs.1 62 (by decide)
theorem cShM_389 {h : ea_H} (hs : ShM h) : 389 < ea_n h ∧ ea_c h 389 = 20 ∧ ea_l h 389 = 120000 := hs.1 63 (by decide)
theorem cShM_390 {h : ea_H} (hs : ShM h) : 390 < ea_n h ∧ ea_c h 390 = 20 ∧ ea_l h 390 = 120000 := hs.1 64 (by decide)
theorem cShM_391 {h : ea_H} (hs : ShM h) : 391 < ea_n h ∧ ea_c h 391 = 20 ∧ ea_l h 391 = 8 := hs.1 65 (by decide)
theorem cShM_392 {h : ea_H} (hs : ShM h) : 392 < ea_n h ∧ ea_c h 392 = 20 ∧ ea_l h 392 = 8 := hs.1 66 (by decide)
theorem cShM_393 {h : ea_H} (hs : ShM h) : 393 < ea_n h ∧ ea_c h 393 = 20 ∧ ea_l h 393 = 8 := hs.1 67 (by decide)
theorem cShM_394 {h : ea_H} (hs : ShM h) : 394 < ea_n h ∧ ea_c h 394 = 20 ∧ ea_l h 394 = 8 := hs.1 68 (by decide)
theorem cShM_395 {h : ea_H} (hs : ShM h) : 395 < ea_n h ∧ ea_c h 395 = 20 ∧ ea_l h 395 = 8 := hs.1 69 (by decide)
theorem cShM_396 {h : ea_H} (hs : ShM h) : 396 < ea_n h ∧ ea_c h 396 = 20 ∧ ea_l h 396 = 120 := hs.1 70 (by decide)
theorem cShM_397 {h : ea_H} (hs : ShM h) : 397 < ea_n h ∧ ea_c h 397 = 20 ∧ ea_l h 397 = 480 := hs.1 71 (by decide)
theorem cShM_398 {h : ea_H} (hs : ShM h) : 398 < ea_n h ∧ ea_c h 398 = 20 ∧ ea_l h 398 = 480 := hs.1 72 (by decide)
theorem cShM_399 {h : ea_H} (hs : ShM h) : 399 < ea_n h ∧ ea_c h 399 = 20 ∧ ea_l h 399 = 20 := hs.1 73 (by decide)
theorem cShM_400 {h : ea_H} (hs : ShM h) : 400 < ea_n h ∧ ea_c h 400 = 20 ∧ ea_l h 400 = 20 := hs.1 74 (by decide)
theorem cShM_401 {h : ea_H} (hs : ShM h) : 401 < ea_n h ∧ ea_c h 401 = 20 ∧ ea_l h 401 = 20 := hs.1 75 (by decide)
theorem cShM_402 {h : ea_H} (hs : ShM h) : 402 < ea_n h ∧ ea_c h 402 = 20 ∧ ea_l h 402 = 20 := hs.1 76 (by decide)
theorem cShM_403 {h : ea_H} (hs : ShM h) : 403 < ea_n h ∧ ea_c h 403 = 20 ∧ ea_l h 403 = 2400 := hs.1 77 (by decide)
theorem cShM_404 {h : ea_H} (hs : ShM h) : 404 < ea_n h ∧ ea_c h 404 = 20 ∧ ea_l h 404 = 10 := hs.1 78 (by decide)
theorem cShM_405 {h : ea_H} (hs : ShM h) : 405 < ea_n h ∧ ea_c h 405 = 20 ∧ ea_l h 405 = 10 := hs.1 79 (by decide)
theorem cShM_406 {h : ea_H} (hs : ShM h) : 406 < ea_n h ∧ ea_c h 406 = 20 ∧ ea_l h 406 = 10 := hs.1 80 (by decide)
theorem cShM_407 {h : ea_H} (hs : ShM h) : 407 < ea_n h ∧ ea_c h 407 = 20 ∧ ea_l h 407 = 120 := hs.1 81 (by decide)
theorem cShM_408 {h : ea_H} (hs : ShM h) : 408 < ea_n h ∧ ea_c h 408 = 20 ∧ ea_l h 408 = 120 := hs.1 82 (by decide)
theorem cShM_409 {h : ea_H} (hs : ShM h) : 409 < ea_n h ∧ ea_c h 409 = 20 ∧ ea_l h 409 = 120 := hs.1 83 (by decide)
theorem cShM_410 {h : ea_H} (hs : ShM h) : 410 < ea_n h ∧ ea_c h 410 = 20 ∧ ea_l h 410 = 120 := hs.1 84 (by decide)
theorem cShM_411 {h : ea_H} (hs : ShM h) : 411 < ea_n h ∧ ea_c h 411 = 20 ∧ ea_l h 411 = 120 := hs.1 85 (by decide)
theorem cShM_412 {h : ea_H} (hs : ShM h) : 412 < ea_n h ∧ ea_c h 412 = 20 ∧ ea_l h 412 = 120 := hs.1 86 (by decide)
theorem cShM_413 {h : ea_H} (hs : ShM h) : 413 < ea_n h ∧ ea_c h 413 = 20 ∧ ea_l h 413 = 120 := hs.1 87 (by decide)
theorem cShM_414 {h : ea_H} (hs : ShM h) : 414 < ea_n h ∧ ea_c h 414 = 20 ∧ ea_l h 414 = 70 := hs.1 88 (by decide)
theorem cShM_415 {h : ea_H} (hs : ShM h) : 415 < ea_n h ∧ ea_c h 415 = 21 ∧ ea_l h 415 = 120 := hs.1 89 (by decide)
theorem rShM_326_3 {h : ea_H} (hs : ShM h) : ea_r h 326 3 = some 327 := hs.2 (326, 3, some 327) (List.mem_of_getElem? (i := 0) rfl)
theorem rShM_326_4 {h : ea_H} (hs : ShM h) : ea_r h 326 4 = some 328 := hs.2 (326, 4, some 328) (List.mem_of_getElem? (i := 1) rfl)
theorem rShM_326_5 {h : ea_H} (hs : ShM h) : ea_r h 326 5 = some 329 := hs.2 (326, 5, some 329) (List.mem_of_getElem? (i := 2) rfl)
theorem rShM_326_6 {h : ea_H} (hs : ShM h) : ea_r h 326 6 = some 330 := hs.2 (326, 6, some 330) (List.mem_of_getElem? (i := 3) rfl)
theorem rShM_326_7 {h : ea_H} (hs : ShM h) : ea_r h 326 7 = some 331 := hs.2 (326, 7, some 331) (List.mem_of_getElem? (i := 4) rfl)
theorem rShM_326_8 {h : ea_H} (hs : ShM h) : ea_r h 326 8 = some 332 := hs.2 (326, 8, some 332) (List.mem_of_getElem? (i := 5) rfl)
theorem rShM_326_9 {h : ea_H} (hs : ShM h) : ea_r h 326 9 = some 333 := hs.2 (326, 9, some 333) (List.mem_of_getElem? (i := 6) rfl)
theorem rShM_326_10 {h : ea_H} (hs : ShM h) : ea_r h 326 10 = some 334 := hs.2 (326, 10, some 334) (List.mem_of_getElem? (i := 7) rfl)
theorem rShM_326_11 {h : ea_H} (hs : ShM h) : ea_r h 326 11 = some 335 := hs.2 (326, 11, some 335) (List.mem_of_getElem? (i := 8) rfl)
theorem rShM_326_14 {h : ea_H} (hs : ShM h) : ea_r h 326 14 = some 336 := hs.2 (326, 14, some 336) (List.mem_of_getElem? (i := 9) rfl)
theorem rShM_326_15 {h : ea_H} (hs : ShM h) : ea_r h 326 15 = some 337 := hs.2 (326, 15, some 337) (List.mem_of_getElem? (i := 10) rfl)
theorem rShM_326_16 {h : ea_H} (hs : ShM h) : ea_r h 326 16 = some 338 := hs.2 (326, 16, some 338) (List.mem_of_getElem? (i := 11) rfl)
theorem rShM_326_17 {h : ea_H} (hs : ShM h) : ea_r h 326 17 = some 339 := hs.2 (326, 17, some 339) (List.mem_of_getElem? (i := 12) rfl)
theorem rShM_326_18 {h : ea_H} (hs : ShM h) : ea_r h 326 18 = some 340 := hs.2 (326, 18, some 340) (List.mem_of_getElem? (i := 13) rfl)
theorem rShM_326_19 {h : ea_H} (hs : ShM h) : ea_r h 326 19 = some 341 := hs.2 (326, 19, some 341) (List.mem_of_getElem? (i := 14) rfl)
theorem rShM_326_20 {h : ea_H} (hs : ShM h) : ea_r h 326 20 = some 342 := hs.2 (326, 20, some 342) (List.mem_of_getElem? (i := 15) rfl)
theorem rShM_326_21 {h : ea_H} (hs : ShM h) : ea_r h 326 21 = some 343 := hs.2 (326, 21, some 343) (List.mem_of_getElem? (i := 16) rfl)
theorem rShM_326_22 {h : ea_H} (hs : ShM h) : ea_r h 326 22 = some 344 := hs.2 (326, 22, some 344) (List.mem_of_getElem? (i := 17) rfl)
theorem rShM_326_23 {h : ea_H} (hs : ShM h) : ea_r h 326 23 = some 345 := hs.2 (326, 23, some 345) (List.mem_of_getElem? (i := 18) rfl)
theorem rShM_326_24 {h : ea_H} (hs : ShM h) : ea_r h 326 24 = some 346 := hs.2 (326, 24, some 346) (List.mem_of_getElem? (i := 19) rfl)
theorem rShM_326_26 {h : ea_H} (hs : ShM h) : ea_r h 326 26 = some 347 := hs.2 (326, 26, some 347) (List.mem_of_getElem? (i := 20) rfl)
theorem rShM_326_27 {h : ea_H} (hs : ShM h) : ea_r h 326 27 = some 348 := hs.2 (326, 27, some 348) (List.mem_of_getElem? (i := 21) rfl)
theorem rShM_326_28 {h : ea_H} (hs : ShM h) : ea_r h 326 28 = some 349 := hs.2 (326, 28, some 349) (List.mem_of_getElem? (i := 22) rfl)
theorem rShM_326_29 {h : ea_H} (hs : ShM h) : ea_r h 326 29 = some 350 := hs.2 (326, 29, some 350) (List.mem_of_getElem? (i := 23) rfl)
theorem rShM_326_30 {h : ea_H} (hs : ShM h) : ea_r h 326 30 = some 351 := hs.2 (326, 30, some 351) (List.mem_of_getElem? (i := 24) rfl)
theorem rShM_326_31 {h : ea_H} (hs : ShM h) : ea_r h 326 31 = some 352 := hs.2 (326, 31, some 352) (List.mem_of_getElem? (i := 25) rfl)
theorem rShM_326_32 {h : ea_H} (hs : ShM h) : ea_r h 326 32 = some 353 := hs.2 (326, 32, some 353) (List.mem_of_getElem? (i := 26) rfl)
theorem rShM_326_33 {h : ea_H} (hs : ShM h) : ea_r h 326 33 = some 354 := hs.2 (326, 33, some 354) (List.mem_of_getElem? (i := 27) rfl)
theorem rShM_326_34 {h : ea_H} (hs : ShM h) : ea_r h 326 34 = some 355 := hs.2 (326, 34, some 355) (List.mem_of_getElem? (i := 28) rfl)
theorem rShM_326_35 {h : ea_H} (hs : ShM h) : ea_r h 326 35 = some 356 := hs.2 (326, 35, some 356) (List.mem_of_getElem? (i := 29) rfl)
theorem rShM_326_36 {h : ea_H} (hs : ShM h) : ea_r h 326 36 = some 357 := hs.2 (326, 36, some 357) (List.mem_of_getElem? (i := 30) rfl)
theorem rShM_326_37 {h : ea_H} (hs : ShM h) : ea_r h 326 37 = some 358 := hs.2 (326, 37, some 358) (List.mem_of_getElem? (i := 31) rfl)
theorem rShM_326_38 {h : ea_H} (hs : ShM h) : ea_r h 326 38 = some 359 := hs.2 (326, 38, some 359) (List.mem_of_getElem? (i := 32) rfl)
theorem rShM_326_39 {h : ea_H} (hs : ShM h) : ea_r h 326 39 = some 360 := hs.2 (326, 39, some 360) (List.mem_of_getElem? (i := 33) rfl)
theorem rShM_326_40 {h : ea_H} (hs : ShM h) : ea_r h 326 40 = some 361 := hs.2 (326, 40, some 361) (List.mem_of_getElem? (i := 34) rfl)
theorem rShM_326_41 {h : ea_H} (hs : ShM h) : ea_r h 326 41 = some 362 := hs.2 (326, 41, some 362) (List.mem_of_getElem? (i := 35) rfl)
theorem rShM_326_42 {h : ea_H} (hs : ShM h) : ea_r h 326 42 = some 363 := hs.2 (326, 42, some 363) (List.mem_of_getElem? (i := 36) rfl)
theorem rShM_326_64 {h : ea_H} (hs : ShM h) : ea_r h 326 64 = some 364 := hs.2 (326, 64, some 364) (List.mem_of_getElem? (i := 37) rfl)
theorem rShM_326_65 {h : ea_H} (hs : ShM h) : ea_r h 326 65 = some 365 := hs.2 (326, 65, some 365) (List.mem_of_getElem? (i := 38) rfl)
theorem rShM_326_66 {h : ea_H} (hs : ShM h) : ea_r h 326 66 = some 366 := hs.2 (326, 66, some 366) (List.mem_of_getElem? (i := 39) rfl)
theorem rShM_326_67 {h : ea_H} (hs : ShM h) : ea_r h 326 67 = some 367 := hs.2 (326, 67, some 367) (List.mem_of_getElem? (i := 40) rfl)
theorem rShM_326_68 {h : ea_H} (hs : ShM h) : ea_r h 326 68 = some 368 := hs.2 (326, 68, some 368) (List.mem_of_getElem? (i := 41) rfl)
theorem rShM_326_69 {h : ea_H} (hs : ShM h) : ea_r h 326 69 = some 369 := hs.2 (326, 69, some 369) (List.mem_of_getElem? (i := 42) rfl)
theorem rShM_326_70 {h : ea_H} (hs : ShM h) : ea_r h 326 70 = some 370 := hs.2 (326, 70, some 370) (List.mem_of_getElem? (i := 43) rfl)
theorem rShM_326_71 {h : ea_H} (hs : ShM h) : ea_r h 326 71 = some 371 := hs.2 (326, 71, some 371) (List.mem_of_getElem? (i := 44) rfl)
theorem rShM_326_72 {h : ea_H} (hs : ShM h) : ea_r h 326 72 = some 372 := hs.2 (326, 72, some 372) (List.mem_of_getElem? (i := 45) rfl)
theorem rShM_326_73 {h : ea_H} (hs : ShM h) : ea_r h 326 73 = some 373 := hs.2 (326, 73, some 373) (List.mem_of_getElem? (i := 46) rfl)
theorem rShM_326_74 {h : ea_H} (hs : ShM h) : ea_r h 326 74 = some 374 := hs.2 (326, 74, some 374) (List.mem_of_getElem? (i := 47) rfl)
theorem rShM_326_75 {h : ea_H} (hs : ShM h) : ea_r h 326 75 = some 375 := hs.2 (326, 75, some 375) (List.mem_of_getElem? (i := 48) rfl)
theorem rShM_326_76 {h : ea_H} (hs : ShM h) : ea_r h 326 76 = some 376 := hs.2 (326, 76, some 376) (List.mem_of_getElem? (i := 49) rfl)
theorem rShM_326_77 {h : ea_H} (hs : ShM h) : ea_r h 326 77 = some 377 := hs.2 (326, 77, some 377) (List.mem_of_getElem? (i := 50) rfl)
theorem rShM_326_78 {h : ea_H} (hs : ShM h) : ea_r h 326 78 = some 378 := hs.2 (326, 78, some 378) (List.mem_of_getElem? (i := 51) rfl)
theorem rShM_326_79 {h : ea_H} (hs : ShM h) : ea_r h 326 79 = some 379 := hs.2 (326, 79, some 379) (List.mem_of_getElem? (i := 52) rfl)
theorem rShM_326_80 {h : ea_H} (hs : ShM h) : ea_r h 326 80 = some 380 := hs.2 (326, 80, some 380) (List.mem_of_getElem? (i := 53) rfl)
theorem rShM_326_81 {h : ea_H} (hs : ShM h) : ea_r h 326 81 = some 381 := hs.2 (326, 81, some 381) (List.mem_of_getElem? (i := 54) rfl)
theorem rShM_326_82 {h : ea_H} (hs : ShM h) : ea_r h 326 82 = some 382 := hs.2 (326, 82, some 382) (List.mem_of_getElem? (i := 55) rfl)
theorem rShM_326_83 {h : ea_H} (hs : ShM h) : ea_r h 326 83 = some 383 := hs.2 (326, 83, some 383) (List.mem_of_getElem? (i := 56) rfl)
theorem rShM_326_84 {h : ea_H} (hs : ShM h) : ea_r h 326 84 = some 384 := hs.2 (326, 84, some 384) (List.mem_of_getElem? (i := 57) rfl)
theorem rShM_326_85 {h : ea_H} (hs : ShM h) : ea_r h 326 85 = some 385 := hs.2 (326, 85, some 385) (List.mem_of_getElem? (i := 58) rfl)
theorem rShM_326_86 {h : ea_H} (hs : ShM h) : ea_r h 326 86 = some 386 := hs.2 (326, 86, some 386) (List.mem_of_getElem? (i := 59) rfl)
theorem rShM_326_87 {h : ea_H} (hs : ShM h) : ea_r h 326 87 = some 387 := hs.2 (326, 87, some 387) (List.mem_of_getElem? (i := 60) rfl)
theorem rShM_326_88 {h : ea_H} (hs : ShM h) : ea_r h 326 88 = some 388 := hs.2 (326, 88, some 388) (List.mem_of_getElem? (i := 61) rfl)
theorem rShM_326_89 {h : ea_H} (hs : ShM h) : ea_r h 326 89 = some 389 := hs.2 (326, 89, some 389) (List.mem_of_getElem? (i := 62) rfl)
theorem rShM_326_90 {h : ea_H} (hs : ShM h) : ea_r h 326 90 = some 390 := hs.2 (326, 90, some 390) (List.mem_of_getElem? (i := 63) rfl)
theorem rShM_326_91 {h : ea_H} (hs : ShM h) : ea_r h 326 91 = some 391 := hs.2 (326, 91, some 391) (List.mem_of_getElem? (i := 64) rfl)
theorem rShM_326_93 {h : ea_H} (hs : ShM h) : ea_r h 326 93 = some 392 := hs.2 (326, 93, some 392) (List.mem_of_getElem? (i := 65) rfl)
theorem rShM_326_94 {h : ea_H} (hs : ShM h) : ea_r h 326 94 = some 393 := hs.2 (326, 94, some 393) (List.mem_of_getElem? (i := 66) rfl)
theorem rShM_326_95 {h : ea_H} (hs : ShM h) : ea_r h 326 95 = some 394 := hs.2 (326, 95, some 394) (List.mem_of_getElem? (i := 67) rfl)
theorem rShM_326_96 {h : ea_H} (hs : ShM h) : ea_r h 326 96 = some 395 := hs.2 (326, 96, some 395) (List.mem_of_getElem? (i := 68) rfl)
theorem rShM_326_97 {h : ea_H} (hs : ShM h) : ea_r h 326 97 = some 396 := hs.2 (326, 97, some 396) (List.mem_of_getElem? (i := 69) rfl)
theorem rShM_326_98 {h : ea_H} (hs : ShM h) : ea_r h 326 98 = some 397 := hs.2 (326, 98, some 397) (List.mem_of_getElem? (i := 70) rfl)
theorem rShM_326_99 {h : ea_H} (hs : ShM h) : ea_r h 326 99 = some 398 := hs.2 (326, 99, some 398) (List.mem_of_getElem? (i := 71) rfl)
theorem rShM_326_101 {h : ea_H} (hs : ShM h) : ea_r h 326 101 = some 399 := hs.2 (326, 101, some 399) (List.mem_of_getElem? (i := 72) rfl)
theorem rShM_326_102 {h : ea_H} (hs : ShM h) : ea_r h 326 102 = some 400 := hs.2 (326, 102, some 400) (List.mem_of_getElem? (i := 73) rfl)
theorem rShM_326_103 {h : ea_H} (hs : ShM h) : ea_r h 326 103 = some 401 := hs.2 (326, 103, some 401) (List.mem_of_getElem? (i := 74) rfl)
theorem rShM_326_104 {h : ea_H} (hs : ShM h) : ea_r h 326 104 = some 402 := hs.2 (326, 104, some 402) (List.mem_of_getElem? (i := 75) rfl)
theorem rShM_326_105 {h : ea_H} (hs : ShM h) : ea_r h 326 105 = some 403 := hs.2 (326, 105, some 403) (List.mem_of_getElem? (i := 76) rfl)
theorem rShM_326_106 {h : ea_H} (hs : ShM h) : ea_r h 326 106 = some 404 := hs.2 (326, 106, some 404) (List.mem_of_getElem? (i := 77) rfl)
theorem rShM_326_107 {h : ea_H} (hs : ShM h) : ea_r h 326 107 = some 405 := hs.2 (326, 107, some 405) (List.mem_of_getElem? (i := 78) rfl)
theorem rShM_326_108 {h : ea_H} (hs : ShM h) : ea_r h 326 108 = some 406 := hs.2 (326, 108, some 406) (List.mem_of_getElem? (i := 79) rfl)
theorem rShM_326_109 {h : ea_H} (hs : ShM h) : ea_r h 326 109 = some 407 := hs.2 (326, 109, some 407) (List.mem_of_getElem? (i := 80) rfl)
theorem rShM_326_110 {h : ea_H} (hs : ShM h) : ea_r h 326 110 = some 408 := hs.2 (326, 110, some 408) (List.mem_of_getElem? (i := 81) rfl)
theorem rShM_326_111 {h : ea_H} (hs : ShM h) : ea_r h 326 111 = some 409 := hs.2 (326, 111, some 409) (List.mem_of_getElem? (i := 82) rfl)
theorem rShM_326_112 {h : ea_H} (hs : ShM h) : ea_r h 326 112 = some 410 := hs.2 (326, 112, some 410) (List.mem_of_getElem? (i := 83) rfl)
theorem rShM_326_113 {h : ea_H} (hs : ShM h) : ea_r h 326 113 = some 411 := hs.2 (326, 113, some 411) (List.mem_of_getElem? (i := 84) rfl)
theorem rShM_326_114 {h : ea_H} (hs : ShM h) : ea_r h 326 114 = some 412 := hs.2 (326, 114, some 412) (List.mem_of_getElem? (i := 85) rfl)
theorem rShM_326_115 {h : ea_H} (hs : ShM h) : ea_r h 326 115 = some 413 := hs.2 (326, 115, some 413) (List.mem_of_getElem? (i := 86) rfl)
theorem rShM_326_116 {h : ea_H} (hs : ShM h) : ea_r h 326 116 = some 414 := hs.2 (326, 116, some 414) (List.mem_of_getElem? (i := 87) rfl)
theorem rShM_326_117 {h : ea_H} (hs : ShM h) : ea_r h 326 117 = some 415 := hs.2 (326, 117, some 415) (List.mem_of_getElem? (i := 88) rfl)
noncomputable def BX12_init_0 (a0 : Nat) (J45 : ea_H → Option (Unit × ea_H)) (h : ea_H) : Option (Unit × ea_H) :=
  (ea_let (ea_new h 20 144 144) fun H1 => (gd ((a0 < ea_n H1 ∧ ea_c H1 a0 = 12)) (ea_let (ea_wr H1 a0 3 (some (ea_n h))) fun H3 => (ea_let (ea_new H3 20 10 10) fun H4 => (gd ((a0 < ea_n H4 ∧ ea_c H4 a0 = 12)) (ea_let (ea_wr H4 a0 4 (some (ea_n H3))) fun H6 => (ea_let (ea_new H6 20 80 80) fun H7 => (gd ((a0 < ea_n H7 ∧ ea_c H7 a0 = 12)) (ea_let (ea_wr H7 a0 5 (some (ea_n H6))) fun H9 => (ea_let (ea_new H9 20 80 80) fun H10 => (gd ((a0 < ea_n H10 ∧ ea_c H10 a0 = 12)) (ea_let (ea_wr H10 a0 6 (some (ea_n H9))) fun H12 => (ea_let (ea_new H12 20 80 80) fun H13 => (gd ((a0 < ea_n H13 ∧ ea_c H13 a0 = 12)) (ea_let (ea_wr H13 a0 7 (some (ea_n H12))) fun H15 => (J45 H15))))))))))))))))
set_option maxRecDepth 100000 in
set_option maxHeartbeats 0 in
theorem tBX12_init_0 {d : Nat} {a0 : Nat} {h0 : ea_H} (hd : 2 ≤ d) {J45 : ea_H → Option (Unit × ea_H)}  (kJ45 : ∀ (h : ea_H) (r : Unit) (h' : ea_H), J45 h = some (r, h') → ea_W mX12_init d h0 none h' 45 [(0, vR (some a0))] [] h) {h : ea_H} {r : Unit} {h' : ea_H} (E : BX12_init_0 a0 J45 h = some (r, h')) : ea_W mX12_init d h0 none h' 0 [(0, vR (some a0))] [] h := by
  unfold BX12_init_0 at E
  obtain ⟨H1, eH1, E⟩ := let_some E
  refine ea_aload_n (pc := 0) dX12_init_0 rfl 0 rfl ?_
  refine ea_objInit (pc := 1) dX12_init_1 ew_1400 ew_141 ew_142 (by omega) (Nat.le_of_ble_eq_true rfl) ?_
  refine ea_aload_n (pc := 4) dX12_init_4 rfl 0 rfl ?_
  refine ea_sipush (pc := 5) dX12_init_5 (v := 144) rfl ?_
  refine ea_newI (pc := 8) (N := 144) dX12_init_8 ew_177 (by decide) rfl (Nat.le_of_ble_eq_true rfl) ?_
  refine ea_nm eH1 ?_
  obtain ⟨f2, E⟩ := gd_some E
  obtain ⟨H3, eH3, E⟩ := let_some E
  refine ea_putR (pc := 10) dX12_init_10 ec_12 (k := 3) (Nat.le_of_ble_eq_true rfl) rfl (Or.inr ⟨rfl, rfl, rfl, ew_1405⟩) f2.1 f2.2 ?_
  refine ea_nm eH3 ?_
  obtain ⟨H4, eH4, E⟩ := let_some E
  refine ea_aload_n (pc := 13) dX12_init_13 rfl 0 rfl ?_
  refine ea_bipush (pc := 14) dX12_init_14 (v := 10) rfl ?_
  refine ea_newI (pc := 16) (N := 10) dX12_init_16 ew_177 (by decide) rfl (Nat.le_of_ble_eq_true rfl) ?_
  refine ea_nm eH4 ?_
  obtain ⟨f5, E⟩ := gd_some E
  obtain ⟨H6, eH6, E⟩ := let_some E
  refine ea_putR (pc := 18) dX12_init_18 ec_12 (k := 4) (Nat.le_of_ble_eq_true rfl) rfl (Or.inr ⟨rfl, rfl, rfl, ew_1406⟩) f5.1 f5.2 ?_
  refine ea_nm eH6 ?_
  obtain ⟨H7, eH7, E⟩ := let_some E
  refine ea_aload_n (pc := 21) dX12_init_21 rfl 0 rfl ?_
  refine ea_bipush (pc := 22) dX12_init_22 (v := 80) rfl ?_
  refine ea_newI (pc := 24) (N := 80) dX12_init_24 ew_177 (by decide) rfl (Nat.le_of_ble_eq_true rfl) ?_
  refine ea_nm eH7 ?_
  obtain ⟨f8, E⟩ := gd_some E
  obtain ⟨H9, eH9, E⟩ := let_some E
  refine ea_putR (pc := 26) dX12_init_26 ec_12 (k := 5) (Nat.le_of_ble_eq_true rfl) rfl (Or.inr ⟨rfl, rfl, rfl, ew_1407⟩) f8.1 f8.2 ?_
  refine ea_nm eH9 ?_
  obtain ⟨H10, eH10, E⟩ := let_some E
  refine ea_aload_n (pc := 29) dX12_init_29 rfl 0 rfl ?_
  refine ea_bipush (pc := 30) dX12_init_30 (v := 80) rfl ?_
  refine ea_newI (pc := 32) (N := 80) dX12_init_32 ew_177 (by decide) rfl (Nat.le_of_ble_eq_true rfl) ?_
  refine ea_nm eH10 ?_
  obtain ⟨f11, E⟩ := gd_some E
  obtain ⟨H12, eH12, E⟩ := let_some E
  refine ea_putR (pc := 34) dX12_init_34 ec_12 (k := 6) (Nat.le_of_ble_eq_true rfl) rfl (Or.inr ⟨rfl, rfl, rfl, ew_1408⟩) f11.1 f11.2 ?_
  refine ea_nm eH12 ?_
  obtain ⟨H13, eH13, E⟩ := let_some E
  refine ea_aload_n (pc := 37) dX12_init_37 rfl 0 rfl ?_
  refine ea_bipush (pc := 38) dX12_init_38 (v := 80) rfl ?_
  refine ea_newI (pc := 40) (N := 80) dX12_init_40 ew_177 (by decide) rfl (Nat.le_of_ble_eq_true rfl) ?_
  refine ea_nm eH13 ?_
  obtain ⟨f14, E⟩ := gd_some E
  obtain ⟨H15, eH15, E⟩ := let_some E
  refine ea_putR (pc := 42) dX12_init_42 ec_12 (k := 7) (Nat.le_of_ble_eq_true rfl) rfl (Or.inr ⟨rfl, rfl, rfl, ew_1409⟩) f14.1 f14.2 ?_
  refine ea_nm eH15 ?_
  exact (kJ45 H15 _ _ E)
set_option maxRecDepth 100000 in
set_option maxHeartbeats 0 in
theorem lBX12_init_0 {a0 : Nat} {J45 : ea_H → Option (Unit × ea_H)} {J45_ : ea_H → Option (Unit × ea_H)}  (mJ45 : ∀ (h : ea_H), fle (J45 h) (J45_ h)) {h : ea_H} : fle (BX12_init_0 a0 J45 h) (BX12_init_0 a0 J45_ h) :=
  (fle_let fun _ => (fle_gd (fle_let fun _ => (fle_let fun _ => (fle_gd (fle_let fun _ => (fle_let fun _ => (fle_gd (fle_let fun _ => (fle_let fun _ => (fle_gd (fle_let fun _ => (fle_let fun _ => (fle_gd (fle_let fun _ => (mJ45 _))))))))))))))))
set_option maxRecDepth 100000 in
set_option maxHeartbeats 0 in
theorem nBX12_init_0 {a0 : Nat} {J45 : ea_H → Option (Unit × ea_H)} {J45_ : Nat → (ea_H → Option (Unit × ea_H))}  (mJ45 : ∀ (h : ea_H), fct (J45 h) (fun f => J45_ f h)) {h : ea_H} : fct (BX12_init_0 a0 J45 h) (fun f => BX12_init_0 a0 (J45_ f) h) :=
  (fct_let fun _ => (fct_gd (fct_let fun _ => (fct_let fun _ => (fct_gd (fct_let fun _ => (fct_let fun _ => (fct_gd (fct_let fun _ => (fct_let fun _ => (fct_gd (fct_let fun _ => (fct_let fun _ => (fct_gd (fct_let fun _ => (mJ45 _))))))))))))))))
noncomputable def BX12_init_45 (a0 : Nat) (J96 : ea_H → Option (Unit × ea_H)) (h : ea_H) : Option (Unit × ea_H) :=
  (ea_let (ea_new h 20 70 70) fun H16 => (gd ((a0 < ea_n H16 ∧ ea_c H16 a0 = 12)) (ea_let (ea_wr H16 a0 8 (some (ea_n h))) fun H18 => (ea_let (ea_new H18 21 80 80) fun H19 => (gd ((a0 < ea_n H19 ∧ ea_c H19 a0 = 12)) (ea_let (ea_wr H19 a0 9 (some (ea_n H18))) fun H21 => (ea_let (ea_new H21 21 560 560) fun H22 => (gd ((a0 < ea_n H22 ∧ ea_c H22 a0 = 12)) (ea_let (ea_wr H22 a0 10 (some (ea_n H21))) fun H24 => (ea_let (ea_new H24 20 12 12) fun H25 => (gd ((a0 < ea_n H25 ∧ ea_c H25 a0 = 12)) (ea_let (ea_wr H25 a0 11 (some (ea_n H24))) fun H27 => (ea_let (ea_new H27 20 1000 1000) fun H28 => (gd ((a0 < ea_n H28 ∧ ea_c H28 a0 = 12)) (ea_let (ea_wr H28 a0 14 (some (ea_n H27))) fun H30 => (ea_let (ea_new H30 20 1000 1000) fun H31 => (gd ((a0 < ea_n H31 ∧ ea_c H31 a0 = 12)) (ea_let (ea_wr H31 a0 15 (some (ea_n H30))) fun H33 => (J96 H33)))))))))))))))))))
set_option maxRecDepth 100000 in
set_option maxHeartbeats 0 in
theorem tBX12_init_45 {d : Nat} {a0 : Nat} {h0 : ea_H} (hd : 2 ≤ d) {J96 : ea_H → Option (Unit × ea_H)}  (kJ96 : ∀ (h : ea_H) (r : Unit) (h' : ea_H), J96 h = some (r, h') → ea_W mX12_init d h0 none h' 96 [(0, vR (some a0))] [] h) {h : ea_H} {r : Unit} {h' : ea_H} (E : BX12_init_45 a0 J96 h = some (r, h')) : ea_W mX12_init d h0 none h' 45 [(0, vR (some a0))] [] h := by
  unfold BX12_init_45 at E
  obtain ⟨H16, eH16, E⟩ := let_some E
  refine ea_aload_n (pc := 45) dX12_init_45 rfl 0 rfl ?_
  refine ea_bipush (pc := 46) dX12_init_46 (v := 70) rfl ?_
  refine ea_newI (pc := 48) (N := 70) dX12_init_48 ew_177 (by decide) rfl (Nat.le_of_ble_eq_true rfl) ?_
  refine ea_nm eH16 ?_
  obtain ⟨f17, E⟩ := gd_some E
  obtain ⟨H18, eH18, E⟩ := let_some E
  refine ea_putR (pc := 50) dX12_init_50 ec_12 (k := 8) (Nat.le_of_ble_eq_true rfl) rfl (Or.inr ⟨rfl, rfl, rfl, ew_1410⟩) f17.1 f17.2 ?_
  refine ea_nm eH18 ?_
  obtain ⟨H19, eH19, E⟩ := let_some E
  refine ea_aload_n (pc := 53) dX12_init_53 rfl 0 rfl ?_
  refine ea_bipush (pc := 54) dX12_init_54 (v := 80) rfl ?_
  refine ea_newZ (pc := 56) (N := 80) dX12_init_56 ew_225 (by decide) rfl (Nat.le_of_ble_eq_true rfl) ?_
  refine ea_nm eH19 ?_
  obtain ⟨f20, E⟩ := gd_some E
  obtain ⟨H21, eH21, E⟩ := let_some E
  refine ea_putR (pc := 58) dX12_init_58 ec_12 (k := 9) (Nat.le_of_ble_eq_true rfl) rfl (Or.inr ⟨rfl, rfl, rfl, ew_1411⟩) f20.1 f20.2 ?_
  refine ea_nm eH21 ?_
  obtain ⟨H22, eH22, E⟩ := let_some E
  refine ea_aload_n (pc := 61) dX12_init_61 rfl 0 rfl ?_
  refine ea_sipush (pc := 62) dX12_init_62 (v := 560) rfl ?_
  refine ea_newZ (pc := 65) (N := 560) dX12_init_65 ew_225 (by decide) rfl (Nat.le_of_ble_eq_true rfl) ?_
  refine ea_nm eH22 ?_
  obtain ⟨f23, E⟩ := gd_some E
  obtain ⟨H24, eH24, E⟩ := let_some E
  refine ea_putR (pc := 67) dX12_init_67 ec_12 (k := 10) (Nat.le_of_ble_eq_true rfl) rfl (Or.inr ⟨rfl, rfl, rfl, ew_1412⟩) f23.1 f23.2 ?_
  refine ea_nm eH24 ?_
  obtain ⟨H25, eH25, E⟩ := let_some E
  refine ea_aload_n (pc := 70) dX12_init_70 rfl 0 rfl ?_
  refine ea_bipush (pc := 71) dX12_init_71 (v := 12) rfl ?_
  refine ea_newI (pc := 73) (N := 12) dX12_init_73 ew_177 (by decide) rfl (Nat.le_of_ble_eq_true rfl) ?_
  refine ea_nm eH25 ?_
  obtain ⟨f26, E⟩ := gd_some E
  obtain ⟨H27, eH27, E⟩ := let_some E
  refine ea_putR (pc := 75) dX12_init_75 ec_12 (k := 11) (Nat.le_of_ble_eq_true rfl) rfl (Or.inr ⟨rfl, rfl, rfl, ew_1413⟩) f26.1 f26.2 ?_
  refine ea_nm eH27 ?_
  obtain ⟨H28, eH28, E⟩ := let_some E
  refine ea_aload_n (pc := 78) dX12_init_78 rfl 0 rfl ?_
  refine ea_sipush (pc := 79) dX12_init_79 (v := 1000) rfl ?_
  refine ea_newI (pc := 82) (N := 1000) dX12_init_82 ew_177 (by decide) rfl (Nat.le_of_ble_eq_true rfl) ?_
  refine ea_nm eH28 ?_
  obtain ⟨f29, E⟩ := gd_some E
  obtain ⟨H30, eH30, E⟩ := let_some E
  refine ea_putR (pc := 84) dX12_init_84 ec_12 (k := 14) (Nat.le_of_ble_eq_true rfl) rfl (Or.inr ⟨rfl, rfl, rfl, ew_1416⟩) f29.1 f29.2 ?_
  refine ea_nm eH30 ?_
  obtain ⟨H31, eH31, E⟩ := let_some E
  refine ea_aload_n (pc := 87) dX12_init_87 rfl 0 rfl ?_
  refine ea_sipush (pc := 88) dX12_init_88 (v := 1000) rfl ?_
  refine ea_newI (pc := 91) (N := 1000) dX12_init_91 ew_177 (by decide) rfl (Nat.le_of_ble_eq_true rfl) ?_
  refine ea_nm eH31 ?_
  obtain ⟨f32, E⟩ := gd_some E
  obtain ⟨H33, eH33, E⟩ := let_some E
  refine ea_putR (pc := 93) dX12_init_93 ec_12 (k := 15) (Nat.le_of_ble_eq_true rfl) rfl (Or.inr ⟨rfl, rfl, rfl, ew_1417⟩) f32.1 f32.2 ?_
  refine ea_nm eH33 ?_
  exact (kJ96 H33 _ _ E)
set_option maxRecDepth 100000 in
set_option maxHeartbeats 0 in
theorem lBX12_init_45 {a0 : Nat} {J96 : ea_H → Option (Unit × ea_H)} {J96_ : ea_H → Option (Unit × ea_H)}  (mJ96 : ∀ (h : ea_H), fle (J96 h) (J96_ h)) {h : ea_H} : fle (BX12_init_45 a0 J96 h) (BX12_init_45 a0 J96_ h) :=
  (fle_let fun _ => (fle_gd (fle_let fun _ => (fle_let fun _ => (fle_gd (fle_let fun _ => (fle_let fun _ => (fle_gd (fle_let fun _ => (fle_let fun _ => (fle_gd (fle_let fun _ => (fle_let fun _ => (fle_gd (fle_let fun _ => (fle_let fun _ => (fle_gd (fle_let fun _ => (mJ96 _)))))))))))))))))))
set_option maxRecDepth 100000 in
set_option maxHeartbeats 0 in
theorem nBX12_init_45 {a0 : Nat} {J96 : ea_H → Option (Unit × ea_H)} {J96_ : Nat → (ea_H → Option (Unit × ea_H))}  (mJ96 : ∀ (h : ea_H), fct (J96 h) (fun f => J96_ f h)) {h : ea_H} : fct (BX12_init_45 a0 J96 h) (fun f => BX12_init_45 a0 (J96_ f) h) :=
  (fct_let fun _ => (fct_gd (fct_let fun _ => (fct_let fun _ => (fct_gd (fct_let fun _ => (fct_let fun _ => (fct_gd (fct_let fun _ => (fct_let fun _ => (fct_gd (fct_let fun _ => (fct_let fun _ => (fct_gd (fct_let fun _ => (fct_let fun _ => (fct_gd (fct_let fun _ => (mJ96 _)))))))))))))))))))
noncomputable def BX12_init_96 (a0 : Nat) (J149 : ea_H → Option (Unit × ea_H)) (h : ea_H) : Option (Unit × ea_H) :=
  (ea_let (ea_new h 20 1000 1000) fun H34 => (gd ((a0 < ea_n H34 ∧ ea_c H34 a0 = 12)) (ea_let (ea_wr H34 a0 16 (some (ea_n h))) fun H36 => (ea_let (ea_new H36 20 1000 1000) fun H37 => (gd ((a0 < ea_n H37 ∧ ea_c H37 a0 = 12)) (ea_let (ea_wr H37 a0 17 (some (ea_n H36))) fun H39 => (ea_let (ea_new H39 20 70 70) fun H40 => (gd ((a0 < ea_n H40 ∧ ea_c H40 a0 = 12)) (ea_let (ea_wr H40 a0 18 (some (ea_n H39))) fun H42 => (ea_let (ea_new H42 20 12000 12000) fun H43 => (gd ((a0 < ea_n H43 ∧ ea_c H43 a0 = 12)) (ea_let (ea_wr H43 a0 19 (some (ea_n H42))) fun H45 => (ea_let (ea_new H45 20 12000 12000) fun H46 => (gd ((a0 < ea_n H46 ∧ ea_c H46 a0 = 12)) (ea_let (ea_wr H46 a0 20 (some (ea_n H45))) fun H48 => (ea_let (ea_new H48 20 12000 12000) fun H49 => (gd ((a0 < ea_n H49 ∧ ea_c H49 a0 = 12)) (ea_let (ea_wr H49 a0 21 (some (ea_n H48))) fun H51 => (J149 H51)))))))))))))))))))
set_option maxRecDepth 100000 in
set_option maxHeartbeats 0 in
theorem tBX12_init_96 {d : Nat} {a0 : Nat} {h0 : ea_H} (hd : 2 ≤ d) {J149 : ea_H → Option (Unit × ea_H)}  (kJ149 : ∀ (h : ea_H) (r : Unit) (h' : ea_H), J149 h = some (r, h') → ea_W mX12_init d h0 none h' 149 [(0, vR (some a0))] [] h) {h : ea_H} {r : Unit} {h' : ea_H} (E : BX12_init_96 a0 J149 h = some (r, h')) : ea_W mX12_init d h0 none h' 96 [(0, vR (some a0))] [] h := by
  unfold BX12_init_96 at E
  obtain ⟨H34, eH34, E⟩ := let_some E
  refine ea_aload_n (pc := 96) dX12_init_96 rfl 0 rfl ?_
  refine ea_sipush (pc := 97) dX12_init_97 (v := 1000) rfl ?_
  refine ea_newI (pc := 100) (N := 1000) dX12_init_100 ew_177 (by decide) rfl (Nat.le_of_ble_eq_true rfl) ?_
  refine ea_nm eH34 ?_
  obtain ⟨f35, E⟩ := gd_some E
  obtain ⟨H36, eH36, E⟩ := let_some E
  refine ea_putR (pc := 102) dX12_init_102 ec_12 (k := 16) (Nat.le_of_ble_eq_true rfl) rfl (Or.inr ⟨rfl, rfl, rfl, ew_1418⟩) f35.1 f35.2 ?_
  refine ea_nm eH36 ?_
  obtain ⟨H37, eH37, E⟩ := let_some E
  refine ea_aload_n (pc := 105) dX12_init_105 rfl 0 rfl ?_
  refine ea_sipush (pc := 106) dX12_init_106 (v := 1000) rfl ?_
  refine ea_newI (pc := 109) (N := 1000) dX12_init_109 ew_177 (by decide) rfl (Nat.le_of_ble_eq_true rfl) ?_
  refine ea_nm eH37 ?_
  obtain ⟨f38, E⟩ := gd_some E
  obtain ⟨H39, eH39, E⟩ := let_some E
  refine ea_putR (pc := 111) dX12_init_111 ec_12 (k := 17) (Nat.le_of_ble_eq_true rfl) rfl (Or.inr ⟨rfl, rfl, rfl, ew_1419⟩) f38.1 f38.2 ?_
  refine ea_nm eH39 ?_
  obtain ⟨H40, eH40, E⟩ := let_some E
  refine ea_aload_n (pc := 114) dX12_init_114 rfl 0 rfl ?_
  refine ea_bipush (pc := 115) dX12_init_115 (v := 70) rfl ?_
  refine ea_newI (pc := 117) (N := 70) dX12_init_117 ew_177 (by decide) rfl (Nat.le_of_ble_eq_true rfl) ?_
  refine ea_nm eH40 ?_
  obtain ⟨f41, E⟩ := gd_some E
  obtain ⟨H42, eH42, E⟩ := let_some E
  refine ea_putR (pc := 119) dX12_init_119 ec_12 (k := 18) (Nat.le_of_ble_eq_true rfl) rfl (Or.inr ⟨rfl, rfl, rfl, ew_1420⟩) f41.1 f41.2 ?_
  refine ea_nm eH42 ?_
  obtain ⟨H43, eH43, E⟩ := let_some E
  refine ea_aload_n (pc := 122) dX12_init_122 rfl 0 rfl ?_
  refine ea_sipush (pc := 123) dX12_init_123 (v := 12000) rfl ?_
  refine ea_newI (pc := 126) (N := 12000) dX12_init_126 ew_177 (by decide) rfl (Nat.le_of_ble_eq_true rfl) ?_
  refine ea_nm eH43 ?_
  obtain ⟨f44, E⟩ := gd_some E
  obtain ⟨H45, eH45, E⟩ := let_some E
  refine ea_putR (pc := 128) dX12_init_128 ec_12 (k := 19) (Nat.le_of_ble_eq_true rfl) rfl (Or.inr ⟨rfl, rfl, rfl, ew_1421⟩) f44.1 f44.2 ?_
  refine ea_nm eH45 ?_
  obtain ⟨H46, eH46, E⟩ := let_some E
  refine ea_aload_n (pc := 131) dX12_init_131 rfl 0 rfl ?_
  refine ea_sipush (pc := 132) dX12_init_132 (v := 12000) rfl ?_
  refine ea_newI (pc := 135) (N := 12000) dX12_init_135 ew_177 (by decide) rfl (Nat.le_of_ble_eq_true rfl) ?_
  refine ea_nm eH46 ?_
  obtain ⟨f47, E⟩ := gd_some E
  obtain ⟨H48, eH48, E⟩ := let_some E
  refine ea_putR (pc := 137) dX12_init_137 ec_12 (k := 20) (Nat.le_of_ble_eq_true rfl) rfl (Or.inr ⟨rfl, rfl, rfl, ew_1422⟩) f47.1 f47.2 ?_
  refine ea_nm eH48 ?_
  obtain ⟨H49, eH49, E⟩ := let_some E
  refine ea_aload_n (pc := 140) dX12_init_140 rfl 0 rfl ?_
  refine ea_sipush (pc := 141) dX12_init_141 (v := 12000) rfl ?_
  refine ea_newI (pc := 144) (N := 12000) dX12_init_144 ew_177 (by decide) rfl (Nat.le_of_ble_eq_true rfl) ?_
  refine ea_nm eH49 ?_
  obtain ⟨f50, E⟩ := gd_some E
  obtain ⟨H51, eH51, E⟩ := let_some E
  refine ea_putR (pc := 146) dX12_init_146 ec_12 (k := 21) (Nat.le_of_ble_eq_true rfl) rfl (Or.inr ⟨rfl, rfl, rfl, ew_1423⟩) f50.1 f50.2 ?_
  refine ea_nm eH51 ?_
  exact (kJ149 H51 _ _ E)
set_option maxRecDepth 100000 in
set_option maxHeartbeats 0 in
theorem lBX12_init_96 {a0 : Nat} {J149 : ea_H → Option (Unit × ea_H)} {J149_ : ea_H → Option (Unit × ea_H)}  (mJ149 : ∀ (h : ea_H), fle (J149 h) (J149_ h)) {h : ea_H} : fle (BX12_init_96 a0 J149 h) (BX12_init_96 a0 J149_ h) :=
  (fle_let fun _ => (fle_gd (fle_let fun _ => (fle_let fun _ => (fle_gd (fle_let fun _ => (fle_let fun _ => (fle_gd (fle_let fun _ => (fle_let fun _ => (fle_gd (fle_let fun _ => (fle_let fun _ => (fle_gd (fle_let fun _ => (fle_let fun _ => (fle_gd (fle_let fun _ => (mJ149 _)))))))))))))))))))
set_option maxRecDepth 100000 in
set_option maxHeartbeats 0 in
theorem nBX12_init_96 {a0 : Nat} {J149 : ea_H → Option (Unit × ea_H)} {J149_ : Nat → (ea_H → Option (Unit × ea_H))}  (mJ149 : ∀ (h : ea_H), fct (J149 h) (fun f => J149_ f h)) {h : ea_H} : fct (BX12_init_96 a0 J149 h) (fun f => BX12_init_96 a0 (J149_ f) h) :=
  (fct_let fun _ => (fct_gd (fct_let fun _ => (fct_let fun _ => (fct_gd (fct_let fun _ => (fct_let fun _ => (fct_gd (fct_let fun _ => (fct_let fun _ => (fct_gd (fct_let fun _ => (fct_let fun _ => (fct_gd (fct_let fun _ => (fct_let fun _ => (fct_gd (fct_let fun _ => (mJ149 _)))))))))))))))))))
noncomputable def BX12_init_149 (a0 : Nat) (J199 : ea_H → Option (Unit × ea_H)) (h : ea_H) : Option (Unit × ea_H) :=
  (ea_let (ea_new h 20 12000 12000) fun H52 => (gd ((a0 < ea_n H52 ∧ ea_c H52 a0 = 12)) (ea_let (ea_wr H52 a0 22 (some (ea_n h))) fun H54 => (ea_let (ea_new H54 20 1000 1000) fun H55 => (gd ((a0 < ea_n H55 ∧ ea_c H55 a0 = 12)) (ea_let (ea_wr H55 a0 23 (some (ea_n H54))) fun H57 => (ea_let (ea_new H57 20 12 12) fun H58 => (gd ((a0 < ea_n H58 ∧ ea_c H58 a0 = 12)) (ea_let (ea_wr H58 a0 24 (some (ea_n H57))) fun H60 => (ea_let (ea_new H60 20 6 6) fun H61 => (gd ((a0 < ea_n H61 ∧ ea_c H61 a0 = 12)) (ea_let (ea_wr H61 a0 26 (some (ea_n H60))) fun H63 => (ea_let (ea_new H63 20 6 6) fun H64 => (gd ((a0 < ea_n H64 ∧ ea_c H64 a0 = 12)) (ea_let (ea_wr H64 a0 27 (some (ea_n H63))) fun H66 => (ea_let (ea_new H66 20 6 6) fun H67 => (gd ((a0 < ea_n H67 ∧ ea_c H67 a0 = 12)) (ea_let (ea_wr H67 a0 28 (some (ea_n H66))) fun H69 => (J199 H69)))))))))))))))))))
set_option maxRecDepth 100000 in
set_option maxHeartbeats 0 in
theorem tBX12_init_149 {d : Nat} {a0 : Nat} {h0 : ea_H} (hd : 2 ≤ d) {J199 : ea_H → Option (Unit × ea_H)}  (kJ199 : ∀ (h : ea_H) (r : Unit) (h' : ea_H), J199 h = some (r, h') → ea_W mX12_init d h0 none h' 199 [(0, vR (some a0))] [] h) {h : ea_H} {r : Unit} {h' : ea_H} (E : BX12_init_149 a0 J199 h = some (r, h')) : ea_W mX12_init d h0 none h' 149 [(0, vR (some a0))] [] h := by
  unfold BX12_init_149 at E
  obtain ⟨H52, eH52, E⟩ := let_some E
  refine ea_aload_n (pc := 149) dX12_init_149 rfl 0 rfl ?_
  refine ea_sipush (pc := 150) dX12_init_150 (v := 12000) rfl ?_
  refine ea_newI (pc := 153) (N := 12000) dX12_init_153 ew_177 (by decide) rfl (Nat.le_of_ble_eq_true rfl) ?_
  refine ea_nm eH52 ?_
  obtain ⟨f53, E⟩ := gd_some E
  obtain ⟨H54, eH54, E⟩ := let_some E
  refine ea_putR (pc := 155) dX12_init_155 ec_12 (k := 22) (Nat.le_of_ble_eq_true rfl) rfl (Or.inr ⟨rfl, rfl, rfl, ew_1424⟩) f53.1 f53.2 ?_
  refine ea_nm eH54 ?_
  obtain ⟨H55, eH55, E⟩ := let_some E
  refine ea_aload_n (pc := 158) dX12_init_158 rfl 0 rfl ?_
  refine ea_sipush (pc := 159) dX12_init_159 (v := 1000) rfl ?_
  refine ea_newI (pc := 162) (N := 1000) dX12_init_162 ew_177 (by decide) rfl (Nat.le_of_ble_eq_true rfl) ?_
  refine ea_nm eH55 ?_
  obtain ⟨f56, E⟩ := gd_some E
  obtain ⟨H57, eH57, E⟩ := let_some E
  refine ea_putR (pc := 164) dX12_init_164 ec_12 (k := 23) (Nat.le_of_ble_eq_true rfl) rfl (Or.inr ⟨rfl, rfl, rfl, ew_1425⟩) f56.1 f56.2 ?_
  refine ea_nm eH57 ?_
  obtain ⟨H58, eH58, E⟩ := let_some E
  refine ea_aload_n (pc := 167) dX12_init_167 rfl 0 rfl ?_
  refine ea_bipush (pc := 168) dX12_init_168 (v := 12) rfl ?_
  refine ea_newI (pc := 170) (N := 12) dX12_init_170 ew_177 (by decide) rfl (Nat.le_of_ble_eq_true rfl) ?_
  refine ea_nm eH58 ?_
  obtain ⟨f59, E⟩ := gd_some E
  obtain ⟨H60, eH60, E⟩ := let_some E
  refine ea_putR (pc := 172) dX12_init_172 ec_12 (k := 24) (Nat.le_of_ble_eq_true rfl) rfl (Or.inr ⟨rfl, rfl, rfl, ew_1426⟩) f59.1 f59.2 ?_
  refine ea_nm eH60 ?_
  obtain ⟨H61, eH61, E⟩ := let_some E
  refine ea_aload_n (pc := 175) dX12_init_175 rfl 0 rfl ?_
  refine ea_bipush (pc := 176) dX12_init_176 (v := 6) rfl ?_
  refine ea_newI (pc := 178) (N := 6) dX12_init_178 ew_177 (by decide) rfl (Nat.le_of_ble_eq_true rfl) ?_
  refine ea_nm eH61 ?_
  obtain ⟨f62, E⟩ := gd_some E
  obtain ⟨H63, eH63, E⟩ := let_some E
  refine ea_putR (pc := 180) dX12_init_180 ec_12 (k := 26) (Nat.le_of_ble_eq_true rfl) rfl (Or.inr ⟨rfl, rfl, rfl, ew_1428⟩) f62.1 f62.2 ?_
  refine ea_nm eH63 ?_
  obtain ⟨H64, eH64, E⟩ := let_some E
  refine ea_aload_n (pc := 183) dX12_init_183 rfl 0 rfl ?_
  refine ea_bipush (pc := 184) dX12_init_184 (v := 6) rfl ?_
  refine ea_newI (pc := 186) (N := 6) dX12_init_186 ew_177 (by decide) rfl (Nat.le_of_ble_eq_true rfl) ?_
  refine ea_nm eH64 ?_
  obtain ⟨f65, E⟩ := gd_some E
  obtain ⟨H66, eH66, E⟩ := let_some E
  refine ea_putR (pc := 188) dX12_init_188 ec_12 (k := 27) (Nat.le_of_ble_eq_true rfl) rfl (Or.inr ⟨rfl, rfl, rfl, ew_1429⟩) f65.1 f65.2 ?_
  refine ea_nm eH66 ?_
  obtain ⟨H67, eH67, E⟩ := let_some E
  refine ea_aload_n (pc := 191) dX12_init_191 rfl 0 rfl ?_
  refine ea_bipush (pc := 192) dX12_init_192 (v := 6) rfl ?_
  refine ea_newI (pc := 194) (N := 6) dX12_init_194 ew_177 (by decide) rfl (Nat.le_of_ble_eq_true rfl) ?_
  refine ea_nm eH67 ?_
  obtain ⟨f68, E⟩ := gd_some E
  obtain ⟨H69, eH69, E⟩ := let_some E
  refine ea_putR (pc := 196) dX12_init_196 ec_12 (k := 28) (Nat.le_of_ble_eq_true rfl) rfl (Or.inr ⟨rfl, rfl, rfl, ew_1430⟩) f68.1 f68.2 ?_
  refine ea_nm eH69 ?_
  exact (kJ199 H69 _ _ E)
set_option maxRecDepth 100000 in
set_option maxHeartbeats 0 in
theorem lBX12_init_149 {a0 : Nat} {J199 : ea_H → Option (Unit × ea_H)} {J199_ : ea_H → Option (Unit × ea_H)}  (mJ199 : ∀ (h : ea_H), fle (J199 h) (J199_ h)) {h : ea_H} : fle (BX12_init_149 a0 J199 h) (BX12_init_149 a0 J199_ h) :=
  (fle_let fun _ => (fle_gd (fle_let fun _ => (fle_let fun _ => (fle_gd (fle_let fun _ => (fle_let fun _ => (fle_gd (fle_let fun _ => (fle_let fun _ => (fle_gd (fle_let fun _ => (fle_let fun _ => (fle_gd (fle_let fun _ => (fle_let fun _ => (fle_gd (fle_let fun _ => (mJ199 _)))))))))))))))))))
set_option maxRecDepth 100000 in
set_option maxHeartbeats 0 in
theorem nBX12_init_149 {a0 : Nat} {J199 : ea_H → Option (Unit × ea_H)} {J199_ : Nat → (ea_H → Option (Unit × ea_H))}  (mJ199 : ∀ (h : ea_H), fct (J199 h) (fun f => J199_ f h)) {h : ea_H} : fct (BX12_init_149 a0 J199 h) (fun f => BX12_init_149 a0 (J199_ f) h) :=
  (fct_let fun _ => (fct_gd (fct_let fun _ => (fct_let fun _ => (fct_gd (fct_let fun _ => (fct_let fun _ => (fct_gd (fct_let fun _ => (fct_let fun _ => (fct_gd (fct_let fun _ => (fct_let fun _ => (fct_gd (fct_let fun _ => (fct_let fun _ => (fct_gd (fct_let fun _ => (mJ199 _)))))))))))))))))))
noncomputable def BX12_init_199 (a0 : Nat) (J247 : ea_H → Option (Unit × ea_H)) (h : ea_H) : Option (Unit × ea_H) :=
  (ea_let (ea_new h 20 6 6) fun H70 => (gd ((a0 < ea_n H70 ∧ ea_c H70 a0 = 12)) (ea_let (ea_wr H70 a0 29 (some (ea_n h))) fun H72 => (ea_let (ea_new H72 20 6 6) fun H73 => (gd ((a0 < ea_n H73 ∧ ea_c H73 a0 = 12)) (ea_let (ea_wr H73 a0 30 (some (ea_n H72))) fun H75 => (ea_let (ea_new H75 20 6 6) fun H76 => (gd ((a0 < ea_n H76 ∧ ea_c H76 a0 = 12)) (ea_let (ea_wr H76 a0 31 (some (ea_n H75))) fun H78 => (ea_let (ea_new H78 20 6 6) fun H79 => (gd ((a0 < ea_n H79 ∧ ea_c H79 a0 = 12)) (ea_let (ea_wr H79 a0 32 (some (ea_n H78))) fun H81 => (ea_let (ea_new H81 20 6 6) fun H82 => (gd ((a0 < ea_n H82 ∧ ea_c H82 a0 = 12)) (ea_let (ea_wr H82 a0 33 (some (ea_n H81))) fun H84 => (ea_let (ea_new H84 20 6 6) fun H85 => (gd ((a0 < ea_n H85 ∧ ea_c H85 a0 = 12)) (ea_let (ea_wr H85 a0 34 (some (ea_n H84))) fun H87 => (J247 H87)))))))))))))))))))
set_option maxRecDepth 100000 in
set_option maxHeartbeats 0 in
theorem tBX12_init_199 {d : Nat} {a0 : Nat} {h0 : ea_H} (hd : 2 ≤ d) {J247 : ea_H → Option (Unit × ea_H)}  (kJ247 : ∀ (h : ea_H) (r : Unit) (h' : ea_H), J247 h = some (r, h') → ea_W mX12_init d h0 none h' 247 [(0, vR (some a0))] [] h) {h : ea_H} {r : Unit} {h' : ea_H} (E : BX12_init_199 a0 J247 h = some (r, h')) : ea_W mX12_init d h0 none h' 199 [(0, vR (some a0))] [] h := by
  unfold BX12_init_199 at E
  obtain ⟨H70, eH70, E⟩ := let_some E
  refine ea_aload_n (pc := 199) dX12_init_199 rfl 0 rfl ?_
  refine ea_bipush (pc := 200) dX12_init_200 (v := 6) rfl ?_
  refine ea_newI (pc := 202) (N := 6) dX12_init_202 ew_177 (by decide) rfl (Nat.le_of_ble_eq_true rfl) ?_
  refine ea_nm eH70 ?_
  obtain ⟨f71, E⟩ := gd_some E
  obtain ⟨H72, eH72, E⟩ := let_some E
  refine ea_putR (pc := 204) dX12_init_204 ec_12 (k := 29) (Nat.le_of_ble_eq_true rfl) rfl (Or.inr ⟨rfl, rfl, rfl, ew_1431⟩) f71.1 f71.2 ?_
  refine ea_nm eH72 ?_
  obtain ⟨H73, eH73, E⟩ := let_some E
  refine ea_aload_n (pc := 207) dX12_init_207 rfl 0 rfl ?_
  refine ea_bipush (pc := 208) dX12_init_208 (v := 6) rfl ?_
  refine ea_newI (pc := 210) (N := 6) dX12_init_210 ew_177 (by decide) rfl (Nat.le_of_ble_eq_true rfl) ?_
  refine ea_nm eH73 ?_
  obtain ⟨f74, E⟩ := gd_some E
  obtain ⟨H75, eH75, E⟩ := let_some E
  refine ea_putR (pc := 212) dX12_init_212 ec_12 (k := 30) (Nat.le_of_ble_eq_true rfl) rfl (Or.inr ⟨rfl, rfl, rfl, ew_1432⟩) f74.1 f74.2 ?_
  refine ea_nm eH75 ?_
  obtain ⟨H76, eH76, E⟩ := let_some E
  refine ea_aload_n (pc := 215) dX12_init_215 rfl 0 rfl ?_
  refine ea_bipush (pc := 216) dX12_init_216 (v := 6) rfl ?_
  refine ea_newI (pc := 218) (N := 6) dX12_init_218 ew_177 (by decide) rfl (Nat.le_of_ble_eq_true rfl) ?_
  refine ea_nm eH76 ?_
  obtain ⟨f77, E⟩ := gd_some E
  obtain ⟨H78, eH78, E⟩ := let_some E
  refine ea_putR (pc := 220) dX12_init_220 ec_12 (k := 31) (Nat.le_of_ble_eq_true rfl) rfl (Or.inr ⟨rfl, rfl, rfl, ew_1433⟩) f77.1 f77.2 ?_
  refine ea_nm eH78 ?_
  obtain ⟨H79, eH79, E⟩ := let_some E
  refine ea_aload_n (pc := 223) dX12_init_223 rfl 0 rfl ?_
  refine ea_bipush (pc := 224) dX12_init_224 (v := 6) rfl ?_
  refine ea_newI (pc := 226) (N := 6) dX12_init_226 ew_177 (by decide) rfl (Nat.le_of_ble_eq_true rfl) ?_
  refine ea_nm eH79 ?_
  obtain ⟨f80, E⟩ := gd_some E
  obtain ⟨H81, eH81, E⟩ := let_some E
  refine ea_putR (pc := 228) dX12_init_228 ec_12 (k := 32) (Nat.le_of_ble_eq_true rfl) rfl (Or.inr ⟨rfl, rfl, rfl, ew_1434⟩) f80.1 f80.2 ?_
  refine ea_nm eH81 ?_
  obtain ⟨H82, eH82, E⟩ := let_some E
  refine ea_aload_n (pc := 231) dX12_init_231 rfl 0 rfl ?_
  refine ea_bipush (pc := 232) dX12_init_232 (v := 6) rfl ?_
  refine ea_newI (pc := 234) (N := 6) dX12_init_234 ew_177 (by decide) rfl (Nat.le_of_ble_eq_true rfl) ?_
  refine ea_nm eH82 ?_
  obtain ⟨f83, E⟩ := gd_some E
  obtain ⟨H84, eH84, E⟩ := let_some E
  refine ea_putR (pc := 236) dX12_init_236 ec_12 (k := 33) (Nat.le_of_ble_eq_true rfl) rfl (Or.inr ⟨rfl, rfl, rfl, ew_1435⟩) f83.1 f83.2 ?_
  refine ea_nm eH84 ?_
  obtain ⟨H85, eH85, E⟩ := let_some E
  refine ea_aload_n (pc := 239) dX12_init_239 rfl 0 rfl ?_
  refine ea_bipush (pc := 240) dX12_init_240 (v := 6) rfl ?_
  refine ea_newI (pc := 242) (N := 6) dX12_init_242 ew_177 (by decide) rfl (Nat.le_of_ble_eq_true rfl) ?_
  refine ea_nm eH85 ?_
  obtain ⟨f86, E⟩ := gd_some E
  obtain ⟨H87, eH87, E⟩ := let_some E
  refine ea_putR (pc := 244) dX12_init_244 ec_12 (k := 34) (Nat.le_of_ble_eq_true rfl) rfl (Or.inr ⟨rfl, rfl, rfl, ew_1436⟩) f86.1 f86.2 ?_
  refine ea_nm eH87 ?_
  exact (kJ247 H87 _ _ E)
set_option maxRecDepth 100000 in
set_option maxHeartbeats 0 in
theorem lBX12_init_199 {a0 : Nat} {J247 : ea_H → Option (Unit × ea_H)} {J247_ : ea_H → Option (Unit × ea_H)}  (mJ247 : ∀ (h : ea_H), fle (J247 h) (J247_ h)) {h : ea_H} : fle (BX12_init_199 a0 J247 h) (BX12_init_199 a0 J247_ h) :=
  (fle_let fun _ => (fle_gd (fle_let fun _ => (fle_let fun _ => (fle_gd (fle_let fun _ => (fle_let fun _ => (fle_gd (fle_let fun _ => (fle_let fun _ => (fle_gd (fle_let fun _ => (fle_let fun _ => (fle_gd (fle_let fun _ => (fle_let fun _ => (fle_gd (fle_let fun _ => (mJ247 _)))))))))))))))))))
set_option maxRecDepth 100000 in
set_option maxHeartbeats 0 in
theorem nBX12_init_199 {a0 : Nat} {J247 : ea_H → Option (Unit × ea_H)} {J247_ : Nat → (ea_H → Option (Unit × ea_H))}  (mJ247 : ∀ (h : ea_H), fct (J247 h) (fun f => J247_ f h)) {h : ea_H} : fct (BX12_init_199 a0 J247 h) (fun f => BX12_init_199 a0 (J247_ f) h) :=
  (fct_let fun _ => (fct_gd (fct_let fun _ => (fct_let fun _ => (fct_gd (fct_let fun _ => (fct_let fun _ => (fct_gd (fct_let fun _ => (fct_let fun _ => (fct_gd (fct_let fun _ => (fct_let fun _ => (fct_gd (fct_let fun _ => (fct_let fun _ => (fct_gd (fct_let fun _ => (mJ247 _)))))))))))))))))))
noncomputable def BX12_init_247 (a0 : Nat) (J299 : ea_H → Option (Unit × ea_H)) (h : ea_H) : Option (Unit × ea_H) :=
  (ea_let (ea_new h 20 150 150) fun H88 => (gd ((a0 < ea_n H88 ∧ ea_c H88 a0 = 12)) (ea_let (ea_wr H88 a0 35 (some (ea_n h))) fun H90 => (ea_let (ea_new H90 20 144 144) fun H91 => (gd ((a0 < ea_n H91 ∧ ea_c H91 a0 = 12)) (ea_let (ea_wr H91 a0 36 (some (ea_n H90))) fun H93 => (ea_let (ea_new H93 20 7320 7320) fun H94 => (gd ((a0 < ea_n H94 ∧ ea_c H94 a0 = 12)) (ea_let (ea_wr H94 a0 37 (some (ea_n H93))) fun H96 => (ea_let (ea_new H96 20 25 25) fun H97 => (gd ((a0 < ea_n H97 ∧ ea_c H97 a0 = 12)) (ea_let (ea_wr H97 a0 38 (some (ea_n H96))) fun H99 => (ea_let (ea_new H99 20 24 24) fun H100 => (gd ((a0 < ea_n H100 ∧ ea_c H100 a0 = 12)) (ea_let (ea_wr H100 a0 39 (some (ea_n H99))) fun H102 => (ea_let (ea_new H102 20 1220 1220) fun H103 => (gd ((a0 < ea_n H103 ∧ ea_c H103 a0 = 12)) (ea_let (ea_wr H103 a0 40 (some (ea_n H102))) fun H105 => (J299 H105)))))))))))))))))))
set_option maxRecDepth 100000 in
set_option maxHeartbeats 0 in
theorem tBX12_init_247 {d : Nat} {a0 : Nat} {h0 : ea_H} (hd : 2 ≤ d) {J299 : ea_H → Option (Unit × ea_H)}  (kJ299 : ∀ (h : ea_H) (r : Unit) (h' : ea_H), J299 h = some (r, h') → ea_W mX12_init d h0 none h' 299 [(0, vR (some a0))] [] h) {h : ea_H} {r : Unit} {h' : ea_H} (E : BX12_init_247 a0 J299 h = some (r, h')) : ea_W mX12_init d h0 none h' 247 [(0, vR (some a0))] [] h := by
  unfold BX12_init_247 at E
  obtain ⟨H88, eH88, E⟩ := let_some E
  refine ea_aload_n (pc := 247) dX12_init_247 rfl 0 rfl ?_
  refine ea_sipush (pc := 248) dX12_init_248 (v := 150) rfl ?_
  refine ea_newI (pc := 251) (N := 150) dX12_init_251 ew_177 (by decide) rfl (Nat.le_of_ble_eq_true rfl) ?_
  refine ea_nm eH88 ?_
  obtain ⟨f89, E⟩ := gd_some E
  obtain ⟨H90, eH90, E⟩ := let_some E
  refine ea_putR (pc := 253) dX12_init_253 ec_12 (k := 35) (Nat.le_of_ble_eq_true rfl) rfl (Or.inr ⟨rfl, rfl, rfl, ew_1437⟩) f89.1 f89.2 ?_
  refine ea_nm eH90 ?_
  obtain ⟨H91, eH91, E⟩ := let_some E
  refine ea_aload_n (pc := 256) dX12_init_256 rfl 0 rfl ?_
  refine ea_sipush (pc := 257) dX12_init_257 (v := 144) rfl ?_
  refine ea_newI (pc := 260) (N := 144) dX12_init_260 ew_177 (by decide) rfl (Nat.le_of_ble_eq_true rfl) ?_
  refine ea_nm eH91 ?_
  obtain ⟨f92, E⟩ := gd_some E
  obtain ⟨H93, eH93, E⟩ := let_some E
  refine ea_putR (pc := 262) dX12_init_262 ec_12 (k := 36) (Nat.le_of_ble_eq_true rfl) rfl (Or.inr ⟨rfl, rfl, rfl, ew_1438⟩) f92.1 f92.2 ?_
  refine ea_nm eH93 ?_
  obtain ⟨H94, eH94, E⟩ := let_some E
  refine ea_aload_n (pc := 265) dX12_init_265 rfl 0 rfl ?_
  refine ea_sipush (pc := 266) dX12_init_266 (v := 7320) rfl ?_
  refine ea_newI (pc := 269) (N := 7320) dX12_init_269 ew_177 (by decide) rfl (Nat.le_of_ble_eq_true rfl) ?_
  refine ea_nm eH94 ?_
  obtain ⟨f95, E⟩ := gd_some E
  obtain ⟨H96, eH96, E⟩ := let_some E
  refine ea_putR (pc := 271) dX12_init_271 ec_12 (k := 37) (Nat.le_of_ble_eq_true rfl) rfl (Or.inr ⟨rfl, rfl, rfl, ew_1439⟩) f95.1 f95.2 ?_
  refine ea_nm eH96 ?_
  obtain ⟨H97, eH97, E⟩ := let_some E
  refine ea_aload_n (pc := 274) dX12_init_274 rfl 0 rfl ?_
  refine ea_bipush (pc := 275) dX12_init_275 (v := 25) rfl ?_
  refine ea_newI (pc := 277) (N := 25) dX12_init_277 ew_177 (by decide) rfl (Nat.le_of_ble_eq_true rfl) ?_
  refine ea_nm eH97 ?_
  obtain ⟨f98, E⟩ := gd_some E
  obtain ⟨H99, eH99, E⟩ := let_some E
  refine ea_putR (pc := 279) dX12_init_279 ec_12 (k := 38) (Nat.le_of_ble_eq_true rfl) rfl (Or.inr ⟨rfl, rfl, rfl, ew_1440⟩) f98.1 f98.2 ?_
  refine ea_nm eH99 ?_
  obtain ⟨H100, eH100, E⟩ := let_some E
  refine ea_aload_n (pc := 282) dX12_init_282 rfl 0 rfl ?_
  refine ea_bipush (pc := 283) dX12_init_283 (v := 24) rfl ?_
  refine ea_newI (pc := 285) (N := 24) dX12_init_285 ew_177 (by decide) rfl (Nat.le_of_ble_eq_true rfl) ?_
  refine ea_nm eH100 ?_
  obtain ⟨f101, E⟩ := gd_some E
  obtain ⟨H102, eH102, E⟩ := let_some E
  refine ea_putR (pc := 287) dX12_init_287 ec_12 (k := 39) (Nat.le_of_ble_eq_true rfl) rfl (Or.inr ⟨rfl, rfl, rfl, ew_1441⟩) f101.1 f101.2 ?_
  refine ea_nm eH102 ?_
  obtain ⟨H103, eH103, E⟩ := let_some E
  refine ea_aload_n (pc := 290) dX12_init_290 rfl 0 rfl ?_
  refine ea_sipush (pc := 291) dX12_init_291 (v := 1220) rfl ?_
  refine ea_newI (pc := 294) (N := 1220) dX12_init_294 ew_177 (by decide) rfl (Nat.le_of_ble_eq_true rfl) ?_
  refine ea_nm eH103 ?_
  obtain ⟨f104, E⟩ := gd_some E
  obtain ⟨H105, eH105, E⟩ := let_some E
  refine ea_putR (pc := 296) dX12_init_296 ec_12 (k := 40) (Nat.le_of_ble_eq_true rfl) rfl (Or.inr ⟨rfl, rfl, rfl, ew_1442⟩) f104.1 f104.2 ?_
  refine ea_nm eH105 ?_
  exact (kJ299 H105 _ _ E)
set_option maxRecDepth 100000 in
set_option maxHeartbeats 0 in
theorem lBX12_init_247 {a0 : Nat} {J299 : ea_H → Option (Unit × ea_H)} {J299_ : ea_H → Option (Unit × ea_H)}  (mJ299 : ∀ (h : ea_H), fle (J299 h) (J299_ h)) {h : ea_H} : fle (BX12_init_247 a0 J299 h) (BX12_init_247 a0 J299_ h) :=
  (fle_let fun _ => (fle_gd (fle_let fun _ => (fle_let fun _ => (fle_gd (fle_let fun _ => (fle_let fun _ => (fle_gd (fle_let fun _ => (fle_let fun _ => (fle_gd (fle_let fun _ => (fle_let fun _ => (fle_gd (fle_let fun _ => (fle_let fun _ => (fle_gd (fle_let fun _ => (mJ299 _)))))))))))))))))))
set_option maxRecDepth 100000 in
set_option maxHeartbeats 0 in
theorem nBX12_init_247 {a0 : Nat} {J299 : ea_H → Option (Unit × ea_H)} {J299_ : Nat → (ea_H → Option (Unit × ea_H))}  (mJ299 : ∀ (h : ea_H), fct (J299 h) (fun f => J299_ f h)) {h : ea_H} : fct (BX12_init_247 a0 J299 h) (fun f => BX12_init_247 a0 (J299_ f) h) :=
  (fct_let fun _ => (fct_gd (fct_let fun _ => (fct_let fun _ => (fct_gd (fct_let fun _ => (fct_let fun _ => (fct_gd (fct_let fun _ => (fct_let fun _ => (fct_gd (fct_let fun _ => (fct_let fun _ => (fct_gd (fct_let fun _ => (fct_let fun _ => (fct_gd (fct_let fun _ => (mJ299 _)))))))))))))))))))
noncomputable def BX12_init_299 (a0 : Nat) (J346 : ea_H → Option (Unit × ea_H)) (h : ea_H) : Option (Unit × ea_H) :=
  (ea_let (ea_new h 20 600 600) fun H106 => (gd ((a0 < ea_n H106 ∧ ea_c H106 a0 = 12)) (ea_let (ea_wr H106 a0 41 (some (ea_n h))) fun H108 => (ea_let (ea_new H108 20 620 620) fun H109 => (gd ((a0 < ea_n H109 ∧ ea_c H109 a0 = 12)) (ea_let (ea_wr H109 a0 42 (some (ea_n H108))) fun H111 => (gd ((a0 < ea_n H111 ∧ ea_c H111 a0 = 12)) (ea_let (ea_wi H111 a0 62 (-1)) fun H113 => (ea_let (ea_new H113 20 120 120) fun H114 => (gd ((a0 < ea_n H114 ∧ ea_c H114 a0 = 12)) (ea_let (ea_wr H114 a0 64 (some (ea_n H113))) fun H116 => (ea_let (ea_new H116 20 120 120) fun H117 => (gd ((a0 < ea_n H117 ∧ ea_c H117 a0 = 12)) (ea_let (ea_wr H117 a0 65 (some (ea_n H116))) fun H119 => (ea_let (ea_new H119 20 120 120) fun H120 => (gd ((a0 < ea_n H120 ∧ ea_c H120 a0 = 12)) (ea_let (ea_wr H120 a0 66 (some (ea_n H119))) fun H122 => (J346 H122))))))))))))))))))
set_option maxRecDepth 100000 in
set_option maxHeartbeats 0 in
theorem tBX12_init_299 {d : Nat} {a0 : Nat} {h0 : ea_H} (hd : 2 ≤ d) {J346 : ea_H → Option (Unit × ea_H)}  (kJ346 : ∀ (h : ea_H) (r : Unit) (h' : ea_H), J346 h = some (r, h') → ea_W mX12_init d h0 none h' 346 [(0, vR (some a0))] [] h) {h : ea_H} {r : Unit} {h' : ea_H} (E : BX12_init_299 a0 J346 h = some (r, h')) : ea_W mX12_init d h0 none h' 299 [(0, vR (some a0))] [] h := by
  unfold BX12_init_299 at E
  obtain ⟨H106, eH106, E⟩ := let_some E
  refine ea_aload_n (pc := 299) dX12_init_299 rfl 0 rfl ?_
  refine ea_sipush (pc := 300) dX12_init_300 (v := 600) rfl ?_
  refine ea_newI (pc := 303) (N := 600) dX12_init_303 ew_177 (by decide) rfl (Nat.le_of_ble_eq_true rfl) ?_
  refine ea_nm eH106 ?_
  obtain ⟨f107, E⟩ := gd_some E
  obtain ⟨H108, eH108, E⟩ := let_some E
  refine ea_putR (pc := 305) dX12_init_305 ec_12 (k := 41) (Nat.le_of_ble_eq_true rfl) rfl (Or.inr ⟨rfl, rfl, rfl, ew_1443⟩) f107.1 f107.2 ?_
  refine ea_nm eH108 ?_
  obtain ⟨H109, eH109, E⟩ := let_some E
  refine ea_aload_n (pc := 308) dX12_init_308 rfl 0 rfl ?_
  refine ea_sipush (pc := 309) dX12_init_309 (v := 620) rfl ?_
  refine ea_newI (pc := 312) (N := 620) dX12_init_312 ew_177 (by decide) rfl (Nat.le_of_ble_eq_true rfl) ?_
  refine ea_nm eH109 ?_
  obtain ⟨f110, E⟩ := gd_some E
  obtain ⟨H111, eH111, E⟩ := let_some E
  refine ea_putR (pc := 314) dX12_init_314 ec_12 (k := 42) (Nat.le_of_ble_eq_true rfl) rfl (Or.inr ⟨rfl, rfl, rfl, ew_1444⟩) f110.1 f110.2 ?_
  refine ea_nm eH111 ?_
  obtain ⟨f112, E⟩ := gd_some E
  refine ea_aload_n (pc := 317) dX12_init_317 rfl 0 rfl ?_
  refine ea_iconst (pc := 318) dX12_init_318 (v := (-1)) rfl ?_
  obtain ⟨H113, eH113, E⟩ := let_some E
  refine ea_putI (pc := 319) dX12_init_319 ec_12 (k := 62) (Nat.le_of_ble_eq_true rfl) rfl (Or.inl ⟨rfl, Or.inl ew_1464⟩) rfl rfl f112.1 f112.2 ?_
  refine ea_nm eH113 ?_
  obtain ⟨H114, eH114, E⟩ := let_some E
  refine ea_aload_n (pc := 322) dX12_init_322 rfl 0 rfl ?_
  refine ea_bipush (pc := 323) dX12_init_323 (v := 120) rfl ?_
  refine ea_newI (pc := 325) (N := 120) dX12_init_325 ew_177 (by decide) rfl (Nat.le_of_ble_eq_true rfl) ?_
  refine ea_nm eH114 ?_
  obtain ⟨f115, E⟩ := gd_some E
  obtain ⟨H116, eH116, E⟩ := let_some E
  refine ea_putR (pc := 327) dX12_init_327 ec_12 (k := 64) (Nat.le_of_ble_eq_true rfl) rfl (Or.inr ⟨rfl, rfl, rfl, ew_1466⟩) f115.1 f115.2 ?_
  refine ea_nm eH116 ?_
  obtain ⟨H117, eH117, E⟩ := let_some E
  refine ea_aload_n (pc := 330) dX12_init_330 rfl 0 rfl ?_
  refine ea_bipush (pc := 331) dX12_init_331 (v := 120) rfl ?_
  refine ea_newI (pc := 333) (N := 120) dX12_init_333 ew_177 (by decide) rfl (Nat.le_of_ble_eq_true rfl) ?_
  refine ea_nm eH117 ?_
  obtain ⟨f118, E⟩ := gd_some E
  obtain ⟨H119, eH119, E⟩ := let_some E
  refine ea_putR (pc := 335) dX12_init_335 ec_12 (k := 65) (Nat.le_of_ble_eq_true rfl) rfl (Or.inr ⟨rfl, rfl, rfl, ew_1467⟩) f118.1 f118.2 ?_
  refine ea_nm eH119 ?_
  obtain ⟨H120, eH120, E⟩ := let_some E
  refine ea_aload_n (pc := 338) dX12_init_338 rfl 0 rfl ?_
  refine ea_bipush (pc := 339) dX12_init_339 (v := 120) rfl ?_
  refine ea_newI (pc := 341) (N := 120) dX12_init_341 ew_177 (by decide) rfl (Nat.le_of_ble_eq_true rfl) ?_
  refine ea_nm eH120 ?_
  obtain ⟨f121, E⟩ := gd_some E
  obtain ⟨H122, eH122, E⟩ := let_some E
  refine ea_putR (pc := 343) dX12_init_343 ec_12 (k := 66) (Nat.le_of_ble_eq_true rfl) rfl (Or.inr ⟨rfl, rfl, rfl, ew_1468⟩) f121.1 f121.2 ?_
  refine ea_nm eH122 ?_
  exact (kJ346 H122 _ _ E)
set_option maxRecDepth 100000 in
set_option maxHeartbeats 0 in
theorem lBX12_init_299 {a0 : Nat} {J346 : ea_H → Option (Unit × ea_H)} {J346_ : ea_H → Option (Unit × ea_H)}  (mJ346 : ∀ (h : ea_H), fle (J346 h) (J346_ h)) {h : ea_H} : fle (BX12_init_299 a0 J346 h) (BX12_init_299 a0 J346_ h) :=
  (fle_let fun _ => (fle_gd (fle_let fun _ => (fle_let fun _ => (fle_gd (fle_let fun _ => (fle_gd (fle_let fun _ => (fle_let fun _ => (fle_gd (fle_let fun _ => (fle_let fun _ => (fle_gd (fle_let fun _ => (fle_let fun _ => (fle_gd (fle_let fun _ => (mJ346 _))))))))))))))))))
set_option maxRecDepth 100000 in
set_option maxHeartbeats 0 in
theorem nBX12_init_299 {a0 : Nat} {J346 : ea_H → Option (Unit × ea_H)} {J346_ : Nat → (ea_H → Option (Unit × ea_H))}  (mJ346 : ∀ (h : ea_H), fct (J346 h) (fun f => J346_ f h)) {h : ea_H} : fct (BX12_init_299 a0 J346 h) (fun f => BX12_init_299 a0 (J346_ f) h) :=
  (fct_let fun _ => (fct_gd (fct_let fun _ => (fct_let fun _ => (fct_gd (fct_let fun _ => (fct_gd (fct_let fun _ => (fct_let fun _ => (fct_gd (fct_let fun _ => (fct_let fun _ => (fct_gd (fct_let fun _ => (fct_let fun _ => (fct_gd (fct_let fun _ => (mJ346 _))))))))))))))))))
noncomputable def BX12_init_346 (a0 : Nat) (J394 : ea_H → Option (Unit × ea_H)) (h : ea_H) : Option (Unit × ea_H) :=
  (ea_let (ea_new h 20 120 120) fun H123 => (gd ((a0 < ea_n H123 ∧ ea_c H123 a0 = 12)) (ea_let (ea_wr H123 a0 67 (some (ea_n h))) fun H125 => (ea_let (ea_new H125 20 120 120) fun H126 => (gd ((a0 < ea_n H126 ∧ ea_c H126 a0 = 12)) (ea_let (ea_wr H126 a0 68 (some (ea_n H125))) fun H128 => (ea_let (ea_new H128 20 120 120) fun H129 => (gd ((a0 < ea_n H129 ∧ ea_c H129 a0 = 12)) (ea_let (ea_wr H129 a0 69 (some (ea_n H128))) fun H131 => (ea_let (ea_new H131 20 120 120) fun H132 => (gd ((a0 < ea_n H132 ∧ ea_c H132 a0 = 12)) (ea_let (ea_wr H132 a0 70 (some (ea_n H131))) fun H134 => (ea_let (ea_new H134 20 120 120) fun H135 => (gd ((a0 < ea_n H135 ∧ ea_c H135 a0 = 12)) (ea_let (ea_wr H135 a0 71 (some (ea_n H134))) fun H137 => (ea_let (ea_new H137 20 120 120) fun H138 => (gd ((a0 < ea_n H138 ∧ ea_c H138 a0 = 12)) (ea_let (ea_wr H138 a0 72 (some (ea_n H137))) fun H140 => (J394 H140)))))))))))))))))))
set_option maxRecDepth 100000 in
set_option maxHeartbeats 0 in
theorem tBX12_init_346 {d : Nat} {a0 : Nat} {h0 : ea_H} (hd : 2 ≤ d) {J394 : ea_H → Option (Unit × ea_H)}  (kJ394 : ∀ (h : ea_H) (r : Unit) (h' : ea_H), J394 h = some (r, h') → ea_W mX12_init d h0 none h' 394 [(0, vR (some a0))] [] h) {h : ea_H} {r : Unit} {h' : ea_H} (E : BX12_init_346 a0 J394 h = some (r, h')) : ea_W mX12_init d h0 none h' 346 [(0, vR (some a0))] [] h := by
  unfold BX12_init_346 at E
  obtain ⟨H123, eH123, E⟩ := let_some E
  refine ea_aload_n (pc := 346) dX12_init_346 rfl 0 rfl ?_
  refine ea_bipush (pc := 347) dX12_init_347 (v := 120) rfl ?_
  refine ea_newI (pc := 349) (N := 120) dX12_init_349 ew_177 (by decide) rfl (Nat.le_of_ble_eq_true rfl) ?_
  refine ea_nm eH123 ?_
  obtain ⟨f124, E⟩ := gd_some E
  obtain ⟨H125, eH125, E⟩ := let_some E
  refine ea_putR (pc := 351) dX12_init_351 ec_12 (k := 67) (Nat.le_of_ble_eq_true rfl) rfl (Or.inr ⟨rfl, rfl, rfl, ew_1469⟩) f124.1 f124.2 ?_
  refine ea_nm eH125 ?_
  obtain ⟨H126, eH126, E⟩ := let_some E
  refine ea_aload_n (pc := 354) dX12_init_354 rfl 0 rfl ?_
  refine ea_bipush (pc := 355) dX12_init_355 (v := 120) rfl ?_
  refine ea_newI (pc := 357) (N := 120) dX12_init_357 ew_177 (by decide) rfl (Nat.le_of_ble_eq_true rfl) ?_
  refine ea_nm eH126 ?_
  obtain ⟨f127, E⟩ := gd_some E
  obtain ⟨H128, eH128, E⟩ := let_some E
  refine ea_putR (pc := 359) dX12_init_359 ec_12 (k := 68) (Nat.le_of_ble_eq_true rfl) rfl (Or.inr ⟨rfl, rfl, rfl, ew_1470⟩) f127.1 f127.2 ?_
  refine ea_nm eH128 ?_
  obtain ⟨H129, eH129, E⟩ := let_some E
  refine ea_aload_n (pc := 362) dX12_init_362 rfl 0 rfl ?_
  refine ea_bipush (pc := 363) dX12_init_363 (v := 120) rfl ?_
  refine ea_newI (pc := 365) (N := 120) dX12_init_365 ew_177 (by decide) rfl (Nat.le_of_ble_eq_true rfl) ?_
  refine ea_nm eH129 ?_
  obtain ⟨f130, E⟩ := gd_some E
  obtain ⟨H131, eH131, E⟩ := let_some E
  refine ea_putR (pc := 367) dX12_init_367 ec_12 (k := 69) (Nat.le_of_ble_eq_true rfl) rfl (Or.inr ⟨rfl, rfl, rfl, ew_1471⟩) f130.1 f130.2 ?_
  refine ea_nm eH131 ?_
  obtain ⟨H132, eH132, E⟩ := let_some E
  refine ea_aload_n (pc := 370) dX12_init_370 rfl 0 rfl ?_
  refine ea_bipush (pc := 371) dX12_init_371 (v := 120) rfl ?_
  refine ea_newI (pc := 373) (N := 120) dX12_init_373 ew_177 (by decide) rfl (Nat.le_of_ble_eq_true rfl) ?_
  refine ea_nm eH132 ?_
  obtain ⟨f133, E⟩ := gd_some E
  obtain ⟨H134, eH134, E⟩ := let_some E
  refine ea_putR (pc := 375) dX12_init_375 ec_12 (k := 70) (Nat.le_of_ble_eq_true rfl) rfl (Or.inr ⟨rfl, rfl, rfl, ew_1472⟩) f133.1 f133.2 ?_
  refine ea_nm eH134 ?_
  obtain ⟨H135, eH135, E⟩ := let_some E
  refine ea_aload_n (pc := 378) dX12_init_378 rfl 0 rfl ?_
  refine ea_bipush (pc := 379) dX12_init_379 (v := 120) rfl ?_
  refine ea_newI (pc := 381) (N := 120) dX12_init_381 ew_177 (by decide) rfl (Nat.le_of_ble_eq_true rfl) ?_
  refine ea_nm eH135 ?_
  obtain ⟨f136, E⟩ := gd_some E
  obtain ⟨H137, eH137, E⟩ := let_some E
  refine ea_putR (pc := 383) dX12_init_383 ec_12 (k := 71) (Nat.le_of_ble_eq_true rfl) rfl (Or.inr ⟨rfl, rfl, rfl, ew_1473⟩) f136.1 f136.2 ?_
  refine ea_nm eH137 ?_
  obtain ⟨H138, eH138, E⟩ := let_some E
  refine ea_aload_n (pc := 386) dX12_init_386 rfl 0 rfl ?_
  refine ea_bipush (pc := 387) dX12_init_387 (v := 120) rfl ?_
  refine ea_newI (pc := 389) (N := 120) dX12_init_389 ew_177 (by decide) rfl (Nat.le_of_ble_eq_true rfl) ?_
  refine ea_nm eH138 ?_
  obtain ⟨f139, E⟩ := gd_some E
  obtain ⟨H140, eH140, E⟩ := let_some E
  refine ea_putR (pc := 391) dX12_init_391 ec_12 (k := 72) (Nat.le_of_ble_eq_true rfl) rfl (Or.inr ⟨rfl, rfl, rfl, ew_1474⟩) f139.1 f139.2 ?_
  refine ea_nm eH140 ?_
  exact (kJ394 H140 _ _ E)
set_option maxRecDepth 100000 in
set_option maxHeartbeats 0 in
theorem lBX12_init_346 {a0 : Nat} {J394 : ea_H → Option (Unit × ea_H)} {J394_ : ea_H → Option (Unit × ea_H)}  (mJ394 : ∀ (h : ea_H), fle (J394 h) (J394_ h)) {h : ea_H} : fle (BX12_init_346 a0 J394 h) (BX12_init_346 a0 J394_ h) :=
  (fle_let fun _ => (fle_gd (fle_let fun _ => (fle_let fun _ => (fle_gd (fle_let fun _ => (fle_let fun _ => (fle_gd (fle_let fun _ => (fle_let fun _ => (fle_gd (fle_let fun _ => (fle_let fun _ => (fle_gd (fle_let fun _ => (fle_let fun _ => (fle_gd (fle_let fun _ => (mJ394 _)))))))))))))))))))
set_option maxRecDepth 100000 in
set_option maxHeartbeats 0 in
theorem nBX12_init_346 {a0 : Nat} {J394 : ea_H → Option (Unit × ea_H)} {J394_ : Nat → (ea_H → Option (Unit × ea_H))}  (mJ394 : ∀ (h : ea_H), fct (J394 h) (fun f => J394_ f h)) {h : ea_H} : fct (BX12_init_346 a0 J394 h) (fun f => BX12_init_346 a0 (J394_ f) h) :=
  (fct_let fun _ => (fct_gd (fct_let fun _ => (fct_let fun _ => (fct_gd (fct_let fun _ => (fct_let fun _ => (fct_gd (fct_let fun _ => (fct_let fun _ => (fct_gd (fct_let fun _ => (fct_let fun _ => (fct_gd (fct_let fun _ => (fct_let fun _ => (fct_gd (fct_let fun _ => (mJ394 _)))))))))))))))))))
noncomputable def BX12_init_394 (a0 : Nat) (J442 : ea_H → Option (Unit × ea_H)) (h : ea_H) : Option (Unit × ea_H) :=
  (ea_let (ea_new h 20 120 120) fun H141 => (gd ((a0 < ea_n H141 ∧ ea_c H141 a0 = 12)) (ea_let (ea_wr H141 a0 73 (some (ea_n h))) fun H143 => (ea_let (ea_new H143 20 120 120) fun H144 => (gd ((a0 < ea_n H144 ∧ ea_c H144 a0 = 12)) (ea_let (ea_wr H144 a0 74 (some (ea_n H143))) fun H146 => (ea_let (ea_new H146 20 120 120) fun H147 => (gd ((a0 < ea_n H147 ∧ ea_c H147 a0 = 12)) (ea_let (ea_wr H147 a0 75 (some (ea_n H146))) fun H149 => (ea_let (ea_new H149 20 120 120) fun H150 => (gd ((a0 < ea_n H150 ∧ ea_c H150 a0 = 12)) (ea_let (ea_wr H150 a0 76 (some (ea_n H149))) fun H152 => (ea_let (ea_new H152 20 120 120) fun H153 => (gd ((a0 < ea_n H153 ∧ ea_c H153 a0 = 12)) (ea_let (ea_wr H153 a0 77 (some (ea_n H152))) fun H155 => (ea_let (ea_new H155 21 120 120) fun H156 => (gd ((a0 < ea_n H156 ∧ ea_c H156 a0 = 12)) (ea_let (ea_wr H156 a0 78 (some (ea_n H155))) fun H158 => (J442 H158)))))))))))))))))))
set_option maxRecDepth 100000 in
set_option maxHeartbeats 0 in
theorem tBX12_init_394 {d : Nat} {a0 : Nat} {h0 : ea_H} (hd : 2 ≤ d) {J442 : ea_H → Option (Unit × ea_H)}  (kJ442 : ∀ (h : ea_H) (r : Unit) (h' : ea_H), J442 h = some (r, h') → ea_W mX12_init d h0 none h' 442 [(0, vR (some a0))] [] h) {h : ea_H} {r : Unit} {h' : ea_H} (E : BX12_init_394 a0 J442 h = some (r, h')) : ea_W mX12_init d h0 none h' 394 [(0, vR (some a0))] [] h := by
  unfold BX12_init_394 at E
  obtain ⟨H141, eH141, E⟩ := let_some E
  refine ea_aload_n (pc := 394) dX12_init_394 rfl 0 rfl ?_
  refine ea_bipush (pc := 395) dX12_init_395 (v := 120) rfl ?_
  refine ea_newI (pc := 397) (N := 120) dX12_init_397 ew_177 (by decide) rfl (Nat.le_of_ble_eq_true rfl) ?_
  refine ea_nm eH141 ?_
  obtain ⟨f142, E⟩ := gd_some E
  obtain ⟨H143, eH143, E⟩ := let_some E
  refine ea_putR (pc := 399) dX12_init_399 ec_12 (k := 73) (Nat.le_of_ble_eq_true rfl) rfl (Or.inr ⟨rfl, rfl, rfl, ew_1475⟩) f142.1 f142.2 ?_
  refine ea_nm eH143 ?_
  obtain ⟨H144, eH144, E⟩ := let_some E
  refine ea_aload_n (pc := 402) dX12_init_402 rfl 0 rfl ?_
  refine ea_bipush (pc := 403) dX12_init_403 (v := 120) rfl ?_
  refine ea_newI (pc := 405) (N := 120) dX12_init_405 ew_177 (by decide) rfl (Nat.le_of_ble_eq_true rfl) ?_
  refine ea_nm eH144 ?_
  obtain ⟨f145, E⟩ := gd_some E
  obtain ⟨H146, eH146, E⟩ := let_some E
  refine ea_putR (pc := 407) dX12_init_407 ec_12 (k := 74) (Nat.le_of_ble_eq_true rfl) rfl (Or.inr ⟨rfl, rfl, rfl, ew_1476⟩) f145.1 f145.2 ?_
  refine ea_nm eH146 ?_
  obtain ⟨H147, eH147, E⟩ := let_some E
  refine ea_aload_n (pc := 410) dX12_init_410 rfl 0 rfl ?_
  refine ea_bipush (pc := 411) dX12_init_411 (v := 120) rfl ?_
  refine ea_newI (pc := 413) (N := 120) dX12_init_413 ew_177 (by decide) rfl (Nat.le_of_ble_eq_true rfl) ?_
  refine ea_nm eH147 ?_
  obtain ⟨f148, E⟩ := gd_some E
  obtain ⟨H149, eH149, E⟩ := let_some E
  refine ea_putR (pc := 415) dX12_init_415 ec_12 (k := 75) (Nat.le_of_ble_eq_true rfl) rfl (Or.inr ⟨rfl, rfl, rfl, ew_1477⟩) f148.1 f148.2 ?_
  refine ea_nm eH149 ?_
  obtain ⟨H150, eH150, E⟩ := let_some E
  refine ea_aload_n (pc := 418) dX12_init_418 rfl 0 rfl ?_
  refine ea_bipush (pc := 419) dX12_init_419 (v := 120) rfl ?_
  refine ea_newI (pc := 421) (N := 120) dX12_init_421 ew_177 (by decide) rfl (Nat.le_of_ble_eq_true rfl) ?_
  refine ea_nm eH150 ?_
  obtain ⟨f151, E⟩ := gd_some E
  obtain ⟨H152, eH152, E⟩ := let_some E
  refine ea_putR (pc := 423) dX12_init_423 ec_12 (k := 76) (Nat.le_of_ble_eq_true rfl) rfl (Or.inr ⟨rfl, rfl, rfl, ew_1478⟩) f151.1 f151.2 ?_
  refine ea_nm eH152 ?_
  obtain ⟨H153, eH153, E⟩ := let_some E
  refine ea_aload_n (pc := 426) dX12_init_426 rfl 0 rfl ?_
  refine ea_bipush (pc := 427) dX12_init_427 (v := 120) rfl ?_
  refine ea_newI (pc := 429) (N := 120) dX12_init_429 ew_177 (by decide) rfl (Nat.le_of_ble_eq_true rfl) ?_
  refine ea_nm eH153 ?_
  obtain ⟨f154, E⟩ := gd_some E
  obtain ⟨H155, eH155, E⟩ := let_some E
  refine ea_putR (pc := 431) dX12_init_431 ec_12 (k := 77) (Nat.le_of_ble_eq_true rfl) rfl (Or.inr ⟨rfl, rfl, rfl, ew_1479⟩) f154.1 f154.2 ?_
  refine ea_nm eH155 ?_
  obtain ⟨H156, eH156, E⟩ := let_some E
  refine ea_aload_n (pc := 434) dX12_init_434 rfl 0 rfl ?_
  refine ea_bipush (pc := 435) dX12_init_435 (v := 120) rfl ?_
  refine ea_newZ (pc := 437) (N := 120) dX12_init_437 ew_225 (by decide) rfl (Nat.le_of_ble_eq_true rfl) ?_
  refine ea_nm eH156 ?_
  obtain ⟨f157, E⟩ := gd_some E
  obtain ⟨H158, eH158, E⟩ := let_some E
  refine ea_putR (pc := 439) dX12_init_439 ec_12 (k := 78) (Nat.le_of_ble_eq_true rfl) rfl (Or.inr ⟨rfl, rfl, rfl, ew_1480⟩) f157.1 f157.2 ?_
  refine ea_nm eH158 ?_
  exact (kJ442 H158 _ _ E)
set_option maxRecDepth 100000 in
set_option maxHeartbeats 0 in
theorem lBX12_init_394 {a0 : Nat} {J442 : ea_H → Option (Unit × ea_H)} {J442_ : ea_H → Option (Unit × ea_H)}  (mJ442 : ∀ (h : ea_H), fle (J442 h) (J442_ h)) {h : ea_H} : fle (BX12_init_394 a0 J442 h) (BX12_init_394 a0 J442_ h) :=
  (fle_let fun _ => (fle_gd (fle_let fun _ => (fle_let fun _ => (fle_gd (fle_let fun _ => (fle_let fun _ => (fle_gd (fle_let fun _ => (fle_let fun _ => (fle_gd (fle_let fun _ => (fle_let fun _ => (fle_gd (fle_let fun _ => (fle_let fun _ => (fle_gd (fle_let fun _ => (mJ442 _)))))))))))))))))))
set_option maxRecDepth 100000 in
set_option maxHeartbeats 0 in
theorem nBX12_init_394 {a0 : Nat} {J442 : ea_H → Option (Unit × ea_H)} {J442_ : Nat → (ea_H → Option (Unit × ea_H))}  (mJ442 : ∀ (h : ea_H), fct (J442 h) (fun f => J442_ f h)) {h : ea_H} : fct (BX12_init_394 a0 J442 h) (fun f => BX12_init_394 a0 (J442_ f) h) :=
  (fct_let fun _ => (fct_gd (fct_let fun _ => (fct_let fun _ => (fct_gd (fct_let fun _ => (fct_let fun _ => (fct_gd (fct_let fun _ => (fct_let fun _ => (fct_gd (fct_let fun _ => (fct_let fun _ => (fct_gd (fct_let fun _ => (fct_let fun _ => (fct_gd (fct_let fun _ => (mJ442 _)))))))))))))))))))
noncomputable def BX12_init_442 (a0 : Nat) (J490 : ea_H → Option (Unit × ea_H)) (h : ea_H) : Option (Unit × ea_H) :=
  (ea_let (ea_new h 21 120 120) fun H159 => (gd ((a0 < ea_n H159 ∧ ea_c H159 a0 = 12)) (ea_let (ea_wr H159 a0 79 (some (ea_n h))) fun H161 => (ea_let (ea_new H161 21 120 120) fun H162 => (gd ((a0 < ea_n H162 ∧ ea_c H162 a0 = 12)) (ea_let (ea_wr H162 a0 80 (some (ea_n H161))) fun H164 => (ea_let (ea_new H164 20 120 120) fun H165 => (gd ((a0 < ea_n H165 ∧ ea_c H165 a0 = 12)) (ea_let (ea_wr H165 a0 81 (some (ea_n H164))) fun H167 => (ea_let (ea_new H167 20 120 120) fun H168 => (gd ((a0 < ea_n H168 ∧ ea_c H168 a0 = 12)) (ea_let (ea_wr H168 a0 82 (some (ea_n H167))) fun H170 => (ea_let (ea_new H170 20 120 120) fun H171 => (gd ((a0 < ea_n H171 ∧ ea_c H171 a0 = 12)) (ea_let (ea_wr H171 a0 83 (some (ea_n H170))) fun H173 => (ea_let (ea_new H173 20 120 120) fun H174 => (gd ((a0 < ea_n H174 ∧ ea_c H174 a0 = 12)) (ea_let (ea_wr H174 a0 84 (some (ea_n H173))) fun H176 => (J490 H176)))))))))))))))))))
set_option maxRecDepth 100000 in
set_option maxHeartbeats 0 in
theorem tBX12_init_442 {d : Nat} {a0 : Nat} {h0 : ea_H} (hd : 2 ≤ d) {J490 : ea_H → Option (Unit × ea_H)}  (kJ490 : ∀ (h : ea_H) (r : Unit) (h' : ea_H), J490 h = some (r, h') → ea_W mX12_init d h0 none h' 490 [(0, vR (some a0))] [] h) {h : ea_H} {r : Unit} {h' : ea_H} (E : BX12_init_442 a0 J490 h = some (r, h')) : ea_W mX12_init d h0 none h' 442 [(0, vR (some a0))] [] h := by
  unfold BX12_init_442 at E
  obtain ⟨H159, eH159, E⟩ := let_some E
  refine ea_aload_n (pc := 442) dX12_init_442 rfl 0 rfl ?_
  refine ea_bipush (pc := 443) dX12_init_443 (v := 120) rfl ?_
  refine ea_newZ (pc := 445) (N := 120) dX12_init_445 ew_225 (by decide) rfl (Nat.le_of_ble_eq_true rfl) ?_
  refine ea_nm eH159 ?_
  obtain ⟨f160, E⟩ := gd_some E
  obtain ⟨H161, eH161, E⟩ := let_some E
  refine ea_putR (pc := 447) dX12_init_447 ec_12 (k := 79) (Nat.le_of_ble_eq_true rfl) rfl (Or.inr ⟨rfl, rfl, rfl, ew_1481⟩) f160.1 f160.2 ?_
  refine ea_nm eH161 ?_
  obtain ⟨H162, eH162, E⟩ := let_some E
  refine ea_aload_n (pc := 450) dX12_init_450 rfl 0 rfl ?_
  refine ea_bipush (pc := 451) dX12_init_451 (v := 120) rfl ?_
  refine ea_newZ (pc := 453) (N := 120) dX12_init_453 ew_225 (by decide) rfl (Nat.le_of_ble_eq_true rfl) ?_
  refine ea_nm eH162 ?_
  obtain ⟨f163, E⟩ := gd_some E
  obtain ⟨H164, eH164, E⟩ := let_some E
  refine ea_putR (pc := 455) dX12_init_455 ec_12 (k := 80) (Nat.le_of_ble_eq_true rfl) rfl (Or.inr ⟨rfl, rfl, rfl, ew_1482⟩) f163.1 f163.2 ?_
  refine ea_nm eH164 ?_
  obtain ⟨H165, eH165, E⟩ := let_some E
  refine ea_aload_n (pc := 458) dX12_init_458 rfl 0 rfl ?_
  refine ea_bipush (pc := 459) dX12_init_459 (v := 120) rfl ?_
  refine ea_newI (pc := 461) (N := 120) dX12_init_461 ew_177 (by decide) rfl (Nat.le_of_ble_eq_true rfl) ?_
  refine ea_nm eH165 ?_
  obtain ⟨f166, E⟩ := gd_some E
  obtain ⟨H167, eH167, E⟩ := let_some E
  refine ea_putR (pc := 463) dX12_init_463 ec_12 (k := 81) (Nat.le_of_ble_eq_true rfl) rfl (Or.inr ⟨rfl, rfl, rfl, ew_1483⟩) f166.1 f166.2 ?_
  refine ea_nm eH167 ?_
  obtain ⟨H168, eH168, E⟩ := let_some E
  refine ea_aload_n (pc := 466) dX12_init_466 rfl 0 rfl ?_
  refine ea_bipush (pc := 467) dX12_init_467 (v := 120) rfl ?_
  refine ea_newI (pc := 469) (N := 120) dX12_init_469 ew_177 (by decide) rfl (Nat.le_of_ble_eq_true rfl) ?_
  refine ea_nm eH168 ?_
  obtain ⟨f169, E⟩ := gd_some E
  obtain ⟨H170, eH170, E⟩ := let_some E
  refine ea_putR (pc := 471) dX12_init_471 ec_12 (k := 82) (Nat.le_of_ble_eq_true rfl) rfl (Or.inr ⟨rfl, rfl, rfl, ew_1484⟩) f169.1 f169.2 ?_
  refine ea_nm eH170 ?_
  obtain ⟨H171, eH171, E⟩ := let_some E
  refine ea_aload_n (pc := 474) dX12_init_474 rfl 0 rfl ?_
  refine ea_bipush (pc := 475) dX12_init_475 (v := 120) rfl ?_
  refine ea_newI (pc := 477) (N := 120) dX12_init_477 ew_177 (by decide) rfl (Nat.le_of_ble_eq_true rfl) ?_
  refine ea_nm eH171 ?_
  obtain ⟨f172, E⟩ := gd_some E
  obtain ⟨H173, eH173, E⟩ := let_some E
  refine ea_putR (pc := 479) dX12_init_479 ec_12 (k := 83) (Nat.le_of_ble_eq_true rfl) rfl (Or.inr ⟨rfl, rfl, rfl, ew_1485⟩) f172.1 f172.2 ?_
  refine ea_nm eH173 ?_
  obtain ⟨H174, eH174, E⟩ := let_some E
  refine ea_aload_n (pc := 482) dX12_init_482 rfl 0 rfl ?_
  refine ea_bipush (pc := 483) dX12_init_483 (v := 120) rfl ?_
  refine ea_newI (pc := 485) (N := 120) dX12_init_485 ew_177 (by decide) rfl (Nat.le_of_ble_eq_true rfl) ?_
  refine ea_nm eH174 ?_
  obtain ⟨f175, E⟩ := gd_some E
  obtain ⟨H176, eH176, E⟩ := let_some E
  refine ea_putR (pc := 487) dX12_init_487 ec_12 (k := 84) (Nat.le_of_ble_eq_true rfl) rfl (Or.inr ⟨rfl, rfl, rfl, ew_1486⟩) f175.1 f175.2 ?_
  refine ea_nm eH176 ?_
  exact (kJ490 H176 _ _ E)
set_option maxRecDepth 100000 in
set_option maxHeartbeats 0 in
theorem lBX12_init_442 {a0 : Nat} {J490 : ea_H → Option (Unit × ea_H)} {J490_ : ea_H → Option (Unit × ea_H)}  (mJ490 : ∀ (h : ea_H), fle (J490 h) (J490_ h)) {h : ea_H} : fle (BX12_init_442 a0 J490 h) (BX12_init_442 a0 J490_ h) :=
  (fle_let fun _ => (fle_gd (fle_let fun _ => (fle_let fun _ => (fle_gd (fle_let fun _ => (fle_let fun _ => (fle_gd (fle_let fun _ => (fle_let fun _ => (fle_gd (fle_let fun _ => (fle_let fun _ => (fle_gd (fle_let fun _ => (fle_let fun _ => (fle_gd (fle_let fun _ => (mJ490 _)))))))))))))))))))
set_option maxRecDepth 100000 in
set_option maxHeartbeats 0 in
theorem nBX12_init_442 {a0 : Nat} {J490 : ea_H → Option (Unit × ea_H)} {J490_ : Nat → (ea_H → Option (Unit × ea_H))}  (mJ490 : ∀ (h : ea_H), fct (J490 h) (fun f => J490_ f h)) {h : ea_H} : fct (BX12_init_442 a0 J490 h) (fun f => BX12_init_442 a0 (J490_ f) h) :=
  (fct_let fun _ => (fct_gd (fct_let fun _ => (fct_let fun _ => (fct_gd (fct_let fun _ => (fct_let fun _ => (fct_gd (fct_let fun _ => (fct_let fun _ => (fct_gd (fct_let fun _ => (fct_let fun _ => (fct_gd (fct_let fun _ => (fct_let fun _ => (fct_gd (fct_let fun _ => (mJ490 _)))))))))))))))))))
noncomputable def BX12_init_490 (a0 : Nat) (J538 : ea_H → Option (Unit × ea_H)) (h : ea_H) : Option (Unit × ea_H) :=
  (ea_let (ea_new h 20 120 120) fun H177 => (gd ((a0 < ea_n H177 ∧ ea_c H177 a0 = 12)) (ea_let (ea_wr H177 a0 85 (some (ea_n h))) fun H179 => (ea_let (ea_new H179 20 70 70) fun H180 => (gd ((a0 < ea_n H180 ∧ ea_c H180 a0 = 12)) (ea_let (ea_wr H180 a0 86 (some (ea_n H179))) fun H182 => (ea_let (ea_new H182 21 120 120) fun H183 => (gd ((a0 < ea_n H183 ∧ ea_c H183 a0 = 12)) (ea_let (ea_wr H183 a0 87 (some (ea_n H182))) fun H185 => (ea_let (ea_new H185 20 120000 120000) fun H186 => (gd ((a0 < ea_n H186 ∧ ea_c H186 a0 = 12)) (ea_let (ea_wr H186 a0 88 (some (ea_n H185))) fun H188 => (ea_let (ea_new H188 20 120000 120000) fun H189 => (gd ((a0 < ea_n H189 ∧ ea_c H189 a0 = 12)) (ea_let (ea_wr H189 a0 89 (some (ea_n H188))) fun H191 => (ea_let (ea_new H191 20 120000 120000) fun H192 => (gd ((a0 < ea_n H192 ∧ ea_c H192 a0 = 12)) (ea_let (ea_wr H192 a0 90 (some (ea_n H191))) fun H194 => (J538 H194)))))))))))))))))))
set_option maxRecDepth 100000 in
set_option maxHeartbeats 0 in
theorem tBX12_init_490 {d : Nat} {a0 : Nat} {h0 : ea_H} (hd : 2 ≤ d) {J538 : ea_H → Option (Unit × ea_H)}  (kJ538 : ∀ (h : ea_H) (r : Unit) (h' : ea_H), J538 h = some (r, h') → ea_W mX12_init d h0 none h' 538 [(0, vR (some a0))] [] h) {h : ea_H} {r : Unit} {h' : ea_H} (E : BX12_init_490 a0 J538 h = some (r, h')) : ea_W mX12_init d h0 none h' 490 [(0, vR (some a0))] [] h := by
  unfold BX12_init_490 at E
  obtain ⟨H177, eH177, E⟩ := let_some E
  refine ea_aload_n (pc := 490) dX12_init_490 rfl 0 rfl ?_
  refine ea_bipush (pc := 491) dX12_init_491 (v := 120) rfl ?_
  refine ea_newI (pc := 493) (N := 120) dX12_init_493 ew_177 (by decide) rfl (Nat.le_of_ble_eq_true rfl) ?_
  refine ea_nm eH177 ?_
  obtain ⟨f178, E⟩ := gd_some E
  obtain ⟨H179, eH179, E⟩ := let_some E
  refine ea_putR (pc := 495) dX12_init_495 ec_12 (k := 85) (Nat.le_of_ble_eq_true rfl) rfl (Or.inr ⟨rfl, rfl, rfl, ew_1487⟩) f178.1 f178.2 ?_
  refine ea_nm eH179 ?_
  obtain ⟨H180, eH180, E⟩ := let_some E
  refine ea_aload_n (pc := 498) dX12_init_498 rfl 0 rfl ?_
  refine ea_bipush (pc := 499) dX12_init_499 (v := 70) rfl ?_
  refine ea_newI (pc := 501) (N := 70) dX12_init_501 ew_177 (by decide) rfl (Nat.le_of_ble_eq_true rfl) ?_
  refine ea_nm eH180 ?_
  obtain ⟨f181, E⟩ := gd_some E
  obtain ⟨H182, eH182, E⟩ := let_some E
  refine ea_putR (pc := 503) dX12_init_503 ec_12 (k := 86) (Nat.le_of_ble_eq_true rfl) rfl (Or.inr ⟨rfl, rfl, rfl, ew_1488⟩) f181.1 f181.2 ?_
  refine ea_nm eH182 ?_
  obtain ⟨H183, eH183, E⟩ := let_some E
  refine ea_aload_n (pc := 506) dX12_init_506 rfl 0 rfl ?_
  refine ea_bipush (pc := 507) dX12_init_507 (v := 120) rfl ?_
  refine ea_newZ (pc := 509) (N := 120) dX12_init_509 ew_225 (by decide) rfl (Nat.le_of_ble_eq_true rfl) ?_
  refine ea_nm eH183 ?_
  obtain ⟨f184, E⟩ := gd_some E
  obtain ⟨H185, eH185, E⟩ := let_some E
  refine ea_putR (pc := 511) dX12_init_511 ec_12 (k := 87) (Nat.le_of_ble_eq_true rfl) rfl (Or.inr ⟨rfl, rfl, rfl, ew_1489⟩) f184.1 f184.2 ?_
  refine ea_nm eH185 ?_
  obtain ⟨H186, eH186, E⟩ := let_some E
  refine ea_aload_n (pc := 514) dX12_init_514 rfl 0 rfl ?_
  refine ea_ldc (pc := 515) dX12_init_515 ew_1401 ?_
  refine ea_newI (pc := 517) (N := 120000) dX12_init_517 ew_177 (by decide) rfl (Nat.le_of_ble_eq_true rfl) ?_
  refine ea_nm eH186 ?_
  obtain ⟨f187, E⟩ := gd_some E
  obtain ⟨H188, eH188, E⟩ := let_some E
  refine ea_putR (pc := 519) dX12_init_519 ec_12 (k := 88) (Nat.le_of_ble_eq_true rfl) rfl (Or.inr ⟨rfl, rfl, rfl, ew_1490⟩) f187.1 f187.2 ?_
  refine ea_nm eH188 ?_
  obtain ⟨H189, eH189, E⟩ := let_some E
  refine ea_aload_n (pc := 522) dX12_init_522 rfl 0 rfl ?_
  refine ea_ldc (pc := 523) dX12_init_523 ew_1401 ?_
  refine ea_newI (pc := 525) (N := 120000) dX12_init_525 ew_177 (by decide) rfl (Nat.le_of_ble_eq_true rfl) ?_
  refine ea_nm eH189 ?_
  obtain ⟨f190, E⟩ := gd_some E
  obtain ⟨H191, eH191, E⟩ := let_some E
  refine ea_putR (pc := 527) dX12_init_527 ec_12 (k := 89) (Nat.le_of_ble_eq_true rfl) rfl (Or.inr ⟨rfl, rfl, rfl, ew_1491⟩) f190.1 f190.2 ?_
  refine ea_nm eH191 ?_
  obtain ⟨H192, eH192, E⟩ := let_some E
  refine ea_aload_n (pc := 530) dX12_init_530 rfl 0 rfl ?_
  refine ea_ldc (pc := 531) dX12_init_531 ew_1401 ?_
  refine ea_newI (pc := 533) (N := 120000) dX12_init_533 ew_177 (by decide) rfl (Nat.le_of_ble_eq_true rfl) ?_
  refine ea_nm eH192 ?_
  obtain ⟨f193, E⟩ := gd_some E
  obtain ⟨H194, eH194, E⟩ := let_some E
  refine ea_putR (pc := 535) dX12_init_535 ec_12 (k := 90) (Nat.le_of_ble_eq_true rfl) rfl (Or.inr ⟨rfl, rfl, rfl, ew_1492⟩) f193.1 f193.2 ?_
  refine ea_nm eH194 ?_
  exact (kJ538 H194 _ _ E)
set_option maxRecDepth 100000 in
set_option maxHeartbeats 0 in
theorem lBX12_init_490 {a0 : Nat} {J538 : ea_H → Option (Unit × ea_H)} {J538_ : ea_H → Option (Unit × ea_H)}  (mJ538 : ∀ (h : ea_H), fle (J538 h) (J538_ h)) {h : ea_H} : fle (BX12_init_490 a0 J538 h) (BX12_init_490 a0 J538_ h) :=
  (fle_let fun _ => (fle_gd (fle_let fun _ => (fle_let fun _ => (fle_gd (fle_let fun _ => (fle_let fun _ => (fle_gd (fle_let fun _ => (fle_let fun _ => (fle_gd (fle_let fun _ => (fle_let fun _ => (fle_gd (fle_let fun _ => (fle_let fun _ => (fle_gd (fle_let fun _ => (mJ538 _)))))))))))))))))))
set_option maxRecDepth 100000 in
set_option maxHeartbeats 0 in
theorem nBX12_init_490 {a0 : Nat} {J538 : ea_H → Option (Unit × ea_H)} {J538_ : Nat → (ea_H → Option (Unit × ea_H))}  (mJ538 : ∀ (h : ea_H), fct (J538 h) (fun f => J538_ f h)) {h : ea_H} : fct (BX12_init_490 a0 J538 h) (fun f => BX12_init_490 a0 (J538_ f) h) :=
  (fct_let fun _ => (fct_gd (fct_let fun _ => (fct_let fun _ => (fct_gd (fct_let fun _ => (fct_let fun _ => (fct_gd (fct_let fun _ => (fct_let fun _ => (fct_gd (fct_let fun _ => (fct_let fun _ => (fct_gd (fct_let fun _ => (fct_let fun _ => (fct_gd (fct_let fun _ => (mJ538 _)))))))))))))))))))
noncomputable def BX12_init_538 (a0 : Nat) (J586 : ea_H → Option (Unit × ea_H)) (h : ea_H) : Option (Unit × ea_H) :=
  (ea_let (ea_new h 20 8 8) fun H195 => (gd ((a0 < ea_n H195 ∧ ea_c H195 a0 = 12)) (ea_let (ea_wr H195 a0 91 (some (ea_n h))) fun H197 => (ea_let (ea_new H197 20 8 8) fun H198 => (gd ((a0 < ea_n H198 ∧ ea_c H198 a0 = 12)) (ea_let (ea_wr H198 a0 93 (some (ea_n H197))) fun H200 => (ea_let (ea_new H200 20 8 8) fun H201 => (gd ((a0 < ea_n H201 ∧ ea_c H201 a0 = 12)) (ea_let (ea_wr H201 a0 94 (some (ea_n H200))) fun H203 => (ea_let (ea_new H203 20 8 8) fun H204 => (gd ((a0 < ea_n H204 ∧ ea_c H204 a0 = 12)) (ea_let (ea_wr H204 a0 95 (some (ea_n H203))) fun H206 => (ea_let (ea_new H206 20 8 8) fun H207 => (gd ((a0 < ea_n H207 ∧ ea_c H207 a0 = 12)) (ea_let (ea_wr H207 a0 96 (some (ea_n H206))) fun H209 => (ea_let (ea_new H209 20 120 120) fun H210 => (gd ((a0 < ea_n H210 ∧ ea_c H210 a0 = 12)) (ea_let (ea_wr H210 a0 97 (some (ea_n H209))) fun H212 => (J586 H212)))))))))))))))))))
set_option maxRecDepth 100000 in
set_option maxHeartbeats 0 in
theorem tBX12_init_538 {d : Nat} {a0 : Nat} {h0 : ea_H} (hd : 2 ≤ d) {J586 : ea_H → Option (Unit × ea_H)}  (kJ586 : ∀ (h : ea_H) (r : Unit) (h' : ea_H), J586 h = some (r, h') → ea_W mX12_init d h0 none h' 586 [(0, vR (some a0))] [] h) {h : ea_H} {r : Unit} {h' : ea_H} (E : BX12_init_538 a0 J586 h = some (r, h')) : ea_W mX12_init d h0 none h' 538 [(0, vR (some a0))] [] h := by
  unfold BX12_init_538 at E
  obtain ⟨H195, eH195, E⟩ := let_some E
  refine ea_aload_n (pc := 538) dX12_init_538 rfl 0 rfl ?_
  refine ea_bipush (pc := 539) dX12_init_539 (v := 8) rfl ?_
  refine ea_newI (pc := 541) (N := 8) dX12_init_541 ew_177 (by decide) rfl (Nat.le_of_ble_eq_true rfl) ?_
  refine ea_nm eH195 ?_
  obtain ⟨f196, E⟩ := gd_some E
  obtain ⟨H197, eH197, E⟩ := let_some E
  refine ea_putR (pc := 543) dX12_init_543 ec_12 (k := 91) (Nat.le_of_ble_eq_true rfl) rfl (Or.inr ⟨rfl, rfl, rfl, ew_1493⟩) f196.1 f196.2 ?_
  refine ea_nm eH197 ?_
  obtain ⟨H198, eH198, E⟩ := let_some E
  refine ea_aload_n (pc := 546) dX12_init_546 rfl 0 rfl ?_
  refine ea_bipush (pc := 547) dX12_init_547 (v := 8) rfl ?_
  refine ea_newI (pc := 549) (N := 8) dX12_init_549 ew_177 (by decide) rfl (Nat.le_of_ble_eq_true rfl) ?_
  refine ea_nm eH198 ?_
  obtain ⟨f199, E⟩ := gd_some E
  obtain ⟨H200, eH200, E⟩ := let_some E
  refine ea_putR (pc := 551) dX12_init_551 ec_12 (k := 93) (Nat.le_of_ble_eq_true rfl) rfl (Or.inr ⟨rfl, rfl, rfl, ew_1495⟩) f199.1 f199.2 ?_
  refine ea_nm eH200 ?_
  obtain ⟨H201, eH201, E⟩ := let_some E
  refine ea_aload_n (pc := 554) dX12_init_554 rfl 0 rfl ?_
  refine ea_bipush (pc := 555) dX12_init_555 (v := 8) rfl ?_
  refine ea_newI (pc := 557) (N := 8) dX12_init_557 ew_177 (by decide) rfl (Nat.le_of_ble_eq_true rfl) ?_
  refine ea_nm eH201 ?_
  obtain ⟨f202, E⟩ := gd_some E
  obtain ⟨H203, eH203, E⟩ := let_some E
  refine ea_putR (pc := 559) dX12_init_559 ec_12 (k := 94) (Nat.le_of_ble_eq_true rfl) rfl (Or.inr ⟨rfl, rfl, rfl, ew_1496⟩) f202.1 f202.2 ?_
  refine ea_nm eH203 ?_
  obtain ⟨H204, eH204, E⟩ := let_some E
  refine ea_aload_n (pc := 562) dX12_init_562 rfl 0 rfl ?_
  refine ea_bipush (pc := 563) dX12_init_563 (v := 8) rfl ?_
  refine ea_newI (pc := 565) (N := 8) dX12_init_565 ew_177 (by decide) rfl (Nat.le_of_ble_eq_true rfl) ?_
  refine ea_nm eH204 ?_
  obtain ⟨f205, E⟩ := gd_some E
  obtain ⟨H206, eH206, E⟩ := let_some E
  refine ea_putR (pc := 567) dX12_init_567 ec_12 (k := 95) (Nat.le_of_ble_eq_true rfl) rfl (Or.inr ⟨rfl, rfl, rfl, ew_1497⟩) f205.1 f205.2 ?_
  refine ea_nm eH206 ?_
  obtain ⟨H207, eH207, E⟩ := let_some E
  refine ea_aload_n (pc := 570) dX12_init_570 rfl 0 rfl ?_
  refine ea_bipush (pc := 571) dX12_init_571 (v := 8) rfl ?_
  refine ea_newI (pc := 573) (N := 8) dX12_init_573 ew_177 (by decide) rfl (Nat.le_of_ble_eq_true rfl) ?_
  refine ea_nm eH207 ?_
  obtain ⟨f208, E⟩ := gd_some E
  obtain ⟨H209, eH209, E⟩ := let_some E
  refine ea_putR (pc := 575) dX12_init_575 ec_12 (k := 96) (Nat.le_of_ble_eq_true rfl) rfl (Or.inr ⟨rfl, rfl, rfl, ew_1498⟩) f208.1 f208.2 ?_
  refine ea_nm eH209 ?_
  obtain ⟨H210, eH210, E⟩ := let_some E
  refine ea_aload_n (pc := 578) dX12_init_578 rfl 0 rfl ?_
  refine ea_bipush (pc := 579) dX12_init_579 (v := 120) rfl ?_
  refine ea_newI (pc := 581) (N := 120) dX12_init_581 ew_177 (by decide) rfl (Nat.le_of_ble_eq_true rfl) ?_
  refine ea_nm eH210 ?_
  obtain ⟨f211, E⟩ := gd_some E
  obtain ⟨H212, eH212, E⟩ := let_some E
  refine ea_putR (pc := 583) dX12_init_583 ec_12 (k := 97) (Nat.le_of_ble_eq_true rfl) rfl (Or.inr ⟨rfl, rfl, rfl, ew_1499⟩) f211.1 f211.2 ?_
  refine ea_nm eH212 ?_
  exact (kJ586 H212 _ _ E)
set_option maxRecDepth 100000 in
set_option maxHeartbeats 0 in
theorem lBX12_init_538 {a0 : Nat} {J586 : ea_H → Option (Unit × ea_H)} {J586_ : ea_H → Option (Unit × ea_H)}  (mJ586 : ∀ (h : ea_H), fle (J586 h) (J586_ h)) {h : ea_H} : fle (BX12_init_538 a0 J586 h) (BX12_init_538 a0 J586_ h) :=
  (fle_let fun _ => (fle_gd (fle_let fun _ => (fle_let fun _ => (fle_gd (fle_let fun _ => (fle_let fun _ => (fle_gd (fle_let fun _ => (fle_let fun _ => (fle_gd (fle_let fun _ => (fle_let fun _ => (fle_gd (fle_let fun _ => (fle_let fun _ => (fle_gd (fle_let fun _ => (mJ586 _)))))))))))))))))))
set_option maxRecDepth 100000 in
set_option maxHeartbeats 0 in
theorem nBX12_init_538 {a0 : Nat} {J586 : ea_H → Option (Unit × ea_H)} {J586_ : Nat → (ea_H → Option (Unit × ea_H))}  (mJ586 : ∀ (h : ea_H), fct (J586 h) (fun f => J586_ f h)) {h : ea_H} : fct (BX12_init_538 a0 J586 h) (fun f => BX12_init_538 a0 (J586_ f) h) :=
  (fct_let fun _ => (fct_gd (fct_let fun _ => (fct_let fun _ => (fct_gd (fct_let fun _ => (fct_let fun _ => (fct_gd (fct_let fun _ => (fct_let fun _ => (fct_gd (fct_let fun _ => (fct_let fun _ => (fct_gd (fct_let fun _ => (fct_let fun _ => (fct_gd (fct_let fun _ => (mJ586 _)))))))))))))))))))
noncomputable def BX12_init_586 (a0 : Nat) (J636 : ea_H → Option (Unit × ea_H)) (h : ea_H) : Option (Unit × ea_H) :=
  (ea_let (ea_new h 20 480 480) fun H213 => (gd ((a0 < ea_n H213 ∧ ea_c H213 a0 = 12)) (ea_let (ea_wr H213 a0 98 (some (ea_n h))) fun H215 => (ea_let (ea_new H215 20 480 480) fun H216 => (gd ((a0 < ea_n H216 ∧ ea_c H216 a0 = 12)) (ea_let (ea_wr H216 a0 99 (some (ea_n H215))) fun H218 => (ea_let (ea_new H218 20 20 20) fun H219 => (gd ((a0 < ea_n H219 ∧ ea_c H219 a0 = 12)) (ea_let (ea_wr H219 a0 101 (some (ea_n H218))) fun H221 => (ea_let (ea_new H221 20 20 20) fun H222 => (gd ((a0 < ea_n H222 ∧ ea_c H222 a0 = 12)) (ea_let (ea_wr H222 a0 102 (some (ea_n H221))) fun H224 => (ea_let (ea_new H224 20 20 20) fun H225 => (gd ((a0 < ea_n H225 ∧ ea_c H225 a0 = 12)) (ea_let (ea_wr H225 a0 103 (some (ea_n H224))) fun H227 => (ea_let (ea_new H227 20 20 20) fun H228 => (gd ((a0 < ea_n H228 ∧ ea_c H228 a0 = 12)) (ea_let (ea_wr H228 a0 104 (some (ea_n H227))) fun H230 => (J636 H230)))))))))))))))))))
set_option maxRecDepth 100000 in
set_option maxHeartbeats 0 in
theorem tBX12_init_586 {d : Nat} {a0 : Nat} {h0 : ea_H} (hd : 2 ≤ d) {J636 : ea_H → Option (Unit × ea_H)}  (kJ636 : ∀ (h : ea_H) (r : Unit) (h' : ea_H), J636 h = some (r, h') → ea_W mX12_init d h0 none h' 636 [(0, vR (some a0))] [] h) {h : ea_H} {r : Unit} {h' : ea_H} (E : BX12_init_586 a0 J636 h = some (r, h')) : ea_W mX12_init d h0 none h' 586 [(0, vR (some a0))] [] h := by
  unfold BX12_init_586 at E
  obtain ⟨H213, eH213, E⟩ := let_some E
  refine ea_aload_n (pc := 586) dX12_init_586 rfl 0 rfl ?_
  refine ea_sipush (pc := 587) dX12_init_587 (v := 480) rfl ?_
  refine ea_newI (pc := 590) (N := 480) dX12_init_590 ew_177 (by decide) rfl (Nat.le_of_ble_eq_true rfl) ?_
  refine ea_nm eH213 ?_
  obtain ⟨f214, E⟩ := gd_some E
  obtain ⟨H215, eH215, E⟩ := let_some E
  refine ea_putR (pc := 592) dX12_init_592 ec_12 (k := 98) (Nat.le_of_ble_eq_true rfl) rfl (Or.inr ⟨rfl, rfl, rfl, ew_1500⟩) f214.1 f214.2 ?_
  refine ea_nm eH215 ?_
  obtain ⟨H216, eH216, E⟩ := let_some E
  refine ea_aload_n (pc := 595) dX12_init_595 rfl 0 rfl ?_
  refine ea_sipush (pc := 596) dX12_init_596 (v := 480) rfl ?_
  refine ea_newI (pc := 599) (N := 480) dX12_init_599 ew_177 (by decide) rfl (Nat.le_of_ble_eq_true rfl) ?_
  refine ea_nm eH216 ?_
  obtain ⟨f217, E⟩ := gd_some E
  obtain ⟨H218, eH218, E⟩ := let_some E
  refine ea_putR (pc := 601) dX12_init_601 ec_12 (k := 99) (Nat.le_of_ble_eq_true rfl) rfl (Or.inr ⟨rfl, rfl, rfl, ew_1501⟩) f217.1 f217.2 ?_
  refine ea_nm eH218 ?_
  obtain ⟨H219, eH219, E⟩ := let_some E
  refine ea_aload_n (pc := 604) dX12_init_604 rfl 0 rfl ?_
  refine ea_bipush (pc := 605) dX12_init_605 (v := 20) rfl ?_
  refine ea_newI (pc := 607) (N := 20) dX12_init_607 ew_177 (by decide) rfl (Nat.le_of_ble_eq_true rfl) ?_
  refine ea_nm eH219 ?_
  obtain ⟨f220, E⟩ := gd_some E
  obtain ⟨H221, eH221, E⟩ := let_some E
  refine ea_putR (pc := 609) dX12_init_609 ec_12 (k := 101) (Nat.le_of_ble_eq_true rfl) rfl (Or.inr ⟨rfl, rfl, rfl, ew_1503⟩) f220.1 f220.2 ?_
  refine ea_nm eH221 ?_
  obtain ⟨H222, eH222, E⟩ := let_some E
  refine ea_aload_n (pc := 612) dX12_init_612 rfl 0 rfl ?_
  refine ea_bipush (pc := 613) dX12_init_613 (v := 20) rfl ?_
  refine ea_newI (pc := 615) (N := 20) dX12_init_615 ew_177 (by decide) rfl (Nat.le_of_ble_eq_true rfl) ?_
  refine ea_nm eH222 ?_
  obtain ⟨f223, E⟩ := gd_some E
  obtain ⟨H224, eH224, E⟩ := let_some E
  refine ea_putR (pc := 617) dX12_init_617 ec_12 (k := 102) (Nat.le_of_ble_eq_true rfl) rfl (Or.inr ⟨rfl, rfl, rfl, ew_1504⟩) f223.1 f223.2 ?_
  refine ea_nm eH224 ?_
  obtain ⟨H225, eH225, E⟩ := let_some E
  refine ea_aload_n (pc := 620) dX12_init_620 rfl 0 rfl ?_
  refine ea_bipush (pc := 621) dX12_init_621 (v := 20) rfl ?_
  refine ea_newI (pc := 623) (N := 20) dX12_init_623 ew_177 (by decide) rfl (Nat.le_of_ble_eq_true rfl) ?_
  refine ea_nm eH225 ?_
  obtain ⟨f226, E⟩ := gd_some E
  obtain ⟨H227, eH227, E⟩ := let_some E
  refine ea_putR (pc := 625) dX12_init_625 ec_12 (k := 103) (Nat.le_of_ble_eq_true rfl) rfl (Or.inr ⟨rfl, rfl, rfl, ew_1505⟩) f226.1 f226.2 ?_
  refine ea_nm eH227 ?_
  obtain ⟨H228, eH228, E⟩ := let_some E
  refine ea_aload_n (pc := 628) dX12_init_628 rfl 0 rfl ?_
  refine ea_bipush (pc := 629) dX12_init_629 (v := 20) rfl ?_
  refine ea_newI (pc := 631) (N := 20) dX12_init_631 ew_177 (by decide) rfl (Nat.le_of_ble_eq_true rfl) ?_
  refine ea_nm eH228 ?_
  obtain ⟨f229, E⟩ := gd_some E
  obtain ⟨H230, eH230, E⟩ := let_some E
  refine ea_putR (pc := 633) dX12_init_633 ec_12 (k := 104) (Nat.le_of_ble_eq_true rfl) rfl (Or.inr ⟨rfl, rfl, rfl, ew_1506⟩) f229.1 f229.2 ?_
  refine ea_nm eH230 ?_
  exact (kJ636 H230 _ _ E)
set_option maxRecDepth 100000 in
set_option maxHeartbeats 0 in
theorem lBX12_init_586 {a0 : Nat} {J636 : ea_H → Option (Unit × ea_H)} {J636_ : ea_H → Option (Unit × ea_H)}  (mJ636 : ∀ (h : ea_H), fle (J636 h) (J636_ h)) {h : ea_H} : fle (BX12_init_586 a0 J636 h) (BX12_init_586 a0 J636_ h) :=
  (fle_let fun _ => (fle_gd (fle_let fun _ => (fle_let fun _ => (fle_gd (fle_let fun _ => (fle_let fun _ => (fle_gd (fle_let fun _ => (fle_let fun _ => (fle_gd (fle_let fun _ => (fle_let fun _ => (fle_gd (fle_let fun _ => (fle_let fun _ => (fle_gd (fle_let fun _ => (mJ636 _)))))))))))))))))))
set_option maxRecDepth 100000 in
set_option maxHeartbeats 0 in
theorem nBX12_init_586 {a0 : Nat} {J636 : ea_H → Option (Unit × ea_H)} {J636_ : Nat → (ea_H → Option (Unit × ea_H))}  (mJ636 : ∀ (h : ea_H), fct (J636 h) (fun f => J636_ f h)) {h : ea_H} : fct (BX12_init_586 a0 J636 h) (fun f => BX12_init_586 a0 (J636_ f) h) :=
  (fct_let fun _ => (fct_gd (fct_let fun _ => (fct_let fun _ => (fct_gd (fct_let fun _ => (fct_let fun _ => (fct_gd (fct_let fun _ => (fct_let fun _ => (fct_gd (fct_let fun _ => (fct_let fun _ => (fct_gd (fct_let fun _ => (fct_let fun _ => (fct_gd (fct_let fun _ => (mJ636 _)))))))))))))))))))
noncomputable def BX12_init_636 (a0 : Nat) (J685 : ea_H → Option (Unit × ea_H)) (h : ea_H) : Option (Unit × ea_H) :=
  (ea_let (ea_new h 20 2400 2400) fun H231 => (gd ((a0 < ea_n H231 ∧ ea_c H231 a0 = 12)) (ea_let (ea_wr H231 a0 105 (some (ea_n h))) fun H233 => (ea_let (ea_new H233 20 10 10) fun H234 => (gd ((a0 < ea_n H234 ∧ ea_c H234 a0 = 12)) (ea_let (ea_wr H234 a0 106 (some (ea_n H233))) fun H236 => (ea_let (ea_new H236 20 10 10) fun H237 => (gd ((a0 < ea_n H237 ∧ ea_c H237 a0 = 12)) (ea_let (ea_wr H237 a0 107 (some (ea_n H236))) fun H239 => (ea_let (ea_new H239 20 10 10) fun H240 => (gd ((a0 < ea_n H240 ∧ ea_c H240 a0 = 12)) (ea_let (ea_wr H240 a0 108 (some (ea_n H239))) fun H242 => (ea_let (ea_new H242 20 120 120) fun H243 => (gd ((a0 < ea_n H243 ∧ ea_c H243 a0 = 12)) (ea_let (ea_wr H243 a0 109 (some (ea_n H242))) fun H245 => (ea_let (ea_new H245 20 120 120) fun H246 => (gd ((a0 < ea_n H246 ∧ ea_c H246 a0 = 12)) (ea_let (ea_wr H246 a0 110 (some (ea_n H245))) fun H248 => (J685 H248)))))))))))))))))))
set_option maxRecDepth 100000 in
set_option maxHeartbeats 0 in
theorem tBX12_init_636 {d : Nat} {a0 : Nat} {h0 : ea_H} (hd : 2 ≤ d) {J685 : ea_H → Option (Unit × ea_H)}  (kJ685 : ∀ (h : ea_H) (r : Unit) (h' : ea_H), J685 h = some (r, h') → ea_W mX12_init d h0 none h' 685 [(0, vR (some a0))] [] h) {h : ea_H} {r : Unit} {h' : ea_H} (E : BX12_init_636 a0 J685 h = some (r, h')) : ea_W mX12_init d h0 none h' 636 [(0, vR (some a0))] [] h := by
  unfold BX12_init_636 at E
  obtain ⟨H231, eH231, E⟩ := let_some E
  refine ea_aload_n (pc := 636) dX12_init_636 rfl 0 rfl ?_
  refine ea_sipush (pc := 637) dX12_init_637 (v := 2400) rfl ?_
  refine ea_newI (pc := 640) (N := 2400) dX12_init_640 ew_177 (by decide) rfl (Nat.le_of_ble_eq_true rfl) ?_
  refine ea_nm eH231 ?_
  obtain ⟨f232, E⟩ := gd_some E
  obtain ⟨H233, eH233, E⟩ := let_some E
  refine ea_putR (pc := 642) dX12_init_642 ec_12 (k := 105) (Nat.le_of_ble_eq_true rfl) rfl (Or.inr ⟨rfl, rfl, rfl, ew_1507⟩) f232.1 f232.2 ?_
  refine ea_nm eH233 ?_
  obtain ⟨H234, eH234, E⟩ := let_some E
  refine ea_aload_n (pc := 645) dX12_init_645 rfl 0 rfl ?_
  refine ea_bipush (pc := 646) dX12_init_646 (v := 10) rfl ?_
  refine ea_newI (pc := 648) (N := 10) dX12_init_648 ew_177 (by decide) rfl (Nat.le_of_ble_eq_true rfl) ?_
  refine ea_nm eH234 ?_
  obtain ⟨f235, E⟩ := gd_some E
  obtain ⟨H236, eH236, E⟩ := let_some E
  refine ea_putR (pc := 650) dX12_init_650 ec_12 (k := 106) (Nat.le_of_ble_eq_true rfl) rfl (Or.inr ⟨rfl, rfl, rfl, ew_1508⟩) f235.1 f235.2 ?_
  refine ea_nm eH236 ?_
  obtain ⟨H237, eH237, E⟩ := let_some E
  refine ea_aload_n (pc := 653) dX12_init_653 rfl 0 rfl ?_
  refine ea_bipush (pc := 654) dX12_init_654 (v := 10) rfl ?_
  refine ea_newI (pc := 656) (N := 10) dX12_init_656 ew_177 (by decide) rfl (Nat.le_of_ble_eq_true rfl) ?_
  refine ea_nm eH237 ?_
  obtain ⟨f238, E⟩ := gd_some E
  obtain ⟨H239, eH239, E⟩ := let_some E
  refine ea_putR (pc := 658) dX12_init_658 ec_12 (k := 107) (Nat.le_of_ble_eq_true rfl) rfl (Or.inr ⟨rfl, rfl, rfl, ew_1509⟩) f238.1 f238.2 ?_
  refine ea_nm eH239 ?_
  obtain ⟨H240, eH240, E⟩ := let_some E
  refine ea_aload_n (pc := 661) dX12_init_661 rfl 0 rfl ?_
  refine ea_bipush (pc := 662) dX12_init_662 (v := 10) rfl ?_
  refine ea_newI (pc := 664) (N := 10) dX12_init_664 ew_177 (by decide) rfl (Nat.le_of_ble_eq_true rfl) ?_
  refine ea_nm eH240 ?_
  obtain ⟨f241, E⟩ := gd_some E
  obtain ⟨H242, eH242, E⟩ := let_some E
  refine ea_putR (pc := 666) dX12_init_666 ec_12 (k := 108) (Nat.le_of_ble_eq_true rfl) rfl (Or.inr ⟨rfl, rfl, rfl, ew_1510⟩) f241.1 f241.2 ?_
  refine ea_nm eH242 ?_
  obtain ⟨H243, eH243, E⟩ := let_some E
  refine ea_aload_n (pc := 669) dX12_init_669 rfl 0 rfl ?_
  refine ea_bipush (pc := 670) dX12_init_670 (v := 120) rfl ?_
  refine ea_newI (pc := 672) (N := 120) dX12_init_672 ew_177 (by decide) rfl (Nat.le_of_ble_eq_true rfl) ?_
  refine ea_nm eH243 ?_
  obtain ⟨f244, E⟩ := gd_some E
  obtain ⟨H245, eH245, E⟩ := let_some E
  refine ea_putR (pc := 674) dX12_init_674 ec_12 (k := 109) (Nat.le_of_ble_eq_true rfl) rfl (Or.inr ⟨rfl, rfl, rfl, ew_1511⟩) f244.1 f244.2 ?_
  refine ea_nm eH245 ?_
  obtain ⟨H246, eH246, E⟩ := let_some E
  refine ea_aload_n (pc := 677) dX12_init_677 rfl 0 rfl ?_
  refine ea_bipush (pc := 678) dX12_init_678 (v := 120) rfl ?_
  refine ea_newI (pc := 680) (N := 120) dX12_init_680 ew_177 (by decide) rfl (Nat.le_of_ble_eq_true rfl) ?_
  refine ea_nm eH246 ?_
  obtain ⟨f247, E⟩ := gd_some E
  obtain ⟨H248, eH248, E⟩ := let_some E
  refine ea_putR (pc := 682) dX12_init_682 ec_12 (k := 110) (Nat.le_of_ble_eq_true rfl) rfl (Or.inr ⟨rfl, rfl, rfl, ew_1512⟩) f247.1 f247.2 ?_
  refine ea_nm eH248 ?_
  exact (kJ685 H248 _ _ E)
set_option maxRecDepth 100000 in
set_option maxHeartbeats 0 in
theorem lBX12_init_636 {a0 : Nat} {J685 : ea_H → Option (Unit × ea_H)} {J685_ : ea_H → Option (Unit × ea_H)}  (mJ685 : ∀ (h : ea_H), fle (J685 h) (J685_ h)) {h : ea_H} : fle (BX12_init_636 a0 J685 h) (BX12_init_636 a0 J685_ h) :=
  (fle_let fun _ => (fle_gd (fle_let fun _ => (fle_let fun _ => (fle_gd (fle_let fun _ => (fle_let fun _ => (fle_gd (fle_let fun _ => (fle_let fun _ => (fle_gd (fle_let fun _ => (fle_let fun _ => (fle_gd (fle_let fun _ => (fle_let fun _ => (fle_gd (fle_let fun _ => (mJ685 _)))))))))))))))))))
set_option maxRecDepth 100000 in
set_option maxHeartbeats 0 in
theorem nBX12_init_636 {a0 : Nat} {J685 : ea_H → Option (Unit × ea_H)} {J685_ : Nat → (ea_H → Option (Unit × ea_H))}  (mJ685 : ∀ (h : ea_H), fct (J685 h) (fun f => J685_ f h)) {h : ea_H} : fct (BX12_init_636 a0 J685 h) (fun f => BX12_init_636 a0 (J685_ f) h) :=
  (fct_let fun _ => (fct_gd (fct_let fun _ => (fct_let fun _ => (fct_gd (fct_let fun _ => (fct_let fun _ => (fct_gd (fct_let fun _ => (fct_let fun _ => (fct_gd (fct_let fun _ => (fct_let fun _ => (fct_gd (fct_let fun _ => (fct_let fun _ => (fct_gd (fct_let fun _ => (mJ685 _)))))))))))))))))))
noncomputable def BX12_init_685 (a0 : Nat) (J733 : ea_H → Option (Unit × ea_H)) (h : ea_H) : Option (Unit × ea_H) :=
  (ea_let (ea_new h 20 120 120) fun H249 => (gd ((a0 < ea_n H249 ∧ ea_c H249 a0 = 12)) (ea_let (ea_wr H249 a0 111 (some (ea_n h))) fun H251 => (ea_let (ea_new H251 20 120 120) fun H252 => (gd ((a0 < ea_n H252 ∧ ea_c H252 a0 = 12)) (ea_let (ea_wr H252 a0 112 (some (ea_n H251))) fun H254 => (ea_let (ea_new H254 20 120 120) fun H255 => (gd ((a0 < ea_n H255 ∧ ea_c H255 a0 = 12)) (ea_let (ea_wr H255 a0 113 (some (ea_n H254))) fun H257 => (ea_let (ea_new H257 20 120 120) fun H258 => (gd ((a0 < ea_n H258 ∧ ea_c H258 a0 = 12)) (ea_let (ea_wr H258 a0 114 (some (ea_n H257))) fun H260 => (ea_let (ea_new H260 20 120 120) fun H261 => (gd ((a0 < ea_n H261 ∧ ea_c H261 a0 = 12)) (ea_let (ea_wr H261 a0 115 (some (ea_n H260))) fun H263 => (ea_let (ea_new H263 20 70 70) fun H264 => (gd ((a0 < ea_n H264 ∧ ea_c H264 a0 = 12)) (ea_let (ea_wr H264 a0 116 (some (ea_n H263))) fun H266 => (J733 H266)))))))))))))))))))
set_option maxRecDepth 100000 in
set_option maxHeartbeats 0 in
theorem tBX12_init_685 {d : Nat} {a0 : Nat} {h0 : ea_H} (hd : 2 ≤ d) {J733 : ea_H → Option (Unit × ea_H)}  (kJ733 : ∀ (h : ea_H) (r : Unit) (h' : ea_H), J733 h = some (r, h') → ea_W mX12_init d h0 none h' 733 [(0, vR (some a0))] [] h) {h : ea_H} {r : Unit} {h' : ea_H} (E : BX12_init_685 a0 J733 h = some (r, h')) : ea_W mX12_init d h0 none h' 685 [(0, vR (some a0))] [] h := by
  unfold BX12_init_685 at E
  obtain ⟨H249, eH249, E⟩ := let_some E
  refine ea_aload_n (pc := 685) dX12_init_685 rfl 0 rfl ?_
  refine ea_bipush (pc := 686) dX12_init_686 (v := 120) rfl ?_
  refine ea_newI (pc := 688) (N := 120) dX12_init_688 ew_177 (by decide) rfl (Nat.le_of_ble_eq_true rfl) ?_
  refine ea_nm eH249 ?_
  obtain ⟨f250, E⟩ := gd_some E
  obtain ⟨H251, eH251, E⟩ := let_some E
  refine ea_putR (pc := 690) dX12_init_690 ec_12 (k := 111) (Nat.le_of_ble_eq_true rfl) rfl (Or.inr ⟨rfl, rfl, rfl, ew_1513⟩) f250.1 f250.2 ?_
  refine ea_nm eH251 ?_
  obtain ⟨H252, eH252, E⟩ := let_some E
  refine ea_aload_n (pc := 693) dX12_init_693 rfl 0 rfl ?_
  refine ea_bipush (pc := 694) dX12_init_694 (v := 120) rfl ?_
  refine ea_newI (pc := 696) (N := 120) dX12_init_696 ew_177 (by decide) rfl (Nat.le_of_ble_eq_true rfl) ?_
  refine ea_nm eH252 ?_
  obtain ⟨f253, E⟩ := gd_some E
  obtain ⟨H254, eH254, E⟩ := let_some E
  refine ea_putR (pc := 698) dX12_init_698 ec_12 (k := 112) (Nat.le_of_ble_eq_true rfl) rfl (Or.inr ⟨rfl, rfl, rfl, ew_1514⟩) f253.1 f253.2 ?_
  refine ea_nm eH254 ?_
  obtain ⟨H255, eH255, E⟩ := let_some E
  refine ea_aload_n (pc := 701) dX12_init_701 rfl 0 rfl ?_
  refine ea_bipush (pc := 702) dX12_init_702 (v := 120) rfl ?_
  refine ea_newI (pc := 704) (N := 120) dX12_init_704 ew_177 (by decide) rfl (Nat.le_of_ble_eq_true rfl) ?_
  refine ea_nm eH255 ?_
  obtain ⟨f256, E⟩ := gd_some E
  obtain ⟨H257, eH257, E⟩ := let_some E
  refine ea_putR (pc := 706) dX12_init_706 ec_12 (k := 113) (Nat.le_of_ble_eq_true rfl) rfl (Or.inr ⟨rfl, rfl, rfl, ew_1515⟩) f256.1 f256.2 ?_
  refine ea_nm eH257 ?_
  obtain ⟨H258, eH258, E⟩ := let_some E
  refine ea_aload_n (pc := 709) dX12_init_709 rfl 0 rfl ?_
  refine ea_bipush (pc := 710) dX12_init_710 (v := 120) rfl ?_
  refine ea_newI (pc := 712) (N := 120) dX12_init_712 ew_177 (by decide) rfl (Nat.le_of_ble_eq_true rfl) ?_
  refine ea_nm eH258 ?_
  obtain ⟨f259, E⟩ := gd_some E
  obtain ⟨H260, eH260, E⟩ := let_some E
  refine ea_putR (pc := 714) dX12_init_714 ec_12 (k := 114) (Nat.le_of_ble_eq_true rfl) rfl (Or.inr ⟨rfl, rfl, rfl, ew_1516⟩) f259.1 f259.2 ?_
  refine ea_nm eH260 ?_
  obtain ⟨H261, eH261, E⟩ := let_some E
  refine ea_aload_n (pc := 717) dX12_init_717 rfl 0 rfl ?_
  refine ea_bipush (pc := 718) dX12_init_718 (v := 120) rfl ?_
  refine ea_newI (pc := 720) (N := 120) dX12_init_720 ew_177 (by decide) rfl (Nat.le_of_ble_eq_true rfl) ?_
  refine ea_nm eH261 ?_
  obtain ⟨f262, E⟩ := gd_some E
  obtain ⟨H263, eH263, E⟩ := let_some E
  refine ea_putR (pc := 722) dX12_init_722 ec_12 (k := 115) (Nat.le_of_ble_eq_true rfl) rfl (Or.inr ⟨rfl, rfl, rfl, ew_1517⟩) f262.1 f262.2 ?_
  refine ea_nm eH263 ?_
  obtain ⟨H264, eH264, E⟩ := let_some E
  refine ea_aload_n (pc := 725) dX12_init_725 rfl 0 rfl ?_
  refine ea_bipush (pc := 726) dX12_init_726 (v := 70) rfl ?_
  refine ea_newI (pc := 728) (N := 70) dX12_init_728 ew_177 (by decide) rfl (Nat.le_of_ble_eq_true rfl) ?_
  refine ea_nm eH264 ?_
  obtain ⟨f265, E⟩ := gd_some E
  obtain ⟨H266, eH266, E⟩ := let_some E
  refine ea_putR (pc := 730) dX12_init_730 ec_12 (k := 116) (Nat.le_of_ble_eq_true rfl) rfl (Or.inr ⟨rfl, rfl, rfl, ew_1518⟩) f265.1 f265.2 ?_
  refine ea_nm eH266 ?_
  exact (kJ733 H266 _ _ E)
set_option maxRecDepth 100000 in
set_option maxHeartbeats 0 in
theorem lBX12_init_685 {a0 : Nat} {J733 : ea_H → Option (Unit × ea_H)} {J733_ : ea_H → Option (Unit × ea_H)}  (mJ733 : ∀ (h : ea_H), fle (J733 h) (J733_ h)) {h : ea_H} : fle (BX12_init_685 a0 J733 h) (BX12_init_685 a0 J733_ h) :=
  (fle_let fun _ => (fle_gd (fle_let fun _ => (fle_let fun _ => (fle_gd (fle_let fun _ => (fle_let fun _ => (fle_gd (fle_let fun _ => (fle_let fun _ => (fle_gd (fle_let fun _ => (fle_let fun _ => (fle_gd (fle_let fun _ => (fle_let fun _ => (fle_gd (fle_let fun _ => (mJ733 _)))))))))))))))))))
set_option maxRecDepth 100000 in
set_option maxHeartbeats 0 in
theorem nBX12_init_685 {a0 : Nat} {J733 : ea_H → Option (Unit × ea_H)} {J733_ : Nat → (ea_H → Option (Unit × ea_H))}  (mJ733 : ∀ (h : ea_H), fct (J733 h) (fun f => J733_ f h)) {h : ea_H} : fct (BX12_init_685 a0 J733 h) (fun f => BX12_init_685 a0 (J733_ f) h) :=
  (fct_let fun _ => (fct_gd (fct_let fun _ => (fct_let fun _ => (fct_gd (fct_let fun _ => (fct_let fun _ => (fct_gd (fct_let fun _ => (fct_let fun _ => (fct_gd (fct_let fun _ => (fct_let fun _ => (fct_gd (fct_let fun _ => (fct_let fun _ => (fct_gd (fct_let fun _ => (mJ733 _)))))))))))))))))))
noncomputable def BX12_init_733 (a0 : Nat) (J743 : Int32 → ea_H → Option (Unit × ea_H)) (h : ea_H) : Option (Unit × ea_H) :=
  (ea_let (ea_new h 21 120 120) fun H267 => (gd ((a0 < ea_n H267 ∧ ea_c H267 a0 = 12)) (ea_let (ea_wr H267 a0 117 (some (ea_n h))) fun H269 => (J743 (0 : Int32) H269))))
set_option maxRecDepth 100000 in
set_option maxHeartbeats 0 in
theorem tBX12_init_733 {d : Nat} {a0 : Nat} {h0 : ea_H} (hd : 2 ≤ d) {J743 : Int32 → ea_H → Option (Unit × ea_H)}  (kJ743 : ∀ (x1 : Int32) (h : ea_H) (r : Unit) (h' : ea_H), J743 x1 h = some (r, h') → ea_W mX12_init d h0 none h' 743 [(0, vR (some a0)), (1, vI x1)] [] h) {h : ea_H} {r : Unit} {h' : ea_H} (E : BX12_init_733 a0 J743 h = some (r, h')) : ea_W mX12_init d h0 none h' 733 [(0, vR (some a0))] [] h := by
  unfold BX12_init_733 at E
  obtain ⟨H267, eH267, E⟩ := let_some E
  refine ea_aload_n (pc := 733) dX12_init_733 rfl 0 rfl ?_
  refine ea_bipush (pc := 734) dX12_init_734 (v := 120) rfl ?_
  refine ea_newZ (pc := 736) (N := 120) dX12_init_736 ew_225 (by decide) rfl (Nat.le_of_ble_eq_true rfl) ?_
  refine ea_nm eH267 ?_
  obtain ⟨f268, E⟩ := gd_some E
  obtain ⟨H269, eH269, E⟩ := let_some E
  refine ea_putR (pc := 738) dX12_init_738 ec_12 (k := 117) (Nat.le_of_ble_eq_true rfl) rfl (Or.inr ⟨rfl, rfl, rfl, ew_1519⟩) f268.1 f268.2 ?_
  refine ea_nm eH269 ?_
  refine ea_iconst (pc := 741) dX12_init_741 (v := 0) rfl ?_
  refine ea_istore_n (pc := 742) (lv' := [(0, vR (some a0)), (1, vI 0)]) dX12_init_742 rfl (Nat.le_of_ble_eq_true rfl) [1, 0] rfl ?_
  exact (kJ743 (0 : Int32) H269 _ _ E)
set_option maxRecDepth 100000 in
set_option maxHeartbeats 0 in
theorem lBX12_init_733 {a0 : Nat} {J743 : Int32 → ea_H → Option (Unit × ea_H)} {J743_ : Int32 → ea_H → Option (Unit × ea_H)}  (mJ743 : ∀ (x1 : Int32) (h : ea_H), fle (J743 x1 h) (J743_ x1 h)) {h : ea_H} : fle (BX12_init_733 a0 J743 h) (BX12_init_733 a0 J743_ h) :=
  (fle_let fun _ => (fle_gd (fle_let fun _ => (mJ743 _ _))))
set_option maxRecDepth 100000 in
set_option maxHeartbeats 0 in
theorem nBX12_init_733 {a0 : Nat} {J743 : Int32 → ea_H → Option (Unit × ea_H)} {J743_ : Nat → (Int32 → ea_H → Option (Unit × ea_H))}  (mJ743 : ∀ (x1 : Int32) (h : ea_H), fct (J743 x1 h) (fun f => J743_ f x1 h)) {h : ea_H} : fct (BX12_init_733 a0 J743 h) (fun f => BX12_init_733 a0 (J743_ f) h) :=
  (fct_let fun _ => (fct_gd (fct_let fun _ => (mJ743 _ _))))
noncomputable def BX12_init_743 (a0 : Nat) (J743 : Int32 → ea_H → Option (Unit × ea_H)) (J773 : Int32 → ea_H → Option (Unit × ea_H)) (x1 : Int32) (h : ea_H) : Option (Unit × ea_H) :=
  (if (10 : Int32) ≤ x1 then (J773 (0 : Int32) h) else (gd ((a0 < ea_n h ∧ ea_c h a0 = 12)) (gd ((ea_r h a0 106) = some (Option.getD (ea_r h a0 106) 0)) (gd (((Option.getD (ea_r h a0 106) 0) < ea_n h ∧ ea_c h (Option.getD (ea_r h a0 106) 0) = 20)) (gd (vp_in x1 (ea_l h (Option.getD (ea_r h a0 106) 0))) (ea_let (ea_wi h (Option.getD (ea_r h a0 106) 0) (Int32.toNatClampNeg x1) (-60)) fun H274 => (gd ((a0 < ea_n H274 ∧ ea_c H274 a0 = 12)) (gd ((ea_r H274 a0 107) = some (Option.getD (ea_r H274 a0 107) 0)) (gd (((Option.getD (ea_r H274 a0 107) 0) < ea_n H274 ∧ ea_c H274 (Option.getD (ea_r H274 a0 107) 0) = 20)) (gd (vp_in x1 (ea_l H274 (Option.getD (ea_r H274 a0 107) 0))) (ea_let (ea_wi H274 (Option.getD (ea_r H274 a0 107) 0) (Int32.toNatClampNeg x1) 60) fun H279 => (J743 ((x1 + (1 : Int32)) : Int32) H279))))))))))))
set_option maxRecDepth 100000 in
set_option maxHeartbeats 0 in
theorem tBX12_init_743 {d : Nat} {a0 : Nat} {h0 : ea_H} (hd : 2 ≤ d) {J743 : Int32 → ea_H → Option (Unit × ea_H)} {J773 : Int32 → ea_H → Option (Unit × ea_H)}  (kJ743 : ∀ (x1 : Int32) (h : ea_H) (r : Unit) (h' : ea_H), J743 x1 h = some (r, h') → ea_W mX12_init d h0 none h' 743 [(0, vR (some a0)), (1, vI x1)] [] h) (kJ773 : ∀ (x1 : Int32) (h : ea_H) (r : Unit) (h' : ea_H), J773 x1 h = some (r, h') → ea_W mX12_init d h0 none h' 773 [(0, vR (some a0)), (1, vI x1)] [] h) {x1 : Int32} {h : ea_H} {r : Unit} {h' : ea_H} (E : BX12_init_743 a0 J743 J773 x1 h = some (r, h')) : ea_W mX12_init d h0 none h' 743 [(0, vR (some a0)), (1, vI x1)] [] h := by
  unfold BX12_init_743 at E
  refine ea_iload_n (pc := 743) dX12_init_743 rfl 1 rfl ?_
  refine ea_bipush (pc := 744) dX12_init_744 (v := 10) rfl ?_
  refine ea_icmp_ge (pc := 746) (tgt := 771) dX12_init_746 rfl (fun c280 => ?_) (fun c280 => ?_)
  · have E := (if_pos c280).symm.trans E
    refine ea_iconst (pc := 771) dX12_init_771 (v := 0) rfl ?_
    refine ea_istore_n (pc := 772) (lv' := [(0, vR (some a0)), (1, vI 0)]) dX12_init_772 rfl (Nat.le_of_ble_eq_true rfl) [1, 0] rfl ?_
    exact (kJ773 (0 : Int32) h _ _ E)
  · have E := (if_neg c280).symm.trans E
    obtain ⟨f270, E⟩ := gd_some E
    refine ea_aload_n (pc := 749) dX12_init_749 rfl 0 rfl ?_
    obtain ⟨e271, E⟩ := gd_some E
    refine ea_getR (pc := 750) dX12_init_750 ec_12 (k := 106) (Nat.le_of_ble_eq_true rfl) rfl (Or.inl ew_1508) f270.1 f270.2 rfl ?_
    refine ea_iload_n (pc := 753) dX12_init_753 rfl 1 rfl ?_
    refine ea_bipush (pc := 754) dX12_init_754 (v := (-60)) rfl ?_
    obtain ⟨f272, E⟩ := gd_some E
    obtain ⟨z273, E⟩ := gd_some E
    obtain ⟨H274, eH274, E⟩ := let_some E
    refine ea_deref2 e271 ?_
    refine ea_iast (pc := 756) dX12_init_756 f272.1 f272.2 z273 ?_
    refine ea_nm eH274 ?_
    obtain ⟨f275, E⟩ := gd_some E
    refine ea_aload_n (pc := 757) dX12_init_757 rfl 0 rfl ?_
    obtain ⟨e276, E⟩ := gd_some E
    refine ea_getR (pc := 758) dX12_init_758 ec_12 (k := 107) (Nat.le_of_ble_eq_true rfl) rfl (Or.inl ew_1509) f275.1 f275.2 rfl ?_
    refine ea_iload_n (pc := 761) dX12_init_761 rfl 1 rfl ?_
    refine ea_bipush (pc := 762) dX12_init_762 (v := 60) rfl ?_
    obtain ⟨f277, E⟩ := gd_some E
    obtain ⟨z278, E⟩ := gd_some E
    obtain ⟨H279, eH279, E⟩ := let_some E
    refine ea_deref2 e276 ?_
    refine ea_iast (pc := 764) dX12_init_764 f277.1 f277.2 z278 ?_
    refine ea_nm eH279 ?_
    refine ea_iinc (pc := 765) (v := 1) (lv' := [(0, vR (some a0)), (1, vI (x1 + (1 : Int32)))]) dX12_init_765 1 rfl rfl (Nat.le_of_ble_eq_true rfl) [1, 0] rfl ?_
    refine ea_goto (pc := 768) (tgt := 743) dX12_init_768 rfl ?_
    exact (kJ743 ((x1 + (1 : Int32)) : Int32) H279 _ _ E)
set_option maxRecDepth 100000 in
set_option maxHeartbeats 0 in
theorem lBX12_init_743 {a0 : Nat} {J743 : Int32 → ea_H → Option (Unit × ea_H)} {J773 : Int32 → ea_H → Option (Unit × ea_H)} {J743_ : Int32 → ea_H → Option (Unit × ea_H)} {J773_ : Int32 → ea_H → Option (Unit × ea_H)}  (mJ743 : ∀ (x1 : Int32) (h : ea_H), fle (J743 x1 h) (J743_ x1 h)) (mJ773 : ∀ (x1 : Int32) (h : ea_H), fle (J773 x1 h) (J773_ x1 h)) {x1 : Int32} {h : ea_H} : fle (BX12_init_743 a0 J743 J773 x1 h) (BX12_init_743 a0 J743_ J773_ x1 h) :=
  (fle_ite (mJ773 _ _) (fle_gd (fle_gd (fle_gd (fle_gd (fle_let fun _ => (fle_gd (fle_gd (fle_gd (fle_gd (fle_let fun _ => (mJ743 _ _))))))))))))
set_option maxRecDepth 100000 in
set_option maxHeartbeats 0 in
theorem nBX12_init_743 {a0 : Nat} {J743 : Int32 → ea_H → Option (Unit × ea_H)} {J773 : Int32 → ea_H → Option (Unit × ea_H)} {J743_ : Nat → (Int32 → ea_H → Option (Unit × ea_H))} {J773_ : Nat → (Int32 → ea_H → Option (Unit × ea_H))}  (mJ743 : ∀ (x1 : Int32) (h : ea_H), fct (J743 x1 h) (fun f => J743_ f x1 h)) (mJ773 : ∀ (x1 : Int32) (h : ea_H), fct (J773 x1 h) (fun f => J773_ f x1 h)) {x1 : Int32} {h : ea_H} : fct (BX12_init_743 a0 J743 J773 x1 h) (fun f => BX12_init_743 a0 (J743_ f) (J773_ f) x1 h) :=
  (fct_ite (mJ773 _ _) (fct_gd (fct_gd (fct_gd (fct_gd (fct_let fun _ => (fct_gd (fct_gd (fct_gd (fct_gd (fct_let fun _ => (mJ743 _ _))))))))))))
noncomputable def BX12_init_773 (a0 : Nat) (J779 : Int32 → ea_H → Option (Unit × ea_H)) (x1 : Int32) (h : ea_H) : Option (Unit × ea_H) :=
  (if (8 : Int32) ≤ x1 then (some ((), h)) else (J779 (x1 : Int32) h))
set_option maxRecDepth 100000 in
set_option maxHeartbeats 0 in
theorem tBX12_init_773 {d : Nat} {a0 : Nat} {h0 : ea_H} (hd : 2 ≤ d) {J779 : Int32 → ea_H → Option (Unit × ea_H)}  (kJ779 : ∀ (x1 : Int32) (h : ea_H) (r : Unit) (h' : ea_H), J779 x1 h = some (r, h') → ea_W mX12_init d h0 none h' 779 [(0, vR (some a0)), (1, vI x1)] [] h) {x1 : Int32} {h : ea_H} {r : Unit} {h' : ea_H} (E : BX12_init_773 a0 J779 x1 h = some (r, h')) : ea_W mX12_init d h0 none h' 773 [(0, vR (some a0)), (1, vI x1)] [] h := by
  unfold BX12_init_773 at E
  refine ea_iload_n (pc := 773) dX12_init_773 rfl 1 rfl ?_
  refine ea_bipush (pc := 774) dX12_init_774 (v := 8) rfl ?_
  refine ea_icmp_ge (pc := 776) (tgt := 792) dX12_init_776 rfl (fun c281 => ?_) (fun c281 => ?_)
  · have E := (if_pos c281).symm.trans E
    exact ea_vretO (pc := 792) dX12_init_792 rfl E
  · have E := (if_neg c281).symm.trans E
    exact (kJ779 (x1 : Int32) h _ _ E)
set_option maxRecDepth 100000 in
set_option maxHeartbeats 0 in
theorem lBX12_init_773 {a0 : Nat} {J779 : Int32 → ea_H → Option (Unit × ea_H)} {J779_ : Int32 → ea_H → Option (Unit × ea_H)}  (mJ779 : ∀ (x1 : Int32) (h : ea_H), fle (J779 x1 h) (J779_ x1 h)) {x1 : Int32} {h : ea_H} : fle (BX12_init_773 a0 J779 x1 h) (BX12_init_773 a0 J779_ x1 h) :=
  (fle_ite (fle_rfl _) (mJ779 _ _))
set_option maxRecDepth 100000 in
set_option maxHeartbeats 0 in
theorem nBX12_init_773 {a0 : Nat} {J779 : Int32 → ea_H → Option (Unit × ea_H)} {J779_ : Nat → (Int32 → ea_H → Option (Unit × ea_H))}  (mJ779 : ∀ (x1 : Int32) (h : ea_H), fct (J779 x1 h) (fun f => J779_ f x1 h)) {x1 : Int32} {h : ea_H} : fct (BX12_init_773 a0 J779 x1 h) (fun f => BX12_init_773 a0 (J779_ f) x1 h) :=
  (fct_ite (fct_rfl _) (mJ779 _ _))
noncomputable def BX12_init_779 (a0 : Nat) (J773 : Int32 → ea_H → Option (Unit × ea_H)) (x1 : Int32) (h : ea_H) : Option (Unit × ea_H) :=
  (gd ((a0 < ea_n h ∧ ea_c h a0 = 12)) (gd ((ea_r h a0 95) = some (Option.getD (ea_r h a0 95) 0)) (gd (((Option.getD (ea_r h a0 95) 0) < ea_n h ∧ ea_c h (Option.getD (ea_r h a0 95) 0) = 20)) (gd (vp_in x1 (ea_l h (Option.getD (ea_r h a0 95) 0))) (ea_let (ea_wi h (Option.getD (ea_r h a0 95) 0) (Int32.toNatClampNeg x1) (-1)) fun H286 => (J773 ((x1 + (1 : Int32)) : Int32) H286))))))
set_option maxRecDepth 100000 in
set_option maxHeartbeats 0 in
theorem tBX12_init_779 {d : Nat} {a0 : Nat} {h0 : ea_H} (hd : 2 ≤ d) {J773 : Int32 → ea_H → Option (Unit × ea_H)}  (kJ773 : ∀ (x1 : Int32) (h : ea_H) (r : Unit) (h' : ea_H), J773 x1 h = some (r, h') → ea_W mX12_init d h0 none h' 773 [(0, vR (some a0)), (1, vI x1)] [] h) {x1 : Int32} {h : ea_H} {r : Unit} {h' : ea_H} (E : BX12_init_779 a0 J773 x1 h = some (r, h')) : ea_W mX12_init d h0 none h' 779 [(0, vR (some a0)), (1, vI x1)] [] h := by
  unfold BX12_init_779 at E
  obtain ⟨f282, E⟩ := gd_some E
  refine ea_aload_n (pc := 779) dX12_init_779 rfl 0 rfl ?_
  obtain ⟨e283, E⟩ := gd_some E
  refine ea_getR (pc := 780) dX12_init_780 ec_12 (k := 95) (Nat.le_of_ble_eq_true rfl) rfl (Or.inl ew_1497) f282.1 f282.2 rfl ?_
  refine ea_iload_n (pc := 783) dX12_init_783 rfl 1 rfl ?_
  refine ea_iconst (pc := 784) dX12_init_784 (v := (-1)) rfl ?_
  obtain ⟨f284, E⟩ := gd_some E
  obtain ⟨z285, E⟩ := gd_some E
  obtain ⟨H286, eH286, E⟩ := let_some E
  refine ea_deref2 e283 ?_
  refine ea_iast (pc := 785) dX12_init_785 f284.1 f284.2 z285 ?_
  refine ea_nm eH286 ?_
  refine ea_iinc (pc := 786) (v := 1) (lv' := [(0, vR (some a0)), (1, vI (x1 + (1 : Int32)))]) dX12_init_786 1 rfl rfl (Nat.le_of_ble_eq_true rfl) [1, 0] rfl ?_
  refine ea_goto (pc := 789) (tgt := 773) dX12_init_789 rfl ?_
  exact (kJ773 ((x1 + (1 : Int32)) : Int32) H286 _ _ E)
set_option maxRecDepth 100000 in
set_option maxHeartbeats 0 in
theorem lBX12_init_779 {a0 : Nat} {J773 : Int32 → ea_H → Option (Unit × ea_H)} {J773_ : Int32 → ea_H → Option (Unit × ea_H)}  (mJ773 : ∀ (x1 : Int32) (h : ea_H), fle (J773 x1 h) (J773_ x1 h)) {x1 : Int32} {h : ea_H} : fle (BX12_init_779 a0 J773 x1 h) (BX12_init_779 a0 J773_ x1 h) :=
  (fle_gd (fle_gd (fle_gd (fle_gd (fle_let fun _ => (mJ773 _ _))))))
set_option maxRecDepth 100000 in
set_option maxHeartbeats 0 in
theorem nBX12_init_779 {a0 : Nat} {J773 : Int32 → ea_H → Option (Unit × ea_H)} {J773_ : Nat → (Int32 → ea_H → Option (Unit × ea_H))}  (mJ773 : ∀ (x1 : Int32) (h : ea_H), fct (J773 x1 h) (fun f => J773_ f x1 h)) {x1 : Int32} {h : ea_H} : fct (BX12_init_779 a0 J773 x1 h) (fun f => BX12_init_779 a0 (J773_ f) x1 h) :=
  (fct_gd (fct_gd (fct_gd (fct_gd (fct_let fun _ => (mJ773 _ _))))))
noncomputable def gX12_init (a0 : Nat) : Nat → (ea_H → Option (Unit × ea_H)) × (ea_H → Option (Unit × ea_H)) × (ea_H → Option (Unit × ea_H)) × (ea_H → Option (Unit × ea_H)) × (ea_H → Option (Unit × ea_H)) × (ea_H → Option (Unit × ea_H)) × (ea_H → Option (Unit × ea_H)) × (ea_H → Option (Unit × ea_H)) × (ea_H → Option (Unit × ea_H)) × (ea_H → Option (Unit × ea_H)) × (ea_H → Option (Unit × ea_H)) × (ea_H → Option (Unit × ea_H)) × (ea_H → Option (Unit × ea_H)) × (ea_H → Option (Unit × ea_H)) × (ea_H → Option (Unit × ea_H)) × (ea_H → Option (Unit × ea_H)) × (Int32 → ea_H → Option (Unit × ea_H)) × (Int32 → ea_H → Option (Unit × ea_H)) × (Int32 → ea_H → Option (Unit × ea_H))
  | 0 => (fun _ => none, fun _ => none, fun _ => none, fun _ => none, fun _ => none, fun _ => none, fun _ => none, fun _ => none, fun _ => none, fun _ => none, fun _ => none, fun _ => none, fun _ => none, fun _ => none, fun _ => none, fun _ => none, fun _ _ => none, fun _ _ => none, fun _ _ => none)
  | f + 1 => (BX12_init_0 a0 (gX12_init a0 f).2.1, BX12_init_45 a0 (gX12_init a0 f).2.2.1, BX12_init_96 a0 (gX12_init a0 f).2.2.2.1, BX12_init_149 a0 (gX12_init a0 f).2.2.2.2.1, BX12_init_199 a0 (gX12_init a0 f).2.2.2.2.2.1, BX12_init_247 a0 (gX12_init a0 f).2.2.2.2.2.2.1, BX12_init_299 a0 (gX12_init a0 f).2.2.2.2.2.2.2.1, BX12_init_346 a0 (gX12_init a0 f).2.2.2.2.2.2.2.2.1, BX12_init_394 a0 (gX12_init a0 f).2.2.2.2.2.2.2.2.2.1, BX12_init_442 a0 (gX12_init a0 f).2.2.2.2.2.2.2.2.2.2.1, BX12_init_490 a0 (gX12_init a0 f).2.2.2.2.2.2.2.2.2.2.2.1, BX12_init_538 a0 (gX12_init a0 f).2.2.2.2.2.2.2.2.2.2.2.2.1, BX12_init_586 a0 (gX12_init a0 f).2.2.2.2.2.2.2.2.2.2.2.2.2.1, BX12_init_636 a0 (gX12_init a0 f).2.2.2.2.2.2.2.2.2.2.2.2.2.2.1, BX12_init_685 a0 (gX12_init a0 f).2.2.2.2.2.2.2.2.2.2.2.2.2.2.2.1, BX12_init_733 a0 (gX12_init a0 f).2.2.2.2.2.2.2.2.2.2.2.2.2.2.2.2.1, BX12_init_743 a0 (gX12_init a0 f).2.2.2.2.2.2.2.2.2.2.2.2.2.2.2.2.1 (gX12_init a0 f).2.2.2.2.2.2.2.2.2.2.2.2.2.2.2.2.2.1, BX12_init_773 a0 (gX12_init a0 f).2.2.2.2.2.2.2.2.2.2.2.2.2.2.2.2.2.2, BX12_init_779 a0 (gX12_init a0 f).2.2.2.2.2.2.2.2.2.2.2.2.2.2.2.2.2.1)
theorem mgX12_init (a0 : Nat) : ∀ f : Nat, (∀ (h : ea_H), fle ((gX12_init a0 f).1 h) ((gX12_init a0 (f + 1)).1 h)) ∧ (∀ (h : ea_H), fle ((gX12_init a0 f).2.1 h) ((gX12_init a0 (f + 1)).2.1 h)) ∧ (∀ (h : ea_H), fle ((gX12_init a0 f).2.2.1 h) ((gX12_init a0 (f + 1)).2.2.1 h)) ∧ (∀ (h : ea_H), fle ((gX12_init a0 f).2.2.2.1 h) ((gX12_init a0 (f + 1)).2.2.2.1 h)) ∧ (∀ (h : ea_H), fle ((gX12_init a0 f).2.2.2.2.1 h) ((gX12_init a0 (f + 1)).2.2.2.2.1 h)) ∧ (∀ (h : ea_H), fle ((gX12_init a0 f).2.2.2.2.2.1 h) ((gX12_init a0 (f + 1)).2.2.2.2.2.1 h)) ∧ (∀ (h : ea_H), fle ((gX12_init a0 f).2.2.2.2.2.2.1 h) ((gX12_init a0 (f + 1)).2.2.2.2.2.2.1 h)) ∧ (∀ (h : ea_H), fle ((gX12_init a0 f).2.2.2.2.2.2.2.1 h) ((gX12_init a0 (f + 1)).2.2.2.2.2.2.2.1 h)) ∧ (∀ (h : ea_H), fle ((gX12_init a0 f).2.2.2.2.2.2.2.2.1 h) ((gX12_init a0 (f + 1)).2.2.2.2.2.2.2.2.1 h)) ∧ (∀ (h : ea_H), fle ((gX12_init a0 f).2.2.2.2.2.2.2.2.2.1 h) ((gX12_init a0 (f + 1)).2.2.2.2.2.2.2.2.2.1 h)) ∧ (∀ (h : ea_H), fle ((gX12_init a0 f).2.2.2.2.2.2.2.2.2.2.1 h) ((gX12_init a0 (f + 1)).2.2.2.2.2.2.2.2.2.2.1 h)) ∧ (∀ (h : ea_H), fle ((gX12_init a0 f).2.2.2.2.2.2.2.2.2.2.2.1 h) ((gX12_init a0 (f + 1)).2.2.2.2.2.2.2.2.2.2.2.1 h)) ∧ (∀ (h : ea_H), fle ((gX12_init a0 f).2.2.2.2.2.2.2.2.2.2.2.2.1 h) ((gX12_init a0 (f + 1)).2.2.2.2.2.2.2.2.2.2.2.2.1 h)) ∧ (∀ (h : ea_H), fle ((gX12_init a0 f).2.2.2.2.2.2.2.2.2.2.2.2.2.1 h) ((gX12_init a0 (f + 1)).2.2.2.2.2.2.2.2.2.2.2.2.2.1 h)) ∧ (∀ (h : ea_H), fle ((gX12_init a0 f).2.2.2.2.2.2.2.2.2.2.2.2.2.2.1 h) ((gX12_init a0 (f + 1)).2.2.2.2.2.2.2.2.2.2.2.2.2.2.1 h)) ∧ (∀ (h : ea_H), fle ((gX12_init a0 f).2.2.2.2.2.2.2.2.2.2.2.2.2.2.2.1 h) ((gX12_init a0 (f + 1)).2.2.2.2.2.2.2.2.2.2.2.2.2.2.2.1 h)) ∧ (∀ (x1 : Int32) (h : ea_H), fle ((gX12_init a0 f).2.2.2.2.2.2.2.2.2.2.2.2.2.2.2.2.1 x1 h) ((gX12_init a0 (f + 1)).2.2.2.2.2.2.2.2.2.2.2.2.2.2.2.2.1 x1 h)) ∧ (∀ (x1 : Int32) (h : ea_H), fle ((gX12_init a0 f).2.2.2.2.2.2.2.2.2.2.2.2.2.2.2.2.2.1 x1 h) ((gX12_init a0 (f + 1)).2.2.2.2.2.2.2.2.2.2.2.2.2.2.2.2.2.1 x1 h)) ∧ (∀ (x1 : Int32) (h : ea_H), fle ((gX12_init a0 f).2.2.2.2.2.2.2.2.2.2.2.2.2.2.2.2.2.2 x1 h) ((gX12_init a0 (f + 1)).2.2.2.2.2.2.2.2.2.2.2.2.2.2.2.2.2.2 x1 h)) := by
  intro f
  induction f with
  | zero => exact ⟨fun _ => fle_none _, fun _ => fle_none _, fun _ => fle_none _, fun _ => fle_none _, fun _ => fle_none _, fun _ => fle_none _, fun _ => fle_none _, fun _ => fle_none _, fun _ => fle_none _, fun _ => fle_none _, fun _ => fle_none _, fun _ => fle_none _, fun _ => fle_none _, fun _ => fle_none _, fun _ => fle_none _, fun _ => fle_none _, fun _ _ => fle_none _, fun _ _ => fle_none _, fun _ _ => fle_none _⟩
  | succ f ih => exact ⟨fun _ => lBX12_init_0 (a0 := a0) ih.2.1, fun _ => lBX12_init_45 (a0 := a0) ih.2.2.1, fun _ => lBX12_init_96 (a0 := a0) ih.2.2.2.1, fun _ => lBX12_init_149 (a0 := a0) ih.2.2.2.2.1, fun _ => lBX12_init_199 (a0 := a0) ih.2.2.2.2.2.1, fun _ => lBX12_init_247 (a0 := a0) ih.2.2.2.2.2.2.1, fun _ => lBX12_init_299 (a0 := a0) ih.2.2.2.2.2.2.2.1, fun _ => lBX12_init_346 (a0 := a0) ih.2.2.2.2.2.2.2.2.1, fun _ => lBX12_init_394 (a0 := a0) ih.2.2.2.2.2.2.2.2.2.1, fun _ => lBX12_init_442 (a0 := a0) ih.2.2.2.2.2.2.2.2.2.2.1, fun _ => lBX12_init_490 (a0 := a0) ih.2.2.2.2.2.2.2.2.2.2.2.1, fun _ => lBX12_init_538 (a0 := a0) ih.2.2.2.2.2.2.2.2.2.2.2.2.1, fun _ => lBX12_init_586 (a0 := a0) ih.2.2.2.2.2.2.2.2.2.2.2.2.2.1, fun _ => lBX12_init_636 (a0 := a0) ih.2.2.2.2.2.2.2.2.2.2.2.2.2.2.1, fun _ => lBX12_init_685 (a0 := a0) ih.2.2.2.2.2.2.2.2.2.2.2.2.2.2.2.1, fun _ => lBX12_init_733 (a0 := a0) ih.2.2.2.2.2.2.2.2.2.2.2.2.2.2.2.2.1, fun _ _ => lBX12_init_743 (a0 := a0) ih.2.2.2.2.2.2.2.2.2.2.2.2.2.2.2.2.1 ih.2.2.2.2.2.2.2.2.2.2.2.2.2.2.2.2.2.1, fun _ _ => lBX12_init_773 (a0 := a0) ih.2.2.2.2.2.2.2.2.2.2.2.2.2.2.2.2.2.2, fun _ _ => lBX12_init_779 (a0 := a0) ih.2.2.2.2.2.2.2.2.2.2.2.2.2.2.2.2.2.1⟩
noncomputable def qX12_init_0 (a0 : Nat) (h : ea_H) : Option (Unit × ea_H) := flim fun f => (gX12_init a0 f).1 h
noncomputable def qX12_init_45 (a0 : Nat) (h : ea_H) : Option (Unit × ea_H) := flim fun f => (gX12_init a0 f).2.1 h
noncomputable def qX12_init_96 (a0 : Nat) (h : ea_H) : Option (Unit × ea_H) := flim fun f => (gX12_init a0 f).2.2.1 h
noncomputable def qX12_init_149 (a0 : Nat) (h : ea_H) : Option (Unit × ea_H) := flim fun f => (gX12_init a0 f).2.2.2.1 h
noncomputable def qX12_init_199 (a0 : Nat) (h : ea_H) : Option (Unit × ea_H) := flim fun f => (gX12_init a0 f).2.2.2.2.1 h
noncomputable def qX12_init_247 (a0 : Nat) (h : ea_H) : Option (Unit × ea_H) := flim fun f => (gX12_init a0 f).2.2.2.2.2.1 h
noncomputable def qX12_init_299 (a0 : Nat) (h : ea_H) : Option (Unit × ea_H) := flim fun f => (gX12_init a0 f).2.2.2.2.2.2.1 h
noncomputable def qX12_init_346 (a0 : Nat) (h : ea_H) : Option (Unit × ea_H) := flim fun f => (gX12_init a0 f).2.2.2.2.2.2.2.1 h
noncomputable def qX12_init_394 (a0 : Nat) (h : ea_H) : Option (Unit × ea_H) := flim fun f => (gX12_init a0 f).2.2.2.2.2.2.2.2.1 h
noncomputable def qX12_init_442 (a0 : Nat) (h : ea_H) : Option (Unit × ea_H) := flim fun f => (gX12_init a0 f).2.2.2.2.2.2.2.2.2.1 h
noncomputable def qX12_init_490 (a0 : Nat) (h : ea_H) : Option (Unit × ea_H) := flim fun f => (gX12_init a0 f).2.2.2.2.2.2.2.2.2.2.1 h
noncomputable def qX12_init_538 (a0 : Nat) (h : ea_H) : Option (Unit × ea_H) := flim fun f => (gX12_init a0 f).2.2.2.2.2.2.2.2.2.2.2.1 h
noncomputable def qX12_init_586 (a0 : Nat) (h : ea_H) : Option (Unit × ea_H) := flim fun f => (gX12_init a0 f).2.2.2.2.2.2.2.2.2.2.2.2.1 h
noncomputable def qX12_init_636 (a0 : Nat) (h : ea_H) : Option (Unit × ea_H) := flim fun f => (gX12_init a0 f).2.2.2.2.2.2.2.2.2.2.2.2.2.1 h
noncomputable def qX12_init_685 (a0 : Nat) (h : ea_H) : Option (Unit × ea_H) := flim fun f => (gX12_init a0 f).2.2.2.2.2.2.2.2.2.2.2.2.2.2.1 h
noncomputable def qX12_init_733 (a0 : Nat) (h : ea_H) : Option (Unit × ea_H) := flim fun f => (gX12_init a0 f).2.2.2.2.2.2.2.2.2.2.2.2.2.2.2.1 h
noncomputable def qX12_init_743 (a0 : Nat) (x1 : Int32) (h : ea_H) : Option (Unit × ea_H) := flim fun f => (gX12_init a0 f).2.2.2.2.2.2.2.2.2.2.2.2.2.2.2.2.1 x1 h
noncomputable def qX12_init_773 (a0 : Nat) (x1 : Int32) (h : ea_H) : Option (Unit × ea_H) := flim fun f => (gX12_init a0 f).2.2.2.2.2.2.2.2.2.2.2.2.2.2.2.2.2.1 x1 h
noncomputable def qX12_init_779 (a0 : Nat) (x1 : Int32) (h : ea_H) : Option (Unit × ea_H) := flim fun f => (gX12_init a0 f).2.2.2.2.2.2.2.2.2.2.2.2.2.2.2.2.2.2 x1 h
theorem fqX12_init_0 (a0 : Nat) (h : ea_H) : fct (qX12_init_0 a0 h) fun f => (gX12_init a0 f).1 h := flim_ct fun f => (mgX12_init a0 f).1 h
theorem fqX12_init_45 (a0 : Nat) (h : ea_H) : fct (qX12_init_45 a0 h) fun f => (gX12_init a0 f).2.1 h := flim_ct fun f => (mgX12_init a0 f).2.1 h
theorem fqX12_init_96 (a0 : Nat) (h : ea_H) : fct (qX12_init_96 a0 h) fun f => (gX12_init a0 f).2.2.1 h := flim_ct fun f => (mgX12_init a0 f).2.2.1 h
theorem fqX12_init_149 (a0 : Nat) (h : ea_H) : fct (qX12_init_149 a0 h) fun f => (gX12_init a0 f).2.2.2.1 h := flim_ct fun f => (mgX12_init a0 f).2.2.2.1 h
theorem fqX12_init_199 (a0 : Nat) (h : ea_H) : fct (qX12_init_199 a0 h) fun f => (gX12_init a0 f).2.2.2.2.1 h := flim_ct fun f => (mgX12_init a0 f).2.2.2.2.1 h
theorem fqX12_init_247 (a0 : Nat) (h : ea_H) : fct (qX12_init_247 a0 h) fun f => (gX12_init a0 f).2.2.2.2.2.1 h := flim_ct fun f => (mgX12_init a0 f).2.2.2.2.2.1 h
theorem fqX12_init_299 (a0 : Nat) (h : ea_H) : fct (qX12_init_299 a0 h) fun f => (gX12_init a0 f).2.2.2.2.2.2.1 h := flim_ct fun f => (mgX12_init a0 f).2.2.2.2.2.2.1 h
theorem fqX12_init_346 (a0 : Nat) (h : ea_H) : fct (qX12_init_346 a0 h) fun f => (gX12_init a0 f).2.2.2.2.2.2.2.1 h := flim_ct fun f => (mgX12_init a0 f).2.2.2.2.2.2.2.1 h
theorem fqX12_init_394 (a0 : Nat) (h : ea_H) : fct (qX12_init_394 a0 h) fun f => (gX12_init a0 f).2.2.2.2.2.2.2.2.1 h := flim_ct fun f => (mgX12_init a0 f).2.2.2.2.2.2.2.2.1 h
theorem fqX12_init_442 (a0 : Nat) (h : ea_H) : fct (qX12_init_442 a0 h) fun f => (gX12_init a0 f).2.2.2.2.2.2.2.2.2.1 h := flim_ct fun f => (mgX12_init a0 f).2.2.2.2.2.2.2.2.2.1 h
theorem fqX12_init_490 (a0 : Nat) (h : ea_H) : fct (qX12_init_490 a0 h) fun f => (gX12_init a0 f).2.2.2.2.2.2.2.2.2.2.1 h := flim_ct fun f => (mgX12_init a0 f).2.2.2.2.2.2.2.2.2.2.1 h
theorem fqX12_init_538 (a0 : Nat) (h : ea_H) : fct (qX12_init_538 a0 h) fun f => (gX12_init a0 f).2.2.2.2.2.2.2.2.2.2.2.1 h := flim_ct fun f => (mgX12_init a0 f).2.2.2.2.2.2.2.2.2.2.2.1 h
theorem fqX12_init_586 (a0 : Nat) (h : ea_H) : fct (qX12_init_586 a0 h) fun f => (gX12_init a0 f).2.2.2.2.2.2.2.2.2.2.2.2.1 h := flim_ct fun f => (mgX12_init a0 f).2.2.2.2.2.2.2.2.2.2.2.2.1 h
theorem fqX12_init_636 (a0 : Nat) (h : ea_H) : fct (qX12_init_636 a0 h) fun f => (gX12_init a0 f).2.2.2.2.2.2.2.2.2.2.2.2.2.1 h := flim_ct fun f => (mgX12_init a0 f).2.2.2.2.2.2.2.2.2.2.2.2.2.1 h
theorem fqX12_init_685 (a0 : Nat) (h : ea_H) : fct (qX12_init_685 a0 h) fun f => (gX12_init a0 f).2.2.2.2.2.2.2.2.2.2.2.2.2.2.1 h := flim_ct fun f => (mgX12_init a0 f).2.2.2.2.2.2.2.2.2.2.2.2.2.2.1 h
theorem fqX12_init_733 (a0 : Nat) (h : ea_H) : fct (qX12_init_733 a0 h) fun f => (gX12_init a0 f).2.2.2.2.2.2.2.2.2.2.2.2.2.2.2.1 h := flim_ct fun f => (mgX12_init a0 f).2.2.2.2.2.2.2.2.2.2.2.2.2.2.2.1 h
theorem fqX12_init_743 (a0 : Nat) (x1 : Int32) (h : ea_H) : fct (qX12_init_743 a0 x1 h) fun f => (gX12_init a0 f).2.2.2.2.2.2.2.2.2.2.2.2.2.2.2.2.1 x1 h := flim_ct fun f => (mgX12_init a0 f).2.2.2.2.2.2.2.2.2.2.2.2.2.2.2.2.1 x1 h
theorem fqX12_init_773 (a0 : Nat) (x1 : Int32) (h : ea_H) : fct (qX12_init_773 a0 x1 h) fun f => (gX12_init a0 f).2.2.2.2.2.2.2.2.2.2.2.2.2.2.2.2.2.1 x1 h := flim_ct fun f => (mgX12_init a0 f).2.2.2.2.2.2.2.2.2.2.2.2.2.2.2.2.2.1 x1 h
theorem fqX12_init_779 (a0 : Nat) (x1 : Int32) (h : ea_H) : fct (qX12_init_779 a0 x1 h) fun f => (gX12_init a0 f).2.2.2.2.2.2.2.2.2.2.2.2.2.2.2.2.2.2 x1 h := flim_ct fun f => (mgX12_init a0 f).2.2.2.2.2.2.2.2.2.2.2.2.2.2.2.2.2.2 x1 h
/-- how a block opens -/
theorem uqX12_init_0 {a0 : Nat} {h : ea_H} {P : Unit × ea_H → Prop} (H : sat (BX12_init_0 a0 (qX12_init_45 a0) h) P) : sat (qX12_init_0 a0 h) P := by
  obtain ⟨x, e, hp⟩ := H
  obtain ⟨n, hn⟩ := nBX12_init_0 (a0 := a0) (fqX12_init_45 a0) x e
  exact ⟨x, flim_at (fun f => (mgX12_init a0 f).1 h) (f := n + 1) (hn n (Nat.le_refl _)), hp⟩
/-- how a block opens -/
theorem uqX12_init_45 {a0 : Nat} {h : ea_H} {P : Unit × ea_H → Prop} (H : sat (BX12_init_45 a0 (qX12_init_96 a0) h) P) : sat (qX12_init_45 a0 h) P := by
  obtain ⟨x, e, hp⟩ := H
  obtain ⟨n, hn⟩ := nBX12_init_45 (a0 := a0) (fqX12_init_96 a0) x e
  exact ⟨x, flim_at (fun f => (mgX12_init a0 f).2.1 h) (f := n + 1) (hn n (Nat.le_refl _)), hp⟩
/-- how a block opens -/
theorem uqX12_init_96 {a0 : Nat} {h : ea_H} {P : Unit × ea_H → Prop} (H : sat (BX12_init_96 a0 (qX12_init_149 a0) h) P) : sat (qX12_init_96 a0 h) P := by
  obtain ⟨x, e, hp⟩ := H
  obtain ⟨n, hn⟩ := nBX12_init_96 (a0 := a0) (fqX12_init_149 a0) x e
  exact ⟨x, flim_at (fun f => (mgX12_init a0 f).2.2.1 h) (f := n + 1) (hn n (Nat.le_refl _)), hp⟩
/-- how a block opens -/
theorem uqX12_init_149 {a0 : Nat} {h : ea_H} {P : Unit × ea_H → Prop} (H : sat (BX12_init_149 a0 (qX12_init_199 a0) h) P) : sat (qX12_init_149 a0 h) P := by
  obtain ⟨x, e, hp⟩ := H
  obtain ⟨n, hn⟩ := nBX12_init_149 (a0 := a0) (fqX12_init_199 a0) x e
  exact ⟨x, flim_at (fun f => (mgX12_init a0 f).2.2.2.1 h) (f := n + 1) (hn n (Nat.le_refl _)), hp⟩
/-- how a block opens -/
theorem uqX12_init_199 {a0 : Nat} {h : ea_H} {P : Unit × ea_H → Prop} (H : sat (BX12_init_199 a0 (qX12_init_247 a0) h) P) : sat (qX12_init_199 a0 h) P := by
  obtain ⟨x, e, hp⟩ := H
  obtain ⟨n, hn⟩ := nBX12_init_199 (a0 := a0) (fqX12_init_247 a0) x e
  exact ⟨x, flim_at (fun f => (mgX12_init a0 f).2.2.2.2.1 h) (f := n + 1) (hn n (Nat.le_refl _)), hp⟩
/-- how a block opens -/
theorem uqX12_init_247 {a0 : Nat} {h : ea_H} {P : Unit × ea_H → Prop} (H : sat (BX12_init_247 a0 (qX12_init_299 a0) h) P) : sat (qX12_init_247 a0 h) P := by
  obtain ⟨x, e, hp⟩ := H
  obtain ⟨n, hn⟩ := nBX12_init_247 (a0 := a0) (fqX12_init_299 a0) x e
  exact ⟨x, flim_at (fun f => (mgX12_init a0 f).2.2.2.2.2.1 h) (f := n + 1) (hn n (Nat.le_refl _)), hp⟩
/-- how a block opens -/
theorem uqX12_init_299 {a0 : Nat} {h : ea_H} {P : Unit × ea_H → Prop} (H : sat (BX12_init_299 a0 (qX12_init_346 a0) h) P) : sat (qX12_init_299 a0 h) P := by
  obtain ⟨x, e, hp⟩ := H
  obtain ⟨n, hn⟩ := nBX12_init_299 (a0 := a0) (fqX12_init_346 a0) x e
  exact ⟨x, flim_at (fun f => (mgX12_init a0 f).2.2.2.2.2.2.1 h) (f := n + 1) (hn n (Nat.le_refl _)), hp⟩
/-- how a block opens -/
theorem uqX12_init_346 {a0 : Nat} {h : ea_H} {P : Unit × ea_H → Prop} (H : sat (BX12_init_346 a0 (qX12_init_394 a0) h) P) : sat (qX12_init_346 a0 h) P := by
  obtain ⟨x, e, hp⟩ := H
  obtain ⟨n, hn⟩ := nBX12_init_346 (a0 := a0) (fqX12_init_394 a0) x e
  exact ⟨x, flim_at (fun f => (mgX12_init a0 f).2.2.2.2.2.2.2.1 h) (f := n + 1) (hn n (Nat.le_refl _)), hp⟩
/-- how a block opens -/
theorem uqX12_init_394 {a0 : Nat} {h : ea_H} {P : Unit × ea_H → Prop} (H : sat (BX12_init_394 a0 (qX12_init_442 a0) h) P) : sat (qX12_init_394 a0 h) P := by
  obtain ⟨x, e, hp⟩ := H
  obtain ⟨n, hn⟩ := nBX12_init_394 (a0 := a0) (fqX12_init_442 a0) x e
  exact ⟨x, flim_at (fun f => (mgX12_init a0 f).2.2.2.2.2.2.2.2.1 h) (f := n + 1) (hn n (Nat.le_refl _)), hp⟩
/-- how a block opens -/
theorem uqX12_init_442 {a0 : Nat} {h : ea_H} {P : Unit × ea_H → Prop} (H : sat (BX12_init_442 a0 (qX12_init_490 a0) h) P) : sat (qX12_init_442 a0 h) P := by
  obtain ⟨x, e, hp⟩ := H
  obtain ⟨n, hn⟩ := nBX12_init_442 (a0 := a0) (fqX12_init_490 a0) x e
  exact ⟨x, flim_at (fun f => (mgX12_init a0 f).2.2.2.2.2.2.2.2.2.1 h) (f := n + 1) (hn n (Nat.le_refl _)), hp⟩
/-- how a block opens -/
theorem uqX12_init_490 {a0 : Nat} {h : ea_H} {P : Unit × ea_H → Prop} (H : sat (BX12_init_490 a0 (qX12_init_538 a0) h) P) : sat (qX12_init_490 a0 h) P := by
  obtain ⟨x, e, hp⟩ := H
  obtain ⟨n, hn⟩ := nBX12_init_490 (a0 := a0) (fqX12_init_538 a0) x e
  exact ⟨x, flim_at (fun f => (mgX12_init a0 f).2.2.2.2.2.2.2.2.2.2.1 h) (f := n + 1) (hn n (Nat.le_refl _)), hp⟩
/-- how a block opens -/
theorem uqX12_init_538 {a0 : Nat} {h : ea_H} {P : Unit × ea_H → Prop} (H : sat (BX12_init_538 a0 (qX12_init_586 a0) h) P) : sat (qX12_init_538 a0 h) P := by
  obtain ⟨x, e, hp⟩ := H
  obtain ⟨n, hn⟩ := nBX12_init_538 (a0 := a0) (fqX12_init_586 a0) x e
  exact ⟨x, flim_at (fun f => (mgX12_init a0 f).2.2.2.2.2.2.2.2.2.2.2.1 h) (f := n + 1) (hn n (Nat.le_refl _)), hp⟩
/-- how a block opens -/
theorem uqX12_init_586 {a0 : Nat} {h : ea_H} {P : Unit × ea_H → Prop} (H : sat (BX12_init_586 a0 (qX12_init_636 a0) h) P) : sat (qX12_init_586 a0 h) P := by
  obtain ⟨x, e, hp⟩ := H
  obtain ⟨n, hn⟩ := nBX12_init_586 (a0 := a0) (fqX12_init_636 a0) x e
  exact ⟨x, flim_at (fun f => (mgX12_init a0 f).2.2.2.2.2.2.2.2.2.2.2.2.1 h) (f := n + 1) (hn n (Nat.le_refl _)), hp⟩
/-- how a block opens -/
theorem uqX12_init_636 {a0 : Nat} {h : ea_H} {P : Unit × ea_H → Prop} (H : sat (BX12_init_636 a0 (qX12_init_685 a0) h) P) : sat (qX12_init_636 a0 h) P := by
  obtain ⟨x, e, hp⟩ := H
  obtain ⟨n, hn⟩ := nBX12_init_636 (a0 := a0) (fqX12_init_685 a0) x e
  exact ⟨x, flim_at (fun f => (mgX12_init a0 f).2.2.2.2.2.2.2.2.2.2.2.2.2.1 h) (f := n + 1) (hn n (Nat.le_refl _)), hp⟩
/-- how a block opens -/
theorem uqX12_init_685 {a0 : Nat} {h : ea_H} {P : Unit × ea_H → Prop} (H : sat (BX12_init_685 a0 (qX12_init_733 a0) h) P) : sat (qX12_init_685 a0 h) P := by
  obtain ⟨x, e, hp⟩ := H
  obtain ⟨n, hn⟩ := nBX12_init_685 (a0 := a0) (fqX12_init_733 a0) x e
  exact ⟨x, flim_at (fun f => (mgX12_init a0 f).2.2.2.2.2.2.2.2.2.2.2.2.2.2.1 h) (f := n + 1) (hn n (Nat.le_refl _)), hp⟩
/-- how a block opens -/
theorem uqX12_init_733 {a0 : Nat} {h : ea_H} {P : Unit × ea_H → Prop} (H : sat (BX12_init_733 a0 (qX12_init_743 a0) h) P) : sat (qX12_init_733 a0 h) P := by
  obtain ⟨x, e, hp⟩ := H
  obtain ⟨n, hn⟩ := nBX12_init_733 (a0 := a0) (fqX12_init_743 a0) x e
  exact ⟨x, flim_at (fun f => (mgX12_init a0 f).2.2.2.2.2.2.2.2.2.2.2.2.2.2.2.1 h) (f := n + 1) (hn n (Nat.le_refl _)), hp⟩
/-- how a block opens -/
theorem uqX12_init_743 {a0 : Nat} {x1 : Int32} {h : ea_H} {P : Unit × ea_H → Prop} (H : sat (BX12_init_743 a0 (qX12_init_743 a0) (qX12_init_773 a0) x1 h) P) : sat (qX12_init_743 a0 x1 h) P := by
  obtain ⟨x, e, hp⟩ := H
  obtain ⟨n, hn⟩ := nBX12_init_743 (a0 := a0) (fqX12_init_743 a0) (fqX12_init_773 a0) x e
  exact ⟨x, flim_at (fun f => (mgX12_init a0 f).2.2.2.2.2.2.2.2.2.2.2.2.2.2.2.2.1 x1 h) (f := n + 1) (hn n (Nat.le_refl _)), hp⟩
/-- how a block opens -/
theorem uqX12_init_773 {a0 : Nat} {x1 : Int32} {h : ea_H} {P : Unit × ea_H → Prop} (H : sat (BX12_init_773 a0 (qX12_init_779 a0) x1 h) P) : sat (qX12_init_773 a0 x1 h) P := by
  obtain ⟨x, e, hp⟩ := H
  obtain ⟨n, hn⟩ := nBX12_init_773 (a0 := a0) (fqX12_init_779 a0) x e
  exact ⟨x, flim_at (fun f => (mgX12_init a0 f).2.2.2.2.2.2.2.2.2.2.2.2.2.2.2.2.2.1 x1 h) (f := n + 1) (hn n (Nat.le_refl _)), hp⟩
/-- how a block opens -/
theorem uqX12_init_779 {a0 : Nat} {x1 : Int32} {h : ea_H} {P : Unit × ea_H → Prop} (H : sat (BX12_init_779 a0 (qX12_init_773 a0) x1 h) P) : sat (qX12_init_779 a0 x1 h) P := by
  obtain ⟨x, e, hp⟩ := H
  obtain ⟨n, hn⟩ := nBX12_init_779 (a0 := a0) (fqX12_init_773 a0) x e
  exact ⟨x, flim_at (fun f => (mgX12_init a0 f).2.2.2.2.2.2.2.2.2.2.2.2.2.2.2.2.2.2 x1 h) (f := n + 1) (hn n (Nat.le_refl _)), hp⟩
theorem tgX12_init {d : Nat} {a0 : Nat} {h0 : ea_H} (hd : 2 ≤ d) : ∀ f : Nat, (∀ (h : ea_H) (r : Unit) (h' : ea_H), (gX12_init a0 f).1 h = some (r, h') → ea_W mX12_init d h0 none h' 0 [(0, vR (some a0))] [] h) ∧ (∀ (h : ea_H) (r : Unit) (h' : ea_H), (gX12_init a0 f).2.1 h = some (r, h') → ea_W mX12_init d h0 none h' 45 [(0, vR (some a0))] [] h) ∧ (∀ (h : ea_H) (r : Unit) (h' : ea_H), (gX12_init a0 f).2.2.1 h = some (r, h') → ea_W mX12_init d h0 none h' 96 [(0, vR (some a0))] [] h) ∧ (∀ (h : ea_H) (r : Unit) (h' : ea_H), (gX12_init a0 f).2.2.2.1 h = some (r, h') → ea_W mX12_init d h0 none h' 149 [(0, vR (some a0))] [] h) ∧ (∀ (h : ea_H) (r : Unit) (h' : ea_H), (gX12_init a0 f).2.2.2.2.1 h = some (r, h') → ea_W mX12_init d h0 none h' 199 [(0, vR (some a0))] [] h) ∧ (∀ (h : ea_H) (r : Unit) (h' : ea_H), (gX12_init a0 f).2.2.2.2.2.1 h = some (r, h') → ea_W mX12_init d h0 none h' 247 [(0, vR (some a0))] [] h) ∧ (∀ (h : ea_H) (r : Unit) (h' : ea_H), (gX12_init a0 f).2.2.2.2.2.2.1 h = some (r, h') → ea_W mX12_init d h0 none h' 299 [(0, vR (some a0))] [] h) ∧ (∀ (h : ea_H) (r : Unit) (h' : ea_H), (gX12_init a0 f).2.2.2.2.2.2.2.1 h = some (r, h') → ea_W mX12_init d h0 none h' 346 [(0, vR (some a0))] [] h) ∧ (∀ (h : ea_H) (r : Unit) (h' : ea_H), (gX12_init a0 f).2.2.2.2.2.2.2.2.1 h = some (r, h') → ea_W mX12_init d h0 none h' 394 [(0, vR (some a0))] [] h) ∧ (∀ (h : ea_H) (r : Unit) (h' : ea_H), (gX12_init a0 f).2.2.2.2.2.2.2.2.2.1 h = some (r, h') → ea_W mX12_init d h0 none h' 442 [(0, vR (some a0))] [] h) ∧ (∀ (h : ea_H) (r : Unit) (h' : ea_H), (gX12_init a0 f).2.2.2.2.2.2.2.2.2.2.1 h = some (r, h') → ea_W mX12_init d h0 none h' 490 [(0, vR (some a0))] [] h) ∧ (∀ (h : ea_H) (r : Unit) (h' : ea_H), (gX12_init a0 f).2.2.2.2.2.2.2.2.2.2.2.1 h = some (r, h') → ea_W mX12_init d h0 none h' 538 [(0, vR (some a0))] [] h) ∧ (∀ (h : ea_H) (r : Unit) (h' : ea_H), (gX12_init a0 f).2.2.2.2.2.2.2.2.2.2.2.2.1 h = some (r, h') → ea_W mX12_init d h0 none h' 586 [(0, vR (some a0))] [] h) ∧ (∀ (h : ea_H) (r : Unit) (h' : ea_H), (gX12_init a0 f).2.2.2.2.2.2.2.2.2.2.2.2.2.1 h = some (r, h') → ea_W mX12_init d h0 none h' 636 [(0, vR (some a0))] [] h) ∧ (∀ (h : ea_H) (r : Unit) (h' : ea_H), (gX12_init a0 f).2.2.2.2.2.2.2.2.2.2.2.2.2.2.1 h = some (r, h') → ea_W mX12_init d h0 none h' 685 [(0, vR (some a0))] [] h) ∧ (∀ (h : ea_H) (r : Unit) (h' : ea_H), (gX12_init a0 f).2.2.2.2.2.2.2.2.2.2.2.2.2.2.2.1 h = some (r, h') → ea_W mX12_init d h0 none h' 733 [(0, vR (some a0))] [] h) ∧ (∀ (x1 : Int32) (h : ea_H) (r : Unit) (h' : ea_H), (gX12_init a0 f).2.2.2.2.2.2.2.2.2.2.2.2.2.2.2.2.1 x1 h = some (r, h') → ea_W mX12_init d h0 none h' 743 [(0, vR (some a0)), (1, vI x1)] [] h) ∧ (∀ (x1 : Int32) (h : ea_H) (r : Unit) (h' : ea_H), (gX12_init a0 f).2.2.2.2.2.2.2.2.2.2.2.2.2.2.2.2.2.1 x1 h = some (r, h') → ea_W mX12_init d h0 none h' 773 [(0, vR (some a0)), (1, vI x1)] [] h) ∧ (∀ (x1 : Int32) (h : ea_H) (r : Unit) (h' : ea_H), (gX12_init a0 f).2.2.2.2.2.2.2.2.2.2.2.2.2.2.2.2.2.2 x1 h = some (r, h') → ea_W mX12_init d h0 none h' 779 [(0, vR (some a0)), (1, vI x1)] [] h) := by
  intro f
  induction f with
  | zero => exact ⟨fun _ _ _ E => no_some E, fun _ _ _ E => no_some E, fun _ _ _ E => no_some E, fun _ _ _ E => no_some E, fun _ _ _ E => no_some E, fun _ _ _ E => no_some E, fun _ _ _ E => no_some E, fun _ _ _ E => no_some E, fun _ _ _ E => no_some E, fun _ _ _ E => no_some E, fun _ _ _ E => no_some E, fun _ _ _ E => no_some E, fun _ _ _ E => no_some E, fun _ _ _ E => no_some E, fun _ _ _ E => no_some E, fun _ _ _ E => no_some E, fun _ _ _ _ E => no_some E, fun _ _ _ _ E => no_some E, fun _ _ _ _ E => no_some E⟩
  | succ f ih => exact ⟨fun _ _ _ E => tBX12_init_0 (a0 := a0) hd ih.2.1 E, fun _ _ _ E => tBX12_init_45 (a0 := a0) hd ih.2.2.1 E, fun _ _ _ E => tBX12_init_96 (a0 := a0) hd ih.2.2.2.1 E, fun _ _ _ E => tBX12_init_149 (a0 := a0) hd ih.2.2.2.2.1 E, fun _ _ _ E => tBX12_init_199 (a0 := a0) hd ih.2.2.2.2.2.1 E, fun _ _ _ E => tBX12_init_247 (a0 := a0) hd ih.2.2.2.2.2.2.1 E, fun _ _ _ E => tBX12_init_299 (a0 := a0) hd ih.2.2.2.2.2.2.2.1 E, fun _ _ _ E => tBX12_init_346 (a0 := a0) hd ih.2.2.2.2.2.2.2.2.1 E, fun _ _ _ E => tBX12_init_394 (a0 := a0) hd ih.2.2.2.2.2.2.2.2.2.1 E, fun _ _ _ E => tBX12_init_442 (a0 := a0) hd ih.2.2.2.2.2.2.2.2.2.2.1 E, fun _ _ _ E => tBX12_init_490 (a0 := a0) hd ih.2.2.2.2.2.2.2.2.2.2.2.1 E, fun _ _ _ E => tBX12_init_538 (a0 := a0) hd ih.2.2.2.2.2.2.2.2.2.2.2.2.1 E, fun _ _ _ E => tBX12_init_586 (a0 := a0) hd ih.2.2.2.2.2.2.2.2.2.2.2.2.2.1 E, fun _ _ _ E => tBX12_init_636 (a0 := a0) hd ih.2.2.2.2.2.2.2.2.2.2.2.2.2.2.1 E, fun _ _ _ E => tBX12_init_685 (a0 := a0) hd ih.2.2.2.2.2.2.2.2.2.2.2.2.2.2.2.1 E, fun _ _ _ E => tBX12_init_733 (a0 := a0) hd ih.2.2.2.2.2.2.2.2.2.2.2.2.2.2.2.2.1 E, fun _ _ _ _ E => tBX12_init_743 (a0 := a0) hd ih.2.2.2.2.2.2.2.2.2.2.2.2.2.2.2.2.1 ih.2.2.2.2.2.2.2.2.2.2.2.2.2.2.2.2.2.1 E, fun _ _ _ _ E => tBX12_init_773 (a0 := a0) hd ih.2.2.2.2.2.2.2.2.2.2.2.2.2.2.2.2.2.2 E, fun _ _ _ _ E => tBX12_init_779 (a0 := a0) hd ih.2.2.2.2.2.2.2.2.2.2.2.2.2.2.2.2.2.1 E⟩
noncomputable def qX12_init (a0 : Nat) (h : ea_H) : Option (Unit × ea_H) := qX12_init_0 a0  h
theorem sX12_init {d : Nat} {a0 : Nat} {h : ea_H} {r : Unit} {h' : ea_H} (hd : 2 ≤ d) (K : qX12_init a0 h = some (r, h')) : ea_Met mX12_init d [vR (some a0)] h none h' := by
  unfold qX12_init at K
  obtain ⟨n, hn⟩ := fqX12_init_0 a0  h _ K
  have W := (tgX12_init (d := d) (h0 := h) hd n).1  h _ _ (hn n (Nat.le_refl _))
  exact ea_enter rfl (Nat.le_of_ble_eq_true rfl) W
noncomputable def BX12_isIn_0 (x0 : Int32) (x1 : Int32) (x2 : Int32) (h : ea_H) : Option (Int32 × ea_H) :=
  (if x0 < x1 then (some ((0 : Int32), h)) else (if x2 < x0 then (some ((0 : Int32), h)) else (some ((1 : Int32), h))))
theorem tBX12_isIn_0 {d : Nat} {h0 : ea_H} (hd : 1 ≤ d)  {x0 : Int32} {x1 : Int32} {x2 : Int32} {h : ea_H} {r : Int32} {h' : ea_H} (E : BX12_isIn_0 x0 x1 x2 h = some (r, h')) : ea_W mX12_isIn d h0 (some (vI r)) h' 0 [(0, vI x0), (1, vI x1), (2, vI x2)] [] h := by
  unfold BX12_isIn_0 at E
  refine ea_iload_n (pc := 0) dX12_isIn_0 rfl 0 rfl ?_
  refine ea_iload_n (pc := 1) dX12_isIn_1 rfl 1 rfl ?_
  refine ea_icmp_lt (pc := 2) (tgt := 14) dX12_isIn_2 rfl (fun c2 => ?_) (fun c2 => ?_)
  · have E := (if_pos c2).symm.trans E
    refine ea_iconst (pc := 14) dX12_isIn_14 (v := 0) rfl ?_
    exact ea_iretO (pc := 15) dX12_isIn_15 rfl (ea_bn (Or.inl rfl)) E
  · have E := (if_neg c2).symm.trans E
    refine ea_iload_n (pc := 5) dX12_isIn_5 rfl 0 rfl ?_
    refine ea_iload_n (pc := 6) dX12_isIn_6 rfl 2 rfl ?_
    refine ea_icmp_gt (pc := 7) (tgt := 14) dX12_isIn_7 rfl (fun c1 => ?_) (fun c1 => ?_)
    · have E := (if_pos c1).symm.trans E
      refine ea_iconst (pc := 14) dX12_isIn_14 (v := 0) rfl ?_
      exact ea_iretO (pc := 15) dX12_isIn_15 rfl (ea_bn (Or.inl rfl)) E
    · have E := (if_neg c1).symm.trans E
      refine ea_iconst (pc := 10) dX12_isIn_10 (v := 1) rfl ?_
      refine ea_goto (pc := 11) (tgt := 15) dX12_isIn_11 rfl ?_
      exact ea_iretO (pc := 15) dX12_isIn_15 rfl (ea_bn (Or.inr rfl)) E
theorem kBX12_isIn_0  {x0 : Int32} {x1 : Int32} {x2 : Int32} {h : ea_H} : kp (ea_core h) (BX12_isIn_0 x0 x1 x2 h) :=
  (kp_ite (kp_ret rfl) (kp_ite (kp_ret rfl) (kp_ret rfl)))
noncomputable def qX12_isIn (x0 : Int32) (x1 : Int32) (x2 : Int32) (h : ea_H) : Option (Int32 × ea_H) := BX12_isIn_0 x0 x1 x2 h
theorem sX12_isIn {d : Nat} {x0 : Int32} {x1 : Int32} {x2 : Int32} {h : ea_H} {r : Int32} {h' : ea_H} (hd : 1 ≤ d) (K : qX12_isIn x0 x1 x2 h = some (r, h')) : ea_Met mX12_isIn d [vI x0, vI x1, vI x2] h (some (vI r)) h' := by
  unfold qX12_isIn at K
  have W := tBX12_isIn_0 hd (h0 := h) K
  exact ea_enter rfl (Nat.le_of_ble_eq_true rfl) W
theorem kpX12_isIn (x0 : Int32) (x1 : Int32) (x2 : Int32) (h : ea_H) : kp (ea_core h) (qX12_isIn x0 x1 x2 h) := kBX12_isIn_0
noncomputable def BX12_isTown_0 (x1 : Int32) (h : ea_H) : Option (Int32 × ea_H) :=
  (Option.bind (qX12_isIn (x1 : Int32) (0 : Int32) (((ea_i h 326 1) - (1 : Int32)) : Int32) h) fun w1 => (gd ((w1.1 = 0 ∨ w1.1 = 1)) (some (w1.1, w1.2))))
theorem tBX12_isTown_0 {d : Nat} {h0 : ea_H} (hd : 2 ≤ d)  {x1 : Int32} {h : ea_H} {r : Int32} {h' : ea_H} (E : BX12_isTown_0 x1 h = some (r, h')) (hs : ShM h) : ea_W mX12_isTown d h0 (some (vI r)) h' 0 [(0, vR (some 326)), (1, vI x1)] [] h := by
  unfold BX12_isTown_0 at E
  obtain ⟨w1, Ew1, E⟩ := bd_some E
  have hsw1 : ShM w1.2 := ShM_core ((kpX12_isIn _ _ _ _) _ Ew1) hs
  refine ea_iload_n (pc := 0) dX12_isTown_0 rfl 1 rfl ?_
  refine ea_iconst (pc := 1) dX12_isTown_1 (v := 0) rfl ?_
  refine ea_aload_n (pc := 2) dX12_isTown_2 rfl 0 rfl ?_
  refine ea_getI (pc := 3) dX12_isTown_3 ec_12 (k := 1) (Nat.le_of_ble_eq_true rfl) rfl (Or.inl ew_1403) (cShM_326 hs).1 (cShM_326 hs).2.1 ?_
  refine ea_iconst (pc := 6) dX12_isTown_6 (v := 1) rfl ?_
  refine ea_isub (pc := 7) dX12_isTown_7 ?_
  refine ea_callS (pc := 8) (d' := d - 1) (As := [vI x1, vI 0, vI ((ea_i h 326 1) - (1 : Int32))]) (st := []) dX12_isTown_8 kX12_isIn (sX12_isIn (d := d - 1) (by omega) Ew1) (by omega) rfl (Nat.le_of_ble_eq_true rfl) ew_1769 ew_1770 ?_
  obtain ⟨z2, E⟩ := gd_some E
  exact ea_iretO (pc := 11) dX12_isTown_11 rfl (ea_bn z2) E
theorem kBX12_isTown_0  {x1 : Int32} {h : ea_H} : kp (ea_core h) (BX12_isTown_0 x1 h) :=
  (kp_bind (kp_tw (kpX12_isIn _ _ _ _) rfl) fun w1 hcw1 => (kp_gd (kp_ret hcw1)))
noncomputable def qX12_isTown (x1 : Int32) (h : ea_H) : Option (Int32 × ea_H) := BX12_isTown_0 x1 h
theorem sX12_isTown {d : Nat} {x1 : Int32} {h : ea_H} {r : Int32} {h' : ea_H} (hd : 2 ≤ d) (hs : ShM h) (K : qX12_isTown x1 h = some (r, h')) : ea_Met mX12_isTown d [vR (some 326), vI x1] h (some (vI r)) h' := by
  unfold qX12_isTown at K
  have W := tBX12_isTown_0 hd (h0 := h) K hs
  exact ea_enter rfl (Nat.le_of_ble_eq_true rfl) W
theorem kpX12_isTown (x1 : Int32) (h : ea_H) : kp (ea_core h) (qX12_isTown x1 h) := kBX12_isTown_0
noncomputable def BX12_isTrain_0 (x1 : Int32) (h : ea_H) : Option (Int32 × ea_H) :=
  (Option.bind (qX12_isIn (x1 : Int32) (0 : Int32) (((ea_i h 326 2) - (1 : Int32)) : Int32) h) fun w1 => (gd ((w1.1 = 0 ∨ w1.1 = 1)) (some (w1.1, w1.2))))
theorem tBX12_isTrain_0 {d : Nat} {h0 : ea_H} (hd : 2 ≤ d)  {x1 : Int32} {h : ea_H} {r : Int32} {h' : ea_H} (E : BX12_isTrain_0 x1 h = some (r, h')) (hs : ShM h) : ea_W mX12_isTrain d h0 (some (vI r)) h' 0 [(0, vR (some 326)), (1, vI x1)] [] h := by
  unfold BX12_isTrain_0 at E
  obtain ⟨w1, Ew1, E⟩ := bd_some E
  have hsw1 : ShM w1.2 := ShM_core ((kpX12_isIn _ _ _ _) _ Ew1) hs
  refine ea_iload_n (pc := 0) dX12_isTrain_0 rfl 1 rfl ?_
  refine ea_iconst (pc := 1) dX12_isTrain_1 (v := 0) rfl ?_
  refine ea_aload_n (pc := 2) dX12_isTrain_2 rfl 0 rfl ?_
  refine ea_getI (pc := 3) dX12_isTrain_3 ec_12 (k := 2) (Nat.le_of_ble_eq_true rfl) rfl (Or.inl ew_1404) (cShM_326 hs).1 (cShM_326 hs).2.1 ?_
  refine ea_iconst (pc := 6) dX12_isTrain_6 (v := 1) rfl ?_
  refine ea_isub (pc := 7) dX12_isTrain_7 ?_
  refine ea_callS (pc := 8) (d' := d - 1) (As := [vI x1, vI 0, vI ((ea_i h 326 2) - (1 : Int32))]) (st := []) dX12_isTrain_8 kX12_isIn (sX12_isIn (d := d - 1) (by omega) Ew1) (by omega) rfl (Nat.le_of_ble_eq_true rfl) ew_1769 ew_1770 ?_
  obtain ⟨z2, E⟩ := gd_some E
  exact ea_iretO (pc := 11) dX12_isTrain_11 rfl (ea_bn z2) E
theorem kBX12_isTrain_0  {x1 : Int32} {h : ea_H} : kp (ea_core h) (BX12_isTrain_0 x1 h) :=
  (kp_bind (kp_tw (kpX12_isIn _ _ _ _) rfl) fun w1 hcw1 => (kp_gd (kp_ret hcw1)))
noncomputable def qX12_isTrain (x1 : Int32) (h : ea_H) : Option (Int32 × ea_H) := BX12_isTrain_0 x1 h
theorem sX12_isTrain {d : Nat} {x1 : Int32} {h : ea_H} {r : Int32} {h' : ea_H} (hd : 2 ≤ d) (hs : ShM h) (K : qX12_isTrain x1 h = some (r, h')) : ea_Met mX12_isTrain d [vR (some 326), vI x1] h (some (vI r)) h' := by
  unfold qX12_isTrain at K
  have W := tBX12_isTrain_0 hd (h0 := h) K hs
  exact ea_enter rfl (Nat.le_of_ble_eq_true rfl) W
theorem kpX12_isTrain (x1 : Int32) (h : ea_H) : kp (ea_core h) (qX12_isTrain x1 h) := kBX12_isTrain_0
noncomputable def BX12_isDay_0 (x0 : Int32) (h : ea_H) : Option (Int32 × ea_H) :=
  (Option.bind (qX12_isIn (x0 : Int32) (0 : Int32) (6 : Int32) h) fun w1 => (gd ((w1.1 = 0 ∨ w1.1 = 1)) (some (w1.1, w1.2))))
theorem tBX12_isDay_0 {d : Nat} {h0 : ea_H} (hd : 2 ≤ d)  {x0 : Int32} {h : ea_H} {r : Int32} {h' : ea_H} (E : BX12_isDay_0 x0 h = some (r, h')) : ea_W mX12_isDay d h0 (some (vI r)) h' 0 [(0, vI x0)] [] h := by
  unfold BX12_isDay_0 at E
  obtain ⟨w1, Ew1, E⟩ := bd_some E
  refine ea_iload_n (pc := 0) dX12_isDay_0 rfl 0 rfl ?_
  refine ea_iconst (pc := 1) dX12_isDay_1 (v := 0) rfl ?_
  refine ea_bipush (pc := 2) dX12_isDay_2 (v := 6) rfl ?_
  refine ea_callS (pc := 4) (d' := d - 1) (As := [vI x0, vI 0, vI 6]) (st := []) dX12_isDay_4 kX12_isIn (sX12_isIn (d := d - 1) (by omega) Ew1) (by omega) rfl (Nat.le_of_ble_eq_true rfl) ew_1769 ew_1770 ?_
  obtain ⟨z2, E⟩ := gd_some E
  exact ea_iretO (pc := 7) dX12_isDay_7 rfl (ea_bn z2) E
theorem kBX12_isDay_0  {x0 : Int32} {h : ea_H} : kp (ea_core h) (BX12_isDay_0 x0 h) :=
  (kp_bind (kp_tw (kpX12_isIn _ _ _ _) rfl) fun w1 hcw1 => (kp_gd (kp_ret hcw1)))
noncomputable def qX12_isDay (x0 : Int32) (h : ea_H) : Option (Int32 × ea_H) := BX12_isDay_0 x0 h
theorem sX12_isDay {d : Nat} {x0 : Int32} {h : ea_H} {r : Int32} {h' : ea_H} (hd : 2 ≤ d) (K : qX12_isDay x0 h = some (r, h')) : ea_Met mX12_isDay d [vI x0] h (some (vI r)) h' := by
  unfold qX12_isDay at K
  have W := tBX12_isDay_0 hd (h0 := h) K
  exact ea_enter rfl (Nat.le_of_ble_eq_true rfl) W
theorem kpX12_isDay (x0 : Int32) (h : ea_H) : kp (ea_core h) (qX12_isDay x0 h) := kBX12_isDay_0
noncomputable def BX12_isMinute_0 (x0 : Int32) (h : ea_H) : Option (Int32 × ea_H) :=
  (Option.bind (qX12_isIn (x0 : Int32) (0 : Int32) (10079 : Int32) h) fun w1 => (gd ((w1.1 = 0 ∨ w1.1 = 1)) (some (w1.1, w1.2))))
theorem tBX12_isMinute_0 {d : Nat} {h0 : ea_H} (hd : 2 ≤ d)  {x0 : Int32} {h : ea_H} {r : Int32} {h' : ea_H} (E : BX12_isMinute_0 x0 h = some (r, h')) : ea_W mX12_isMinute d h0 (some (vI r)) h' 0 [(0, vI x0)] [] h := by
  unfold BX12_isMinute_0 at E
  obtain ⟨w1, Ew1, E⟩ := bd_some E
  refine ea_iload_n (pc := 0) dX12_isMinute_0 rfl 0 rfl ?_
  refine ea_iconst (pc := 1) dX12_isMinute_1 (v := 0) rfl ?_
  refine ea_sipush (pc := 2) dX12_isMinute_2 (v := 10079) rfl ?_
  refine ea_callS (pc := 5) (d' := d - 1) (As := [vI x0, vI 0, vI 10079]) (st := []) dX12_isMinute_5 kX12_isIn (sX12_isIn (d := d - 1) (by omega) Ew1) (by omega) rfl (Nat.le_of_ble_eq_true rfl) ew_1769 ew_1770 ?_
  obtain ⟨z2, E⟩ := gd_some E
  exact ea_iretO (pc := 8) dX12_isMinute_8 rfl (ea_bn z2) E
theorem kBX12_isMinute_0  {x0 : Int32} {h : ea_H} : kp (ea_core h) (BX12_isMinute_0 x0 h) :=
  (kp_bind (kp_tw (kpX12_isIn _ _ _ _) rfl) fun w1 hcw1 => (kp_gd (kp_ret hcw1)))
noncomputable def qX12_isMinute (x0 : Int32) (h : ea_H) : Option (Int32 × ea_H) := BX12_isMinute_0 x0 h
theorem sX12_isMinute {d : Nat} {x0 : Int32} {h : ea_H} {r : Int32} {h' : ea_H} (hd : 2 ≤ d) (K : qX12_isMinute x0 h = some (r, h')) : ea_Met mX12_isMinute d [vI x0] h (some (vI r)) h' := by
  unfold qX12_isMinute at K
  have W := tBX12_isMinute_0 hd (h0 := h) K
  exact ea_enter rfl (Nat.le_of_ble_eq_true rfl) W
theorem kpX12_isMinute (x0 : Int32) (h : ea_H) : kp (ea_core h) (qX12_isMinute x0 h) := kBX12_isMinute_0
noncomputable def BX12_town_0 (h : ea_H) : Option (Int32 × ea_H) :=
  (if (ea_i h 326 1) = (12 : Int32) then (some (((-1) : Int32), h)) else (ea_let (ea_wi h 326 1 ((ea_i h 326 1) + (1 : Int32))) fun H1 => (ea_let (ea_wi H1 326 12 0) fun H2 => (some (((ea_i H2 326 1) - (1 : Int32)), H2)))))
theorem tBX12_town_0 {d : Nat} {h0 : ea_H} (hd : 1 ≤ d)  {h : ea_H} {r : Int32} {h' : ea_H} (E : BX12_town_0 h = some (r, h')) (hs : ShM h) : ea_W mX12_town d h0 (some (vI r)) h' 0 [(0, vR (some 326))] [] h := by
  unfold BX12_town_0 at E
  refine ea_aload_n (pc := 0) dX12_town_0 rfl 0 rfl ?_
  refine ea_getI (pc := 1) dX12_town_1 ec_12 (k := 1) (Nat.le_of_ble_eq_true rfl) rfl (Or.inl ew_1403) (cShM_326 hs).1 (cShM_326 hs).2.1 ?_
  refine ea_bipush (pc := 4) dX12_town_4 (v := 12) rfl ?_
  refine ea_icmp_ne (pc := 6) (tgt := 11) dX12_town_6 rfl (fun c3 => ?_) (fun c3 => ?_)
  · have E := (if_neg c3).symm.trans E
    obtain ⟨H1, eH1, E⟩ := let_some E
    refine ea_aload_n (pc := 11) dX12_town_11 rfl 0 rfl ?_
    refine ea_dup (pc := 12) dX12_town_12 rfl ?_
    refine ea_getI (pc := 13) dX12_town_13 ec_12 (k := 1) (Nat.le_of_ble_eq_true rfl) rfl (Or.inl ew_1403) (cShM_326 hs).1 (cShM_326 hs).2.1 ?_
    refine ea_iconst (pc := 16) dX12_town_16 (v := 1) rfl ?_
    refine ea_iadd (pc := 17) dX12_town_17 ?_
    refine ea_putI (pc := 18) dX12_town_18 ec_12 (k := 1) (Nat.le_of_ble_eq_true rfl) rfl (Or.inl ⟨rfl, Or.inl ew_1403⟩) rfl rfl (cShM_326 hs).1 (cShM_326 hs).2.1 ?_
    refine ea_nm eH1 ?_
    have hsH1 : ShM H1 := by rw [eH1]; exact hs
    obtain ⟨H2, eH2, E⟩ := let_some E
    refine ea_aload_n (pc := 21) dX12_town_21 rfl 0 rfl ?_
    refine ea_iconst (pc := 22) dX12_town_22 (v := 0) rfl ?_
    refine ea_putI (pc := 23) dX12_town_23 ec_12 (k := 12) (Nat.le_of_ble_eq_true rfl) rfl (Or.inl ⟨rfl, Or.inl ew_1414⟩) (ea_bn (Or.inl rfl)) (ea_bf (Or.inl rfl)) (cShM_326 hsH1).1 (cShM_326 hsH1).2.1 ?_
    refine ea_nm eH2 ?_
    have hsH2 : ShM H2 := by rw [eH2]; exact hsH1
    refine ea_aload_n (pc := 26) dX12_town_26 rfl 0 rfl ?_
    refine ea_getI (pc := 27) dX12_town_27 ec_12 (k := 1) (Nat.le_of_ble_eq_true rfl) rfl (Or.inl ew_1403) (cShM_326 hsH2).1 (cShM_326 hsH2).2.1 ?_
    refine ea_iconst (pc := 30) dX12_town_30 (v := 1) rfl ?_
    refine ea_isub (pc := 31) dX12_town_31 ?_
    exact ea_iretO (pc := 32) dX12_town_32 rfl rfl E
  · have E := (if_pos c3).symm.trans E
    refine ea_iconst (pc := 9) dX12_town_9 (v := (-1)) rfl ?_
    exact ea_iretO (pc := 10) dX12_town_10 rfl rfl E
theorem kBX12_town_0  {h : ea_H} : kp (ea_core h) (BX12_town_0 h) :=
  (kp_ite (kp_ret rfl) (kp_let (kp_let (kp_ret rfl))))
noncomputable def qX12_town (h : ea_H) : Option (Int32 × ea_H) := BX12_town_0 h
theorem sX12_town {d : Nat} {h : ea_H} {r : Int32} {h' : ea_H} (hd : 1 ≤ d) (hs : ShM h) (K : qX12_town h = some (r, h')) : ea_Met mX12_town d [vR (some 326)] h (some (vI r)) h' := by
  unfold qX12_town at K
  have W := tBX12_town_0 hd (h0 := h) K hs
  exact ea_enter rfl (Nat.le_of_ble_eq_true rfl) W
theorem kpX12_town (h : ea_H) : kp (ea_core h) (qX12_town h) := kBX12_town_0
noncomputable def BX12_road_0 (x1 : Int32) (x2 : Int32) (x3 : Int32) (h : ea_H) : Option (Int32 × ea_H) :=
  (Option.bind (qX12_isTown (x1 : Int32) h) fun w1 => (if w1.1 = (0 : Int32) then (some ((0 : Int32), w1.2)) else (Option.bind (qX12_isTown (x2 : Int32) w1.2) fun w2 => (if w2.1 = (0 : Int32) then (some ((0 : Int32), w2.2)) else (if x1 = x2 then (some ((0 : Int32), w2.2)) else (Option.bind (qX12_isIn (x3 : Int32) (1 : Int32) (999 : Int32) w2.2) fun w3 => (if w3.1 = (0 : Int32) then (some ((0 : Int32), w3.2)) else (gd (vp_in (((12 : Int32) * x1) + x2) 144) (ea_let (ea_wi w3.2 327 (Int32.toNatClampNeg (((12 : Int32) * x1) + x2)) x3) fun H5 => (gd (vp_in (((12 : Int32) * x2) + x1) 144) (ea_let (ea_wi H5 327 (Int32.toNatClampNeg (((12 : Int32) * x2) + x1)) x3) fun H7 => (some ((1 : Int32), H7)))))))))))))
theorem tBX12_road_0 {d : Nat} {h0 : ea_H} (hd : 3 ≤ d)  {x1 : Int32} {x2 : Int32} {x3 : Int32} {h : ea_H} {r : Int32} {h' : ea_H} (E : BX12_road_0 x1 x2 x3 h = some (r, h')) (hs : ShM h) : ea_W mX12_road d h0 (some (vI r)) h' 0 [(0, vR (some 326)), (1, vI x1), (2, vI x2), (3, vI x3)] [] h := by
  unfold BX12_road_0 at E
  obtain ⟨w1, Ew1, E⟩ := bd_some E
  have hsw1 : ShM w1.2 := ShM_core ((kpX12_isTown _ _) _ Ew1) hs
  refine ea_aload_n (pc := 0) dX12_road_0 rfl 0 rfl ?_
  refine ea_iload_n (pc := 1) dX12_road_1 rfl 1 rfl ?_
  refine ea_callV (pc := 2) (d' := d - 1) (As := [vI x1]) (st := []) dX12_road_2 kX12_isTown (sX12_isTown (d := d - 1) (by omega) hs Ew1) (by omega) rfl (Nat.le_of_ble_eq_true rfl) ew_1765 ew_1767 ew_54 (ci := 12) rfl (by decide) (cShM_326 hs).1 (cShM_326 hs).2.1 ?_
  refine ea_if_eq (pc := 5) (tgt := 32) dX12_road_5 rfl (fun c11 => ?_) (fun c11 => ?_)
  · have E := (if_pos c11).symm.trans E
    refine ea_iconst (pc := 32) dX12_road_32 (v := 0) rfl ?_
    exact ea_iretO (pc := 33) dX12_road_33 rfl (ea_bn (Or.inl rfl)) E
  · have E := (if_neg c11).symm.trans E
    obtain ⟨w2, Ew2, E⟩ := bd_some E
    have hsw2 : ShM w2.2 := ShM_core ((kpX12_isTown _ _) _ Ew2) hsw1
    refine ea_aload_n (pc := 8) dX12_road_8 rfl 0 rfl ?_
    refine ea_iload_n (pc := 9) dX12_road_9 rfl 2 rfl ?_
    refine ea_callV (pc := 10) (d' := d - 1) (As := [vI x2]) (st := []) dX12_road_10 kX12_isTown (sX12_isTown (d := d - 1) (by omega) hsw1 Ew2) (by omega) rfl (Nat.le_of_ble_eq_true rfl) ew_1765 ew_1767 ew_54 (ci := 12) rfl (by decide) (cShM_326 hsw1).1 (cShM_326 hsw1).2.1 ?_
    refine ea_if_eq (pc := 13) (tgt := 32) dX12_road_13 rfl (fun c10 => ?_) (fun c10 => ?_)
    · have E := (if_pos c10).symm.trans E
      refine ea_iconst (pc := 32) dX12_road_32 (v := 0) rfl ?_
      exact ea_iretO (pc := 33) dX12_road_33 rfl (ea_bn (Or.inl rfl)) E
    · have E := (if_neg c10).symm.trans E
      refine ea_iload_n (pc := 16) dX12_road_16 rfl 1 rfl ?_
      refine ea_iload_n (pc := 17) dX12_road_17 rfl 2 rfl ?_
      refine ea_icmp_eq (pc := 18) (tgt := 32) dX12_road_18 rfl (fun c9 => ?_) (fun c9 => ?_)
      · have E := (if_pos c9).symm.trans E
        refine ea_iconst (pc := 32) dX12_road_32 (v := 0) rfl ?_
        exact ea_iretO (pc := 33) dX12_road_33 rfl (ea_bn (Or.inl rfl)) E
      · have E := (if_neg c9).symm.trans E
        obtain ⟨w3, Ew3, E⟩ := bd_some E
        have hsw3 : ShM w3.2 := ShM_core ((kpX12_isIn _ _ _ _) _ Ew3) hsw2
        refine ea_iload_n (pc := 21) dX12_road_21 rfl 3 rfl ?_
        refine ea_iconst (pc := 22) dX12_road_22 (v := 1) rfl ?_
        refine ea_sipush (pc := 23) dX12_road_23 (v := 999) rfl ?_
        refine ea_callS (pc := 26) (d' := d - 1) (As := [vI x3, vI 1, vI 999]) (st := []) dX12_road_26 kX12_isIn (sX12_isIn (d := d - 1) (by omega) Ew3) (by omega) rfl (Nat.le_of_ble_eq_true rfl) ew_1769 ew_1770 ?_
        refine ea_if_ne (pc := 29) (tgt := 34) dX12_road_29 rfl (fun c8 => ?_) (fun c8 => ?_)
        · have E := (if_neg c8).symm.trans E
          obtain ⟨z4, E⟩ := gd_some E
          refine ea_aload_n (pc := 34) dX12_road_34 rfl 0 rfl ?_
          refine ea_getR (pc := 35) dX12_road_35 ec_12 (k := 3) (Nat.le_of_ble_eq_true rfl) rfl (Or.inl ew_1405) (cShM_326 hsw3).1 (cShM_326 hsw3).2.1 (rShM_326_3 hsw3) ?_
          refine ea_bipush (pc := 38) dX12_road_38 (v := 12) rfl ?_
          refine ea_iload_n (pc := 40) dX12_road_40 rfl 1 rfl ?_
          refine ea_imul (pc := 41) dX12_road_41 ?_
          refine ea_iload_n (pc := 42) dX12_road_42 rfl 2 rfl ?_
          refine ea_iadd (pc := 43) dX12_road_43 ?_
          refine ea_iload_n (pc := 44) dX12_road_44 rfl 3 rfl ?_
          obtain ⟨H5, eH5, E⟩ := let_some E
          refine ea_iast (pc := 45) dX12_road_45 (cShM_327 hsw3).1 (cShM_327 hsw3).2.1 (ea_vpl (cShM_327 hsw3).2.2 z4) ?_
          refine ea_nm eH5 ?_
          have hsH5 : ShM H5 := by rw [eH5]; exact hsw3
          obtain ⟨z6, E⟩ := gd_some E
          refine ea_aload_n (pc := 46) dX12_road_46 rfl 0 rfl ?_
          refine ea_getR (pc := 47) dX12_road_47 ec_12 (k := 3) (Nat.le_of_ble_eq_true rfl) rfl (Or.inl ew_1405) (cShM_326 hsH5).1 (cShM_326 hsH5).2.1 (rShM_326_3 hsH5) ?_
          refine ea_bipush (pc := 50) dX12_road_50 (v := 12) rfl ?_
          refine ea_iload_n (pc := 52) dX12_road_52 rfl 2 rfl ?_
          refine ea_imul (pc := 53) dX12_road_53 ?_
          refine ea_iload_n (pc := 54) dX12_road_54 rfl 1 rfl ?_
          refine ea_iadd (pc := 55) dX12_road_55 ?_
          refine ea_iload_n (pc := 56) dX12_road_56 rfl 3 rfl ?_
          obtain ⟨H7, eH7, E⟩ := let_some E
          refine ea_iast (pc := 57) dX12_road_57 (cShM_327 hsH5).1 (cShM_327 hsH5).2.1 (ea_vpl (cShM_327 hsH5).2.2 z6) ?_
          refine ea_nm eH7 ?_
          have hsH7 : ShM H7 := by rw [eH7]; exact hsH5
          refine ea_iconst (pc := 58) dX12_road_58 (v := 1) rfl ?_
          exact ea_iretO (pc := 59) dX12_road_59 rfl (ea_bn (Or.inr rfl)) E
        · have E := (if_pos c8).symm.trans E
          refine ea_iconst (pc := 32) dX12_road_32 (v := 0) rfl ?_
          exact ea_iretO (pc := 33) dX12_road_33 rfl (ea_bn (Or.inl rfl)) E
theorem kBX12_road_0  {x1 : Int32} {x2 : Int32} {x3 : Int32} {h : ea_H} : kp (ea_core h) (BX12_road_0 x1 x2 x3 h) :=
  (kp_bind (kp_tw (kpX12_isTown _ _) rfl) fun w1 hcw1 => (kp_ite (kp_ret hcw1) (kp_bind (kp_tw (kpX12_isTown _ _) hcw1) fun w2 hcw2 => (kp_ite (kp_ret hcw2) (kp_ite (kp_ret hcw2) (kp_bind (kp_tw (kpX12_isIn _ _ _ _) hcw2) fun w3 hcw3 => (kp_ite (kp_ret hcw3) (kp_gd (kp_let (kp_gd (kp_let (kp_ret hcw3))))))))))))
noncomputable def qX12_road (x1 : Int32) (x2 : Int32) (x3 : Int32) (h : ea_H) : Option (Int32 × ea_H) := BX12_road_0 x1 x2 x3 h
theorem sX12_road {d : Nat} {x1 : Int32} {x2 : Int32} {x3 : Int32} {h : ea_H} {r : Int32} {h' : ea_H} (hd : 3 ≤ d) (hs : ShM h) (K : qX12_road x1 x2 x3 h = some (r, h')) : ea_Met mX12_road d [vR (some 326), vI x1, vI x2, vI x3] h (some (vI r)) h' := by
  unfold qX12_road at K
  have W := tBX12_road_0 hd (h0 := h) K hs
  exact ea_enter rfl (Nat.le_of_ble_eq_true rfl) W
theorem kpX12_road (x1 : Int32) (x2 : Int32) (x3 : Int32) (h : ea_H) : kp (ea_core h) (qX12_road x1 x2 x3 h) := kBX12_road_0
noncomputable def BX12_spreads_0 (J2 : Int32 → Int32 → Int32 → ea_H → Option (Unit × ea_H)) (x1 : Int32) (x2 : Int32) (h : ea_H) : Option (Unit × ea_H) :=
  (J2 (x1 : Int32) (x2 : Int32) (0 : Int32) h)
theorem tBX12_spreads_0 {d : Nat} {h0 : ea_H} (hd : 1 ≤ d) {J2 : Int32 → Int32 → Int32 → ea_H → Option (Unit × ea_H)}  (kJ2 : ∀ (x1 : Int32) (x2 : Int32) (x3 : Int32) (h : ea_H) (r : Unit) (h' : ea_H), J2 x1 x2 x3 h = some (r, h') → ShM h → ea_W mX12_spreads d h0 none h' 2 [(0, vR (some 326)), (1, vI x1), (2, vI x2), (3, vI x3)] [] h) {x1 : Int32} {x2 : Int32} {h : ea_H} {r : Unit} {h' : ea_H} (E : BX12_spreads_0 J2 x1 x2 h = some (r, h')) (hs : ShM h) : ea_W mX12_spreads d h0 none h' 0 [(0, vR (some 326)), (1, vI x1), (2, vI x2)] [] h := by
  unfold BX12_spreads_0 at E
  refine ea_iconst (pc := 0) dX12_spreads_0 (v := 0) rfl ?_
  refine ea_istore_n (pc := 1) (lv' := [(0, vR (some 326)), (1, vI x1), (2, vI x2), (3, vI 0)]) dX12_spreads_1 rfl (Nat.le_of_ble_eq_true rfl) [1, 2, 3, 0] rfl ?_
  exact (kJ2 (x1 : Int32) (x2 : Int32) (0 : Int32) h _ _ E hs)
theorem kBX12_spreads_0 {J2 : Int32 → Int32 → Int32 → ea_H → Option (Unit × ea_H)}  (cJ2 : ∀ (x1 : Int32) (x2 : Int32) (x3 : Int32) (h : ea_H), kp (ea_core h) (J2 x1 x2 x3 h)) {x1 : Int32} {x2 : Int32} {h : ea_H} : kp (ea_core h) (BX12_spreads_0 J2 x1 x2 h) :=
  (kp_tw (cJ2 _ _ _ _) rfl)
theorem lBX12_spreads_0 {J2 : Int32 → Int32 → Int32 → ea_H → Option (Unit × ea_H)} {J2_ : Int32 → Int32 → Int32 → ea_H → Option (Unit × ea_H)}  (mJ2 : ∀ (x1 : Int32) (x2 : Int32) (x3 : Int32) (h : ea_H), fle (J2 x1 x2 x3 h) (J2_ x1 x2 x3 h)) {x1 : Int32} {x2 : Int32} {h : ea_H} : fle (BX12_spreads_0 J2 x1 x2 h) (BX12_spreads_0 J2_ x1 x2 h) :=
  (mJ2 _ _ _ _)
theorem nBX12_spreads_0 {J2 : Int32 → Int32 → Int32 → ea_H → Option (Unit × ea_H)} {J2_ : Nat → (Int32 → Int32 → Int32 → ea_H → Option (Unit × ea_H))}  (mJ2 : ∀ (x1 : Int32) (x2 : Int32) (x3 : Int32) (h : ea_H), fct (J2 x1 x2 x3 h) (fun f => J2_ f x1 x2 x3 h)) {x1 : Int32} {x2 : Int32} {h : ea_H} : fct (BX12_spreads_0 J2 x1 x2 h) (fun f => BX12_spreads_0 (J2_ f) x1 x2 h) :=
  (mJ2 _ _ _ _)
noncomputable def BX12_spreads_2 (J2 : Int32 → Int32 → Int32 → ea_H → Option (Unit × ea_H)) (J34 : Int32 → Int32 → ea_H → Option (Unit × ea_H)) (x1 : Int32) (x2 : Int32) (x3 : Int32) (h : ea_H) : Option (Unit × ea_H) :=
  (if (12 : Int32) ≤ x3 then (J34 (x2 : Int32) (1 : Int32) h) else (if x3 = x1 then (gd (vp_in x3 12) (ea_let (ea_wi h 335 (Int32.toNatClampNeg x3) 0) fun H4 => (J2 (x1 : Int32) (x2 : Int32) ((x3 + (1 : Int32)) : Int32) H4))) else (gd (vp_in x3 12) (ea_let (ea_wi h 335 (Int32.toNatClampNeg x3) 1000000) fun H2 => (J2 (x1 : Int32) (x2 : Int32) ((x3 + (1 : Int32)) : Int32) H2)))))
theorem tBX12_spreads_2 {d : Nat} {h0 : ea_H} (hd : 1 ≤ d) {J2 : Int32 → Int32 → Int32 → ea_H → Option (Unit × ea_H)} {J34 : Int32 → Int32 → ea_H → Option (Unit × ea_H)}  (kJ2 : ∀ (x1 : Int32) (x2 : Int32) (x3 : Int32) (h : ea_H) (r : Unit) (h' : ea_H), J2 x1 x2 x3 h = some (r, h') → ShM h → ea_W mX12_spreads d h0 none h' 2 [(0, vR (some 326)), (1, vI x1), (2, vI x2), (3, vI x3)] [] h) (kJ34 : ∀ (x2 : Int32) (x3 : Int32) (h : ea_H) (r : Unit) (h' : ea_H), J34 x2 x3 h = some (r, h') → ShM h → ea_W mX12_spreads d h0 none h' 34 [(0, vR (some 326)), (2, vI x2), (3, vI x3)] [] h) {x1 : Int32} {x2 : Int32} {x3 : Int32} {h : ea_H} {r : Unit} {h' : ea_H} (E : BX12_spreads_2 J2 J34 x1 x2 x3 h = some (r, h')) (hs : ShM h) : ea_W mX12_spreads d h0 none h' 2 [(0, vR (some 326)), (1, vI x1), (2, vI x2), (3, vI x3)] [] h := by
  unfold BX12_spreads_2 at E
  refine ea_iload_n (pc := 2) dX12_spreads_2 rfl 3 rfl ?_
  refine ea_bipush (pc := 3) dX12_spreads_3 (v := 12) rfl ?_
  refine ea_icmp_ge (pc := 5) (tgt := 32) dX12_spreads_5 rfl (fun c6 => ?_) (fun c6 => ?_)
  · have E := (if_pos c6).symm.trans E
    refine ea_iconst (pc := 32) dX12_spreads_32 (v := 1) rfl ?_
    refine ea_istore_n (pc := 33) (lv' := [(0, vR (some 326)), (2, vI x2), (3, vI 1)]) dX12_spreads_33 rfl (Nat.le_of_ble_eq_true rfl) [1, 3, 0] rfl ?_
    exact (kJ34 (x2 : Int32) (1 : Int32) h _ _ E hs)
  · have E := (if_neg c6).symm.trans E
    refine ea_aload_n (pc := 8) dX12_spreads_8 rfl 0 rfl ?_
    refine ea_getR (pc := 9) dX12_spreads_9 ec_12 (k := 11) (Nat.le_of_ble_eq_true rfl) rfl (Or.inl ew_1413) (cShM_326 hs).1 (cShM_326 hs).2.1 (rShM_326_11 hs) ?_
    refine ea_iload_n (pc := 12) dX12_spreads_12 rfl 3 rfl ?_
    refine ea_iload_n (pc := 13) dX12_spreads_13 rfl 3 rfl ?_
    refine ea_iload_n (pc := 14) dX12_spreads_14 rfl 1 rfl ?_
    refine ea_icmp_ne (pc := 15) (tgt := 22) dX12_spreads_15 rfl (fun c5 => ?_) (fun c5 => ?_)
    · have E := (if_neg c5).symm.trans E
      obtain ⟨z1, E⟩ := gd_some E
      refine ea_ldcw (pc := 22) dX12_spreads_22 ew_1784 ?_
      obtain ⟨H2, eH2, E⟩ := let_some E
      refine ea_iast (pc := 25) dX12_spreads_25 (cShM_335 hs).1 (cShM_335 hs).2.1 (ea_vpl (cShM_335 hs).2.2 z1) ?_
      refine ea_nm eH2 ?_
      have hsH2 : ShM H2 := by rw [eH2]; exact hs
      refine ea_iinc (pc := 26) (v := 1) (lv' := [(0, vR (some 326)), (1, vI x1), (2, vI x2), (3, vI (x3 + (1 : Int32)))]) dX12_spreads_26 3 rfl rfl (Nat.le_of_ble_eq_true rfl) [1, 2, 3, 0] rfl ?_
      refine ea_goto (pc := 29) (tgt := 2) dX12_spreads_29 rfl ?_
      exact (kJ2 (x1 : Int32) (x2 : Int32) ((x3 + (1 : Int32)) : Int32) H2 _ _ E hsH2)
    · have E := (if_pos c5).symm.trans E
      obtain ⟨z3, E⟩ := gd_some E
      refine ea_iconst (pc := 18) dX12_spreads_18 (v := 0) rfl ?_
      refine ea_goto (pc := 19) (tgt := 25) dX12_spreads_19 rfl ?_
      obtain ⟨H4, eH4, E⟩ := let_some E
      refine ea_iast (pc := 25) dX12_spreads_25 (cShM_335 hs).1 (cShM_335 hs).2.1 (ea_vpl (cShM_335 hs).2.2 z3) ?_
      refine ea_nm eH4 ?_
      have hsH4 : ShM H4 := by rw [eH4]; exact hs
      refine ea_iinc (pc := 26) (v := 1) (lv' := [(0, vR (some 326)), (1, vI x1), (2, vI x2), (3, vI (x3 + (1 : Int32)))]) dX12_spreads_26 3 rfl rfl (Nat.le_of_ble_eq_true rfl) [1, 2, 3, 0] rfl ?_
      refine ea_goto (pc := 29) (tgt := 2) dX12_spreads_29 rfl ?_
      exact (kJ2 (x1 : Int32) (x2 : Int32) ((x3 + (1 : Int32)) : Int32) H4 _ _ E hsH4)
theorem kBX12_spreads_2 {J2 : Int32 → Int32 → Int32 → ea_H → Option (Unit × ea_H)} {J34 : Int32 → Int32 → ea_H → Option (Unit × ea_H)}  (cJ2 : ∀ (x1 : Int32) (x2 : Int32) (x3 : Int32) (h : ea_H), kp (ea_core h) (J2 x1 x2 x3 h)) (cJ34 : ∀ (x2 : Int32) (x3 : Int32) (h : ea_H), kp (ea_core h) (J34 x2 x3 h)) {x1 : Int32} {x2 : Int32} {x3 : Int32} {h : ea_H} : kp (ea_core h) (BX12_spreads_2 J2 J34 x1 x2 x3 h) :=
  (kp_ite (kp_tw (cJ34 _ _ _) rfl) (kp_ite (kp_gd (kp_let (kp_tw (cJ2 _ _ _ _) rfl))) (kp_gd (kp_let (kp_tw (cJ2 _ _ _ _) rfl)))))
theorem lBX12_spreads_2 {J2 : Int32 → Int32 → Int32 → ea_H → Option (Unit × ea_H)} {J34 : Int32 → Int32 → ea_H → Option (Unit × ea_H)} {J2_ : Int32 → Int32 → Int32 → ea_H → Option (Unit × ea_H)} {J34_ : Int32 → Int32 → ea_H → Option (Unit × ea_H)}  (mJ2 : ∀ (x1 : Int32) (x2 : Int32) (x3 : Int32) (h : ea_H), fle (J2 x1 x2 x3 h) (J2_ x1 x2 x3 h)) (mJ34 : ∀ (x2 : Int32) (x3 : Int32) (h : ea_H), fle (J34 x2 x3 h) (J34_ x2 x3 h)) {x1 : Int32} {x2 : Int32} {x3 : Int32} {h : ea_H} : fle (BX12_spreads_2 J2 J34 x1 x2 x3 h) (BX12_spreads_2 J2_ J34_ x1 x2 x3 h) :=
  (fle_ite (mJ34 _ _ _) (fle_ite (fle_gd (fle_let fun _ => (mJ2 _ _ _ _))) (fle_gd (fle_let fun _ => (mJ2 _ _ _ _)))))
theorem nBX12_spreads_2 {J2 : Int32 → Int32 → Int32 → ea_H → Option (Unit × ea_H)} {J34 : Int32 → Int32 → ea_H → Option (Unit × ea_H)} {J2_ : Nat → (Int32 → Int32 → Int32 → ea_H → Option (Unit × ea_H))} {J34_ : Nat → (Int32 → Int32 → ea_H → Option (Unit × ea_H))}  (mJ2 : ∀ (x1 : Int32) (x2 : Int32) (x3 : Int32) (h : ea_H), fct (J2 x1 x2 x3 h) (fun f => J2_ f x1 x2 x3 h)) (mJ34 : ∀ (x2 : Int32) (x3 : Int32) (h : ea_H), fct (J34 x2 x3 h) (fun f => J34_ f x2 x3 h)) {x1 : Int32} {x2 : Int32} {x3 : Int32} {h : ea_H} : fct (BX12_spreads_2 J2 J34 x1 x2 x3 h) (fun f => BX12_spreads_2 (J2_ f) (J34_ f) x1 x2 x3 h) :=
  (fct_ite (mJ34 _ _ _) (fct_ite (fct_gd (fct_let fun _ => (mJ2 _ _ _ _))) (fct_gd (fct_let fun _ => (mJ2 _ _ _ _)))))
noncomputable def BX12_spreads_34 (J43 : Int32 → Int32 → Int32 → ea_H → Option (Unit × ea_H)) (x2 : Int32) (x3 : Int32) (h : ea_H) : Option (Unit × ea_H) :=
  (if x3 = (0 : Int32) then (some ((), h)) else (J43 (x2 : Int32) (0 : Int32) (x2 : Int32) h))
theorem tBX12_spreads_34 {d : Nat} {h0 : ea_H} (hd : 1 ≤ d) {J43 : Int32 → Int32 → Int32 → ea_H → Option (Unit × ea_H)}  (kJ43 : ∀ (x2 : Int32) (x3 : Int32) (x4 : Int32) (h : ea_H) (r : Unit) (h' : ea_H), J43 x2 x3 x4 h = some (r, h') → ShM h → ea_W mX12_spreads d h0 none h' 43 [(0, vR (some 326)), (2, vI x2), (3, vI x3), (4, vI x4)] [] h) {x2 : Int32} {x3 : Int32} {h : ea_H} {r : Unit} {h' : ea_H} (E : BX12_spreads_34 J43 x2 x3 h = some (r, h')) (hs : ShM h) : ea_W mX12_spreads d h0 none h' 34 [(0, vR (some 326)), (2, vI x2), (3, vI x3)] [] h := by
  unfold BX12_spreads_34 at E
  refine ea_iload_n (pc := 34) dX12_spreads_34 rfl 2 rfl ?_
  refine ea_if_eq (pc := 35) (tgt := 154) dX12_spreads_35 rfl (fun c7 => ?_) (fun c7 => ?_)
  · have E := (if_pos c7).symm.trans E
    exact ea_vretO (pc := 154) dX12_spreads_154 rfl E
  · have E := (if_neg c7).symm.trans E
    refine ea_iconst (pc := 38) dX12_spreads_38 (v := 0) rfl ?_
    refine ea_istore_n (pc := 39) (lv' := [(0, vR (some 326)), (2, vI x2), (3, vI 0)]) dX12_spreads_39 rfl (Nat.le_of_ble_eq_true rfl) [1, 2, 0] rfl ?_
    refine ea_iload_n (pc := 40) dX12_spreads_40 rfl 1 rfl ?_
    refine ea_istore (pc := 41) (lv' := [(0, vR (some 326)), (2, vI x2), (3, vI 0), (4, vI x2)]) dX12_spreads_41 (Nat.le_of_ble_eq_true rfl) [1, 2, 3, 0] rfl ?_
    exact (kJ43 (x2 : Int32) (0 : Int32) (x2 : Int32) h _ _ E hs)
theorem kBX12_spreads_34 {J43 : Int32 → Int32 → Int32 → ea_H → Option (Unit × ea_H)}  (cJ43 : ∀ (x2 : Int32) (x3 : Int32) (x4 : Int32) (h : ea_H), kp (ea_core h) (J43 x2 x3 x4 h)) {x2 : Int32} {x3 : Int32} {h : ea_H} : kp (ea_core h) (BX12_spreads_34 J43 x2 x3 h) :=
  (kp_ite (kp_ret rfl) (kp_tw (cJ43 _ _ _ _) rfl))
theorem lBX12_spreads_34 {J43 : Int32 → Int32 → Int32 → ea_H → Option (Unit × ea_H)} {J43_ : Int32 → Int32 → Int32 → ea_H → Option (Unit × ea_H)}  (mJ43 : ∀ (x2 : Int32) (x3 : Int32) (x4 : Int32) (h : ea_H), fle (J43 x2 x3 x4 h) (J43_ x2 x3 x4 h)) {x2 : Int32} {x3 : Int32} {h : ea_H} : fle (BX12_spreads_34 J43 x2 x3 h) (BX12_spreads_34 J43_ x2 x3 h) :=
  (fle_ite (fle_rfl _) (mJ43 _ _ _ _))
theorem nBX12_spreads_34 {J43 : Int32 → Int32 → Int32 → ea_H → Option (Unit × ea_H)} {J43_ : Nat → (Int32 → Int32 → Int32 → ea_H → Option (Unit × ea_H))}  (mJ43 : ∀ (x2 : Int32) (x3 : Int32) (x4 : Int32) (h : ea_H), fct (J43 x2 x3 x4 h) (fun f => J43_ f x2 x3 x4 h)) {x2 : Int32} {x3 : Int32} {h : ea_H} : fct (BX12_spreads_34 J43 x2 x3 h) (fun f => BX12_spreads_34 (J43_ f) x2 x3 h) :=
  (fct_ite (fct_rfl _) (mJ43 _ _ _ _))
noncomputable def BX12_spreads_43 (J34 : Int32 → Int32 → ea_H → Option (Unit × ea_H)) (J55 : Int32 → Int32 → Int32 → Int32 → ea_H → Option (Unit × ea_H)) (x2 : Int32) (x3 : Int32) (x4 : Int32) (h : ea_H) : Option (Unit × ea_H) :=
  (if (ea_i h 326 1) ≤ x4 then (J34 (x2 : Int32) (x3 : Int32) h) else (J55 (x2 : Int32) (x3 : Int32) (x4 : Int32) (x2 : Int32) h))
theorem tBX12_spreads_43 {d : Nat} {h0 : ea_H} (hd : 1 ≤ d) {J34 : Int32 → Int32 → ea_H → Option (Unit × ea_H)} {J55 : Int32 → Int32 → Int32 → Int32 → ea_H → Option (Unit × ea_H)}  (kJ34 : ∀ (x2 : Int32) (x3 : Int32) (h : ea_H) (r : Unit) (h' : ea_H), J34 x2 x3 h = some (r, h') → ShM h → ea_W mX12_spreads d h0 none h' 34 [(0, vR (some 326)), (2, vI x2), (3, vI x3)] [] h) (kJ55 : ∀ (x2 : Int32) (x3 : Int32) (x4 : Int32) (x5 : Int32) (h : ea_H) (r : Unit) (h' : ea_H), J55 x2 x3 x4 x5 h = some (r, h') → ShM h → ea_W mX12_spreads d h0 none h' 55 [(0, vR (some 326)), (2, vI x2), (3, vI x3), (4, vI x4), (5, vI x5)] [] h) {x2 : Int32} {x3 : Int32} {x4 : Int32} {h : ea_H} {r : Unit} {h' : ea_H} (E : BX12_spreads_43 J34 J55 x2 x3 x4 h = some (r, h')) (hs : ShM h) : ea_W mX12_spreads d h0 none h' 43 [(0, vR (some 326)), (2, vI x2), (3, vI x3), (4, vI x4)] [] h := by
  unfold BX12_spreads_43 at E
  refine ea_iload (pc := 43) dX12_spreads_43 3 rfl ?_
  refine ea_aload_n (pc := 45) dX12_spreads_45 rfl 0 rfl ?_
  refine ea_getI (pc := 46) dX12_spreads_46 ec_12 (k := 1) (Nat.le_of_ble_eq_true rfl) rfl (Or.inl ew_1403) (cShM_326 hs).1 (cShM_326 hs).2.1 ?_
  refine ea_icmp_ge (pc := 49) (tgt := 151) dX12_spreads_49 rfl (fun c8 => ?_) (fun c8 => ?_)
  · have E := (if_pos c8).symm.trans E
    refine ea_goto (pc := 151) (tgt := 34) dX12_spreads_151 rfl ?_
    exact ea_fewer [0, 1, 2] rfl (kJ34 (x2 : Int32) (x3 : Int32) h _ _ E hs)
  · have E := (if_neg c8).symm.trans E
    refine ea_iload_n (pc := 52) dX12_spreads_52 rfl 1 rfl ?_
    refine ea_istore (pc := 53) (lv' := [(0, vR (some 326)), (2, vI x2), (3, vI x3), (4, vI x4), (5, vI x2)]) dX12_spreads_53 (Nat.le_of_ble_eq_true rfl) [1, 2, 3, 4, 0] rfl ?_
    exact (kJ55 (x2 : Int32) (x3 : Int32) (x4 : Int32) (x2 : Int32) h _ _ E hs)
theorem kBX12_spreads_43 {J34 : Int32 → Int32 → ea_H → Option (Unit × ea_H)} {J55 : Int32 → Int32 → Int32 → Int32 → ea_H → Option (Unit × ea_H)}  (cJ34 : ∀ (x2 : Int32) (x3 : Int32) (h : ea_H), kp (ea_core h) (J34 x2 x3 h)) (cJ55 : ∀ (x2 : Int32) (x3 : Int32) (x4 : Int32) (x5 : Int32) (h : ea_H), kp (ea_core h) (J55 x2 x3 x4 x5 h)) {x2 : Int32} {x3 : Int32} {x4 : Int32} {h : ea_H} : kp (ea_core h) (BX12_spreads_43 J34 J55 x2 x3 x4 h) :=
  (kp_ite (kp_tw (cJ34 _ _ _) rfl) (kp_tw (cJ55 _ _ _ _ _) rfl))
theorem lBX12_spreads_43 {J34 : Int32 → Int32 → ea_H → Option (Unit × ea_H)} {J55 : Int32 → Int32 → Int32 → Int32 → ea_H → Option (Unit × ea_H)} {J34_ : Int32 → Int32 → ea_H → Option (Unit × ea_H)} {J55_ : Int32 → Int32 → Int32 → Int32 → ea_H → Option (Unit × ea_H)}  (mJ34 : ∀ (x2 : Int32) (x3 : Int32) (h : ea_H), fle (J34 x2 x3 h) (J34_ x2 x3 h)) (mJ55 : ∀ (x2 : Int32) (x3 : Int32) (x4 : Int32) (x5 : Int32) (h : ea_H), fle (J55 x2 x3 x4 x5 h) (J55_ x2 x3 x4 x5 h)) {x2 : Int32} {x3 : Int32} {x4 : Int32} {h : ea_H} : fle (BX12_spreads_43 J34 J55 x2 x3 x4 h) (BX12_spreads_43 J34_ J55_ x2 x3 x4 h) :=
  (fle_ite (mJ34 _ _ _) (mJ55 _ _ _ _ _))
theorem nBX12_spreads_43 {J34 : Int32 → Int32 → ea_H → Option (Unit × ea_H)} {J55 : Int32 → Int32 → Int32 → Int32 → ea_H → Option (Unit × ea_H)} {J34_ : Nat → (Int32 → Int32 → ea_H → Option (Unit × ea_H))} {J55_ : Nat → (Int32 → Int32 → Int32 → Int32 → ea_H → Option (Unit × ea_H))}  (mJ34 : ∀ (x2 : Int32) (x3 : Int32) (h : ea_H), fct (J34 x2 x3 h) (fun f => J34_ f x2 x3 h)) (mJ55 : ∀ (x2 : Int32) (x3 : Int32) (x4 : Int32) (x5 : Int32) (h : ea_H), fct (J55 x2 x3 x4 x5 h) (fun f => J55_ f x2 x3 x4 x5 h)) {x2 : Int32} {x3 : Int32} {x4 : Int32} {h : ea_H} : fct (BX12_spreads_43 J34 J55 x2 x3 x4 h) (fun f => BX12_spreads_43 (J34_ f) (J55_ f) x2 x3 x4 h) :=
  (fct_ite (mJ34 _ _ _) (mJ55 _ _ _ _ _))
noncomputable def BX12_spreads_55 (J43 : Int32 → Int32 → Int32 → ea_H → Option (Unit × ea_H)) (J55 : Int32 → Int32 → Int32 → Int32 → ea_H → Option (Unit × ea_H)) (x2 : Int32) (x3 : Int32) (x4 : Int32) (x5 : Int32) (h : ea_H) : Option (Unit × ea_H) :=
  (if (ea_i h 326 1) ≤ x5 then (J43 (x2 : Int32) (x3 : Int32) ((x4 + (1 : Int32)) : Int32) h) else (gd (vp_in (((12 : Int32) * x4) + x5) 144) (ea_let (ea_i h 327 (Int32.toNatClampNeg (((12 : Int32) * x4) + x5))) fun (v10 : Int32) => (if v10 = (0 : Int32) then (J55 (x2 : Int32) (x3 : Int32) (x4 : Int32) ((x5 + (1 : Int32)) : Int32) h) else (gd (vp_in x4 12) (if (ea_i h 335 (Int32.toNatClampNeg x4)) = (1000000 : Int32) then (J55 (x2 : Int32) (x3 : Int32) (x4 : Int32) ((x5 + (1 : Int32)) : Int32) h) else (gd (vp_in x4 12) (gd (vp_in x5 12) (if ((ea_i h 335 (Int32.toNatClampNeg x4)) + v10) < (ea_i h 335 (Int32.toNatClampNeg x5)) then (gd (vp_in x4 12) (gd (vp_in x5 12) (ea_let (ea_wi h 335 (Int32.toNatClampNeg x5) ((ea_i h 335 (Int32.toNatClampNeg x4)) + v10)) fun H16 => (J55 (x2 : Int32) (1 : Int32) (x4 : Int32) ((x5 + (1 : Int32)) : Int32) H16)))) else (J55 (x2 : Int32) (x3 : Int32) (x4 : Int32) ((x5 + (1 : Int32)) : Int32) h))))))))))
theorem tBX12_spreads_55 {d : Nat} {h0 : ea_H} (hd : 1 ≤ d) {J43 : Int32 → Int32 → Int32 → ea_H → Option (Unit × ea_H)} {J55 : Int32 → Int32 → Int32 → Int32 → ea_H → Option (Unit × ea_H)}  (kJ43 : ∀ (x2 : Int32) (x3 : Int32) (x4 : Int32) (h : ea_H) (r : Unit) (h' : ea_H), J43 x2 x3 x4 h = some (r, h') → ShM h → ea_W mX12_spreads d h0 none h' 43 [(0, vR (some 326)), (2, vI x2), (3, vI x3), (4, vI x4)] [] h) (kJ55 : ∀ (x2 : Int32) (x3 : Int32) (x4 : Int32) (x5 : Int32) (h : ea_H) (r : Unit) (h' : ea_H), J55 x2 x3 x4 x5 h = some (r, h') → ShM h → ea_W mX12_spreads d h0 none h' 55 [(0, vR (some 326)), (2, vI x2), (3, vI x3), (4, vI x4), (5, vI x5)] [] h) {x2 : Int32} {x3 : Int32} {x4 : Int32} {x5 : Int32} {h : ea_H} {r : Unit} {h' : ea_H} (E : BX12_spreads_55 J43 J55 x2 x3 x4 x5 h = some (r, h')) (hs : ShM h) : ea_W mX12_spreads d h0 none h' 55 [(0, vR (some 326)), (2, vI x2), (3, vI x3), (4, vI x4), (5, vI x5)] [] h := by
  unfold BX12_spreads_55 at E
  refine ea_iload (pc := 55) dX12_spreads_55 4 rfl ?_
  refine ea_aload_n (pc := 57) dX12_spreads_57 rfl 0 rfl ?_
  refine ea_getI (pc := 58) dX12_spreads_58 ec_12 (k := 1) (Nat.le_of_ble_eq_true rfl) rfl (Or.inl ew_1403) (cShM_326 hs).1 (cShM_326 hs).2.1 ?_
  refine ea_icmp_ge (pc := 61) (tgt := 145) dX12_spreads_61 rfl (fun c20 => ?_) (fun c20 => ?_)
  · have E := (if_pos c20).symm.trans E
    refine ea_iinc (pc := 145) (v := 1) (lv' := [(0, vR (some 326)), (2, vI x2), (3, vI x3), (4, vI (x4 + (1 : Int32)))]) dX12_spreads_145 3 rfl rfl (Nat.le_of_ble_eq_true rfl) [1, 2, 3, 0] rfl ?_
    refine ea_goto (pc := 148) (tgt := 43) dX12_spreads_148 rfl ?_
    exact (kJ43 (x2 : Int32) (x3 : Int32) ((x4 + (1 : Int32)) : Int32) h _ _ E hs)
  · have E := (if_neg c20).symm.trans E
    obtain ⟨z9, E⟩ := gd_some E
    refine ea_aload_n (pc := 64) dX12_spreads_64 rfl 0 rfl ?_
    refine ea_getR (pc := 65) dX12_spreads_65 ec_12 (k := 3) (Nat.le_of_ble_eq_true rfl) rfl (Or.inl ew_1405) (cShM_326 hs).1 (cShM_326 hs).2.1 (rShM_326_3 hs) ?_
    refine ea_bipush (pc := 68) dX12_spreads_68 (v := 12) rfl ?_
    refine ea_iload (pc := 70) dX12_spreads_70 3 rfl ?_
    refine ea_imul (pc := 72) dX12_spreads_72 ?_
    refine ea_iload (pc := 73) dX12_spreads_73 4 rfl ?_
    refine ea_iadd (pc := 75) dX12_spreads_75 ?_
    obtain ⟨v10, ev10, E⟩ := let_some E
    refine ea_iald (pc := 76) dX12_spreads_76 (cShM_327 hs).1 (cShM_327 hs).2.1 (ea_vpl (cShM_327 hs).2.2 z9) ?_
    refine ea_istore (pc := 77) (lv' := [(0, vR (some 326)), (2, vI x2), (3, vI x3), (4, vI x4), (5, vI x5), (6, vI v10)]) dX12_spreads_77 (Nat.le_of_ble_eq_true rfl) [1, 2, 3, 4, 5, 0] (by rw [ev10]; rfl) ?_
    refine ea_iload (pc := 79) dX12_spreads_79 5 rfl ?_
    refine ea_if_eq (pc := 81) (tgt := 139) dX12_spreads_81 rfl (fun c19 => ?_) (fun c19 => ?_)
    · have E := (if_pos c19).symm.trans E
      refine ea_iinc (pc := 139) (v := 1) (lv' := [(0, vR (some 326)), (2, vI x2), (3, vI x3), (4, vI x4), (5, vI (x5 + (1 : Int32)))]) dX12_spreads_139 4 rfl rfl (Nat.le_of_ble_eq_true rfl) [1, 2, 3, 4, 0] rfl ?_
      refine ea_goto (pc := 142) (tgt := 55) dX12_spreads_142 rfl ?_
      exact (kJ55 (x2 : Int32) (x3 : Int32) (x4 : Int32) ((x5 + (1 : Int32)) : Int32) h _ _ E hs)
    · have E := (if_neg c19).symm.trans E
      obtain ⟨z11, E⟩ := gd_some E
      refine ea_aload_n (pc := 84) dX12_spreads_84 rfl 0 rfl ?_
      refine ea_getR (pc := 85) dX12_spreads_85 ec_12 (k := 11) (Nat.le_of_ble_eq_true rfl) rfl (Or.inl ew_1413) (cShM_326 hs).1 (cShM_326 hs).2.1 (rShM_326_11 hs) ?_
      refine ea_iload (pc := 88) dX12_spreads_88 3 rfl ?_
      refine ea_iald (pc := 90) dX12_spreads_90 (cShM_335 hs).1 (cShM_335 hs).2.1 (ea_vpl (cShM_335 hs).2.2 z11) ?_
      refine ea_ldcw (pc := 91) dX12_spreads_91 ew_1784 ?_
      refine ea_icmp_eq (pc := 94) (tgt := 139) dX12_spreads_94 rfl (fun c18 => ?_) (fun c18 => ?_)
      · have E := (if_pos c18).symm.trans E
        refine ea_iinc (pc := 139) (v := 1) (lv' := [(0, vR (some 326)), (2, vI x2), (3, vI x3), (4, vI x4), (5, vI (x5 + (1 : Int32)))]) dX12_spreads_139 4 rfl rfl (Nat.le_of_ble_eq_true rfl) [1, 2, 3, 4, 0] rfl ?_
        refine ea_goto (pc := 142) (tgt := 55) dX12_spreads_142 rfl ?_
        exact (kJ55 (x2 : Int32) (x3 : Int32) (x4 : Int32) ((x5 + (1 : Int32)) : Int32) h _ _ E hs)
      · have E := (if_neg c18).symm.trans E
        obtain ⟨z12, E⟩ := gd_some E
        refine ea_aload_n (pc := 97) dX12_spreads_97 rfl 0 rfl ?_
        refine ea_getR (pc := 98) dX12_spreads_98 ec_12 (k := 11) (Nat.le_of_ble_eq_true rfl) rfl (Or.inl ew_1413) (cShM_326 hs).1 (cShM_326 hs).2.1 (rShM_326_11 hs) ?_
        refine ea_iload (pc := 101) dX12_spreads_101 3 rfl ?_
        obtain ⟨z13, E⟩ := gd_some E
        refine ea_iald (pc := 103) dX12_spreads_103 (cShM_335 hs).1 (cShM_335 hs).2.1 (ea_vpl (cShM_335 hs).2.2 z12) ?_
        refine ea_iload (pc := 104) dX12_spreads_104 5 rfl ?_
        refine ea_iadd (pc := 106) dX12_spreads_106 ?_
        refine ea_aload_n (pc := 107) dX12_spreads_107 rfl 0 rfl ?_
        refine ea_getR (pc := 108) dX12_spreads_108 ec_12 (k := 11) (Nat.le_of_ble_eq_true rfl) rfl (Or.inl ew_1413) (cShM_326 hs).1 (cShM_326 hs).2.1 (rShM_326_11 hs) ?_
        refine ea_iload (pc := 111) dX12_spreads_111 4 rfl ?_
        refine ea_iald (pc := 113) dX12_spreads_113 (cShM_335 hs).1 (cShM_335 hs).2.1 (ea_vpl (cShM_335 hs).2.2 z13) ?_
        refine ea_icmp_lt (pc := 114) (tgt := 120) dX12_spreads_114 rfl (fun c17 => ?_) (fun c17 => ?_)
        · have E := (if_pos c17).symm.trans E
          obtain ⟨z14, E⟩ := gd_some E
          refine ea_aload_n (pc := 120) dX12_spreads_120 rfl 0 rfl ?_
          refine ea_getR (pc := 121) dX12_spreads_121 ec_12 (k := 11) (Nat.le_of_ble_eq_true rfl) rfl (Or.inl ew_1413) (cShM_326 hs).1 (cShM_326 hs).2.1 (rShM_326_11 hs) ?_
          refine ea_iload (pc := 124) dX12_spreads_124 4 rfl ?_
          refine ea_aload_n (pc := 126) dX12_spreads_126 rfl 0 rfl ?_
          refine ea_getR (pc := 127) dX12_spreads_127 ec_12 (k := 11) (Nat.le_of_ble_eq_true rfl) rfl (Or.inl ew_1413) (cShM_326 hs).1 (cShM_326 hs).2.1 (rShM_326_11 hs) ?_
          refine ea_iload (pc := 130) dX12_spreads_130 3 rfl ?_
          obtain ⟨z15, E⟩ := gd_some E
          refine ea_iald (pc := 132) dX12_spreads_132 (cShM_335 hs).1 (cShM_335 hs).2.1 (ea_vpl (cShM_335 hs).2.2 z14) ?_
          refine ea_iload (pc := 133) dX12_spreads_133 5 rfl ?_
          refine ea_iadd (pc := 135) dX12_spreads_135 ?_
          obtain ⟨H16, eH16, E⟩ := let_some E
          refine ea_iast (pc := 136) dX12_spreads_136 (cShM_335 hs).1 (cShM_335 hs).2.1 (ea_vpl (cShM_335 hs).2.2 z15) ?_
          refine ea_nm eH16 ?_
          have hsH16 : ShM H16 := by rw [eH16]; exact hs
          refine ea_iconst (pc := 137) dX12_spreads_137 (v := 1) rfl ?_
          refine ea_istore_n (pc := 138) (lv' := [(0, vR (some 326)), (2, vI x2), (3, vI 1), (4, vI x4), (5, vI x5)]) dX12_spreads_138 rfl (Nat.le_of_ble_eq_true rfl) [1, 2, 0, 3, 4] rfl ?_
          refine ea_iinc (pc := 139) (v := 1) (lv' := [(0, vR (some 326)), (2, vI x2), (3, vI 1), (4, vI x4), (5, vI (x5 + (1 : Int32)))]) dX12_spreads_139 4 rfl rfl (Nat.le_of_ble_eq_true rfl) [1, 2, 3, 4, 0] rfl ?_
          refine ea_goto (pc := 142) (tgt := 55) dX12_spreads_142 rfl ?_
          exact (kJ55 (x2 : Int32) (1 : Int32) (x4 : Int32) ((x5 + (1 : Int32)) : Int32) H16 _ _ E hsH16)
        · have E := (if_neg c17).symm.trans E
          refine ea_goto (pc := 117) (tgt := 139) dX12_spreads_117 rfl ?_
          refine ea_iinc (pc := 139) (v := 1) (lv' := [(0, vR (some 326)), (2, vI x2), (3, vI x3), (4, vI x4), (5, vI (x5 + (1 : Int32)))]) dX12_spreads_139 4 rfl rfl (Nat.le_of_ble_eq_true rfl) [1, 2, 3, 4, 0] rfl ?_
          refine ea_goto (pc := 142) (tgt := 55) dX12_spreads_142 rfl ?_
          exact (kJ55 (x2 : Int32) (x3 : Int32) (x4 : Int32) ((x5 + (1 : Int32)) : Int32) h _ _ E hs)
theorem kBX12_spreads_55 {J43 : Int32 → Int32 → Int32 → ea_H → Option (Unit × ea_H)} {J55 : Int32 → Int32 → Int32 → Int32 → ea_H → Option (Unit × ea_H)}  (cJ43 : ∀ (x2 : Int32) (x3 : Int32) (x4 : Int32) (h : ea_H), kp (ea_core h) (J43 x2 x3 x4 h)) (cJ55 : ∀ (x2 : Int32) (x3 : Int32) (x4 : Int32) (x5 : Int32) (h : ea_H), kp (ea_core h) (J55 x2 x3 x4 x5 h)) {x2 : Int32} {x3 : Int32} {x4 : Int32} {x5 : Int32} {h : ea_H} : kp (ea_core h) (BX12_spreads_55 J43 J55 x2 x3 x4 x5 h) :=
  (kp_ite (kp_tw (cJ43 _ _ _ _) rfl) (kp_gd (kp_let (kp_ite (kp_tw (cJ55 _ _ _ _ _) rfl) (kp_gd (kp_ite (kp_tw (cJ55 _ _ _ _ _) rfl) (kp_gd (kp_gd (kp_ite (kp_gd (kp_gd (kp_let (kp_tw (cJ55 _ _ _ _ _) rfl)))) (kp_tw (cJ55 _ _ _ _ _) rfl))))))))))
theorem lBX12_spreads_55 {J43 : Int32 → Int32 → Int32 → ea_H → Option (Unit × ea_H)} {J55 : Int32 → Int32 → Int32 → Int32 → ea_H → Option (Unit × ea_H)} {J43_ : Int32 → Int32 → Int32 → ea_H → Option (Unit × ea_H)} {J55_ : Int32 → Int32 → Int32 → Int32 → ea_H → Option (Unit × ea_H)}  (mJ43 : ∀ (x2 : Int32) (x3 : Int32) (x4 : Int32) (h : ea_H), fle (J43 x2 x3 x4 h) (J43_ x2 x3 x4 h)) (mJ55 : ∀ (x2 : Int32) (x3 : Int32) (x4 : Int32) (x5 : Int32) (h : ea_H), fle (J55 x2 x3 x4 x5 h) (J55_ x2 x3 x4 x5 h)) {x2 : Int32} {x3 : Int32} {x4 : Int32} {x5 : Int32} {h : ea_H} : fle (BX12_spreads_55 J43 J55 x2 x3 x4 x5 h) (BX12_spreads_55 J43_ J55_ x2 x3 x4 x5 h) :=
  (fle_ite (mJ43 _ _ _ _) (fle_gd (fle_let fun _ => (fle_ite (mJ55 _ _ _ _ _) (fle_gd (fle_ite (mJ55 _ _ _ _ _) (fle_gd (fle_gd (fle_ite (fle_gd (fle_gd (fle_let fun _ => (mJ55 _ _ _ _ _)))) (mJ55 _ _ _ _ _))))))))))
theorem nBX12_spreads_55 {J43 : Int32 → Int32 → Int32 → ea_H → Option (Unit × ea_H)} {J55 : Int32 → Int32 → Int32 → Int32 → ea_H → Option (Unit × ea_H)} {J43_ : Nat → (Int32 → Int32 → Int32 → ea_H → Option (Unit × ea_H))} {J55_ : Nat → (Int32 → Int32 → Int32 → Int32 → ea_H → Option (Unit × ea_H))}  (mJ43 : ∀ (x2 : Int32) (x3 : Int32) (x4 : Int32) (h : ea_H), fct (J43 x2 x3 x4 h) (fun f => J43_ f x2 x3 x4 h)) (mJ55 : ∀ (x2 : Int32) (x3 : Int32) (x4 : Int32) (x5 : Int32) (h : ea_H), fct (J55 x2 x3 x4 x5 h) (fun f => J55_ f x2 x3 x4 x5 h)) {x2 : Int32} {x3 : Int32} {x4 : Int32} {x5 : Int32} {h : ea_H} : fct (BX12_spreads_55 J43 J55 x2 x3 x4 x5 h) (fun f => BX12_spreads_55 (J43_ f) (J55_ f) x2 x3 x4 x5 h) :=
  (fct_ite (mJ43 _ _ _ _) (fct_gd (fct_let fun _ => (fct_ite (mJ55 _ _ _ _ _) (fct_gd (fct_ite (mJ55 _ _ _ _ _) (fct_gd (fct_gd (fct_ite (fct_gd (fct_gd (fct_let fun _ => (mJ55 _ _ _ _ _)))) (mJ55 _ _ _ _ _))))))))))
noncomputable def gX12_spreads : Nat → (Int32 → Int32 → ea_H → Option (Unit × ea_H)) × (Int32 → Int32 → Int32 → ea_H → Option (Unit × ea_H)) × (Int32 → Int32 → ea_H → Option (Unit × ea_H)) × (Int32 → Int32 → Int32 → ea_H → Option (Unit × ea_H)) × (Int32 → Int32 → Int32 → Int32 → ea_H → Option (Unit × ea_H))
  | 0 => (fun _ _ _ => none, fun _ _ _ _ => none, fun _ _ _ => none, fun _ _ _ _ => none, fun _ _ _ _ _ => none)
  | f + 1 => (BX12_spreads_0 (gX12_spreads f).2.1, BX12_spreads_2 (gX12_spreads f).2.1 (gX12_spreads f).2.2.1, BX12_spreads_34 (gX12_spreads f).2.2.2.1, BX12_spreads_43 (gX12_spreads f).2.2.1 (gX12_spreads f).2.2.2.2, BX12_spreads_55 (gX12_spreads f).2.2.2.1 (gX12_spreads f).2.2.2.2)
theorem mgX12_spreads : ∀ f : Nat, (∀ (x1 : Int32) (x2 : Int32) (h : ea_H), fle ((gX12_spreads f).1 x1 x2 h) ((gX12_spreads (f + 1)).1 x1 x2 h)) ∧ (∀ (x1 : Int32) (x2 : Int32) (x3 : Int32) (h : ea_H), fle ((gX12_spreads f).2.1 x1 x2 x3 h) ((gX12_spreads (f + 1)).2.1 x1 x2 x3 h)) ∧ (∀ (x2 : Int32) (x3 : Int32) (h : ea_H), fle ((gX12_spreads f).2.2.1 x2 x3 h) ((gX12_spreads (f + 1)).2.2.1 x2 x3 h)) ∧ (∀ (x2 : Int32) (x3 : Int32) (x4 : Int32) (h : ea_H), fle ((gX12_spreads f).2.2.2.1 x2 x3 x4 h) ((gX12_spreads (f + 1)).2.2.2.1 x2 x3 x4 h)) ∧ (∀ (x2 : Int32) (x3 : Int32) (x4 : Int32) (x5 : Int32) (h : ea_H), fle ((gX12_spreads f).2.2.2.2 x2 x3 x4 x5 h) ((gX12_spreads (f + 1)).2.2.2.2 x2 x3 x4 x5 h)) := by
  intro f
  induction f with
  | zero => exact ⟨fun _ _ _ => fle_none _, fun _ _ _ _ => fle_none _, fun _ _ _ => fle_none _, fun _ _ _ _ => fle_none _, fun _ _ _ _ _ => fle_none _⟩
  | succ f ih => exact ⟨fun _ _ _ => lBX12_spreads_0 ih.2.1, fun _ _ _ _ => lBX12_spreads_2 ih.2.1 ih.2.2.1, fun _ _ _ => lBX12_spreads_34 ih.2.2.2.1, fun _ _ _ _ => lBX12_spreads_43 ih.2.2.1 ih.2.2.2.2, fun _ _ _ _ _ => lBX12_spreads_55 ih.2.2.2.1 ih.2.2.2.2⟩
noncomputable def qX12_spreads_0 (x1 : Int32) (x2 : Int32) (h : ea_H) : Option (Unit × ea_H) := flim fun f => (gX12_spreads f).1 x1 x2 h
noncomputable def qX12_spreads_2 (x1 : Int32) (x2 : Int32) (x3 : Int32) (h : ea_H) : Option (Unit × ea_H) := flim fun f => (gX12_spreads f).2.1 x1 x2 x3 h
noncomputable def qX12_spreads_34 (x2 : Int32) (x3 : Int32) (h : ea_H) : Option (Unit × ea_H) := flim fun f => (gX12_spreads f).2.2.1 x2 x3 h
noncomputable def qX12_spreads_43 (x2 : Int32) (x3 : Int32) (x4 : Int32) (h : ea_H) : Option (Unit × ea_H) := flim fun f => (gX12_spreads f).2.2.2.1 x2 x3 x4 h
noncomputable def qX12_spreads_55 (x2 : Int32) (x3 : Int32) (x4 : Int32) (x5 : Int32) (h : ea_H) : Option (Unit × ea_H) := flim fun f => (gX12_spreads f).2.2.2.2 x2 x3 x4 x5 h
theorem fqX12_spreads_0 (x1 : Int32) (x2 : Int32) (h : ea_H) : fct (qX12_spreads_0 x1 x2 h) fun f => (gX12_spreads f).1 x1 x2 h := flim_ct fun f => (mgX12_spreads f).1 x1 x2 h
theorem fqX12_spreads_2 (x1 : Int32) (x2 : Int32) (x3 : Int32) (h : ea_H) : fct (qX12_spreads_2 x1 x2 x3 h) fun f => (gX12_spreads f).2.1 x1 x2 x3 h := flim_ct fun f => (mgX12_spreads f).2.1 x1 x2 x3 h
theorem fqX12_spreads_34 (x2 : Int32) (x3 : Int32) (h : ea_H) : fct (qX12_spreads_34 x2 x3 h) fun f => (gX12_spreads f).2.2.1 x2 x3 h := flim_ct fun f => (mgX12_spreads f).2.2.1 x2 x3 h
theorem fqX12_spreads_43 (x2 : Int32) (x3 : Int32) (x4 : Int32) (h : ea_H) : fct (qX12_spreads_43 x2 x3 x4 h) fun f => (gX12_spreads f).2.2.2.1 x2 x3 x4 h := flim_ct fun f => (mgX12_spreads f).2.2.2.1 x2 x3 x4 h
theorem fqX12_spreads_55 (x2 : Int32) (x3 : Int32) (x4 : Int32) (x5 : Int32) (h : ea_H) : fct (qX12_spreads_55 x2 x3 x4 x5 h) fun f => (gX12_spreads f).2.2.2.2 x2 x3 x4 x5 h := flim_ct fun f => (mgX12_spreads f).2.2.2.2 x2 x3 x4 x5 h
/-- how a block opens -/
theorem uqX12_spreads_0 {x1 : Int32} {x2 : Int32} {h : ea_H} {P : Unit × ea_H → Prop} (H : sat (BX12_spreads_0 qX12_spreads_2 x1 x2 h) P) : sat (qX12_spreads_0 x1 x2 h) P := by
  obtain ⟨x, e, hp⟩ := H
  obtain ⟨n, hn⟩ := nBX12_spreads_0 fqX12_spreads_2 x e
  exact ⟨x, flim_at (fun f => (mgX12_spreads f).1 x1 x2 h) (f := n + 1) (hn n (Nat.le_refl _)), hp⟩
/-- how a block opens -/
theorem uqX12_spreads_2 {x1 : Int32} {x2 : Int32} {x3 : Int32} {h : ea_H} {P : Unit × ea_H → Prop} (H : sat (BX12_spreads_2 qX12_spreads_2 qX12_spreads_34 x1 x2 x3 h) P) : sat (qX12_spreads_2 x1 x2 x3 h) P := by
  obtain ⟨x, e, hp⟩ := H
  obtain ⟨n, hn⟩ := nBX12_spreads_2 fqX12_spreads_2 fqX12_spreads_34 x e
  exact ⟨x, flim_at (fun f => (mgX12_spreads f).2.1 x1 x2 x3 h) (f := n + 1) (hn n (Nat.le_refl _)), hp⟩
/-- how a block opens -/
theorem uqX12_spreads_34 {x2 : Int32} {x3 : Int32} {h : ea_H} {P : Unit × ea_H → Prop} (H : sat (BX12_spreads_34 qX12_spreads_43 x2 x3 h) P) : sat (qX12_spreads_34 x2 x3 h) P := by
  obtain ⟨x, e, hp⟩ := H
  obtain ⟨n, hn⟩ := nBX12_spreads_34 fqX12_spreads_43 x e
  exact ⟨x, flim_at (fun f => (mgX12_spreads f).2.2.1 x2 x3 h) (f := n + 1) (hn n (Nat.le_refl _)), hp⟩
/-- how a block opens -/
theorem uqX12_spreads_43 {x2 : Int32} {x3 : Int32} {x4 : Int32} {h : ea_H} {P : Unit × ea_H → Prop} (H : sat (BX12_spreads_43 qX12_spreads_34 qX12_spreads_55 x2 x3 x4 h) P) : sat (qX12_spreads_43 x2 x3 x4 h) P := by
  obtain ⟨x, e, hp⟩ := H
  obtain ⟨n, hn⟩ := nBX12_spreads_43 fqX12_spreads_34 fqX12_spreads_55 x e
  exact ⟨x, flim_at (fun f => (mgX12_spreads f).2.2.2.1 x2 x3 x4 h) (f := n + 1) (hn n (Nat.le_refl _)), hp⟩
/-- how a block opens -/
theorem uqX12_spreads_55 {x2 : Int32} {x3 : Int32} {x4 : Int32} {x5 : Int32} {h : ea_H} {P : Unit × ea_H → Prop} (H : sat (BX12_spreads_55 qX12_spreads_43 qX12_spreads_55 x2 x3 x4 x5 h) P) : sat (qX12_spreads_55 x2 x3 x4 x5 h) P := by
  obtain ⟨x, e, hp⟩ := H
  obtain ⟨n, hn⟩ := nBX12_spreads_55 fqX12_spreads_43 fqX12_spreads_55 x e
  exact ⟨x, flim_at (fun f => (mgX12_spreads f).2.2.2.2 x2 x3 x4 x5 h) (f := n + 1) (hn n (Nat.le_refl _)), hp⟩
theorem kgX12_spreads : ∀ f : Nat, (∀ (x1 : Int32) (x2 : Int32) (h : ea_H), kp (ea_core h) ((gX12_spreads f).1 x1 x2 h)) ∧ (∀ (x1 : Int32) (x2 : Int32) (x3 : Int32) (h : ea_H), kp (ea_core h) ((gX12_spreads f).2.1 x1 x2 x3 h)) ∧ (∀ (x2 : Int32) (x3 : Int32) (h : ea_H), kp (ea_core h) ((gX12_spreads f).2.2.1 x2 x3 h)) ∧ (∀ (x2 : Int32) (x3 : Int32) (x4 : Int32) (h : ea_H), kp (ea_core h) ((gX12_spreads f).2.2.2.1 x2 x3 x4 h)) ∧ (∀ (x2 : Int32) (x3 : Int32) (x4 : Int32) (x5 : Int32) (h : ea_H), kp (ea_core h) ((gX12_spreads f).2.2.2.2 x2 x3 x4 x5 h)) := by
  intro f
  induction f with
  | zero => exact ⟨fun _ _ _ => kp_none _, fun _ _ _ _ => kp_none _, fun _ _ _ => kp_none _, fun _ _ _ _ => kp_none _, fun _ _ _ _ _ => kp_none _⟩
  | succ f ih => exact ⟨fun _ _ _ => kBX12_spreads_0 ih.2.1, fun _ _ _ _ => kBX12_spreads_2 ih.2.1 ih.2.2.1, fun _ _ _ => kBX12_spreads_34 ih.2.2.2.1, fun _ _ _ _ => kBX12_spreads_43 ih.2.2.1 ih.2.2.2.2, fun _ _ _ _ _ => kBX12_spreads_55 ih.2.2.2.1 ih.2.2.2.2⟩
theorem tgX12_spreads {d : Nat} {h0 : ea_H} (hd : 1 ≤ d) : ∀ f : Nat, (∀ (x1 : Int32) (x2 : Int32) (h : ea_H) (r : Unit) (h' : ea_H), (gX12_spreads f).1 x1 x2 h = some (r, h') → ShM h → ea_W mX12_spreads d h0 none h' 0 [(0, vR (some 326)), (1, vI x1), (2, vI x2)] [] h) ∧ (∀ (x1 : Int32) (x2 : Int32) (x3 : Int32) (h : ea_H) (r : Unit) (h' : ea_H), (gX12_spreads f).2.1 x1 x2 x3 h = some (r, h') → ShM h → ea_W mX12_spreads d h0 none h' 2 [(0, vR (some 326)), (1, vI x1), (2, vI x2), (3, vI x3)] [] h) ∧ (∀ (x2 : Int32) (x3 : Int32) (h : ea_H) (r : Unit) (h' : ea_H), (gX12_spreads f).2.2.1 x2 x3 h = some (r, h') → ShM h → ea_W mX12_spreads d h0 none h' 34 [(0, vR (some 326)), (2, vI x2), (3, vI x3)] [] h) ∧ (∀ (x2 : Int32) (x3 : Int32) (x4 : Int32) (h : ea_H) (r : Unit) (h' : ea_H), (gX12_spreads f).2.2.2.1 x2 x3 x4 h = some (r, h') → ShM h → ea_W mX12_spreads d h0 none h' 43 [(0, vR (some 326)), (2, vI x2), (3, vI x3), (4, vI x4)] [] h) ∧ (∀ (x2 : Int32) (x3 : Int32) (x4 : Int32) (x5 : Int32) (h : ea_H) (r : Unit) (h' : ea_H), (gX12_spreads f).2.2.2.2 x2 x3 x4 x5 h = some (r, h') → ShM h → ea_W mX12_spreads d h0 none h' 55 [(0, vR (some 326)), (2, vI x2), (3, vI x3), (4, vI x4), (5, vI x5)] [] h) := by
  intro f
  induction f with
  | zero => exact ⟨fun _ _ _ _ _ E => no_some E, fun _ _ _ _ _ _ E => no_some E, fun _ _ _ _ _ E => no_some E, fun _ _ _ _ _ _ E => no_some E, fun _ _ _ _ _ _ _ E => no_some E⟩
  | succ f ih => exact ⟨fun _ _ _ _ _ E hs => tBX12_spreads_0 hd ih.2.1 E hs, fun _ _ _ _ _ _ E hs => tBX12_spreads_2 hd ih.2.1 ih.2.2.1 E hs, fun _ _ _ _ _ E hs => tBX12_spreads_34 hd ih.2.2.2.1 E hs, fun _ _ _ _ _ _ E hs => tBX12_spreads_43 hd ih.2.2.1 ih.2.2.2.2 E hs, fun _ _ _ _ _ _ _ E hs => tBX12_spreads_55 hd ih.2.2.2.1 ih.2.2.2.2 E hs⟩
noncomputable def qX12_spreads (x1 : Int32) (x2 : Int32) (h : ea_H) : Option (Unit × ea_H) := qX12_spreads_0 x1 x2 h
theorem sX12_spreads {d : Nat} {x1 : Int32} {x2 : Int32} {h : ea_H} {r : Unit} {h' : ea_H} (hd : 1 ≤ d) (hs : ShM h) (K : qX12_spreads x1 x2 h = some (r, h')) : ea_Met mX12_spreads d [vR (some 326), vI x1, vI x2] h none h' := by
  unfold qX12_spreads at K
  obtain ⟨n, hn⟩ := fqX12_spreads_0 x1 x2 h _ K
  have W := (tgX12_spreads (d := d) (h0 := h) hd n).1 x1 x2 h _ _ (hn n (Nat.le_refl _)) hs
  exact ea_enter rfl (Nat.le_of_ble_eq_true rfl) W
theorem kpX12_spreads (x1 : Int32) (x2 : Int32) (h : ea_H) : kp (ea_core h) (qX12_spreads x1 x2 h) := fun x e => by
  obtain ⟨n, hn⟩ := fqX12_spreads_0 x1 x2 h x e
  exact (kgX12_spreads n).1 x1 x2 h x (hn n (Nat.le_refl _))
noncomputable def BX12_milesOf_0 (x1 : Int32) (x2 : Int32) (x3 : Int32) (h : ea_H) : Option (Int32 × ea_H) :=
  (Option.bind (qX12_spreads (x1 : Int32) (x3 : Int32) h) fun w1 => (gd (vp_in x2 12) (some ((ea_i w1.2 335 (Int32.toNatClampNeg x2)), w1.2))))
theorem tBX12_milesOf_0 {d : Nat} {h0 : ea_H} (hd : 2 ≤ d)  {x1 : Int32} {x2 : Int32} {x3 : Int32} {h : ea_H} {r : Int32} {h' : ea_H} (E : BX12_milesOf_0 x1 x2 x3 h = some (r, h')) (hs : ShM h) : ea_W mX12_milesOf d h0 (some (vI r)) h' 0 [(0, vR (some 326)), (1, vI x1), (2, vI x2), (3, vI x3)] [] h := by
  unfold BX12_milesOf_0 at E
  obtain ⟨w1, Ew1, E⟩ := bd_some E
  have hsw1 : ShM w1.2 := ShM_core ((kpX12_spreads _ _ _) _ Ew1) hs
  refine ea_aload_n (pc := 0) dX12_milesOf_0 rfl 0 rfl ?_
  refine ea_iload_n (pc := 1) dX12_milesOf_1 rfl 1 rfl ?_
  refine ea_iload_n (pc := 2) dX12_milesOf_2 rfl 3 rfl ?_
  refine ea_callV (pc := 3) (d' := d - 1) (As := [vI x1, vI x3]) (st := []) dX12_milesOf_3 kX12_spreads (sX12_spreads (d := d - 1) (by omega) hs Ew1) (by omega) rfl (Nat.le_of_ble_eq_true rfl) ew_1780 ew_1782 ew_56 (ci := 12) rfl (by decide) (cShM_326 hs).1 (cShM_326 hs).2.1 ?_
  obtain ⟨z2, E⟩ := gd_some E
  refine ea_aload_n (pc := 6) dX12_milesOf_6 rfl 0 rfl ?_
  refine ea_getR (pc := 7) dX12_milesOf_7 ec_12 (k := 11) (Nat.le_of_ble_eq_true rfl) rfl (Or.inl ew_1413) (cShM_326 hsw1).1 (cShM_326 hsw1).2.1 (rShM_326_11 hsw1) ?_
  refine ea_iload_n (pc := 10) dX12_milesOf_10 rfl 2 rfl ?_
  refine ea_iald (pc := 11) dX12_milesOf_11 (cShM_335 hsw1).1 (cShM_335 hsw1).2.1 (ea_vpl (cShM_335 hsw1).2.2 z2) ?_
  exact ea_iretO (pc := 12) dX12_milesOf_12 rfl rfl E
theorem kBX12_milesOf_0  {x1 : Int32} {x2 : Int32} {x3 : Int32} {h : ea_H} : kp (ea_core h) (BX12_milesOf_0 x1 x2 x3 h) :=
  (kp_bind (kp_tw (kpX12_spreads _ _ _) rfl) fun w1 hcw1 => (kp_gd (kp_ret hcw1)))
noncomputable def qX12_milesOf (x1 : Int32) (x2 : Int32) (x3 : Int32) (h : ea_H) : Option (Int32 × ea_H) := BX12_milesOf_0 x1 x2 x3 h
theorem sX12_milesOf {d : Nat} {x1 : Int32} {x2 : Int32} {x3 : Int32} {h : ea_H} {r : Int32} {h' : ea_H} (hd : 2 ≤ d) (hs : ShM h) (K : qX12_milesOf x1 x2 x3 h = some (r, h')) : ea_Met mX12_milesOf d [vR (some 326), vI x1, vI x2, vI x3] h (some (vI r)) h' := by
  unfold qX12_milesOf at K
  have W := tBX12_milesOf_0 hd (h0 := h) K hs
  exact ea_enter rfl (Nat.le_of_ble_eq_true rfl) W
theorem kpX12_milesOf (x1 : Int32) (x2 : Int32) (x3 : Int32) (h : ea_H) : kp (ea_core h) (qX12_milesOf x1 x2 x3 h) := kBX12_milesOf_0
noncomputable def BX12_miles_0 (x1 : Int32) (x2 : Int32) (h : ea_H) : Option (Int32 × ea_H) :=
  (Option.bind (qX12_isTown (x1 : Int32) h) fun w1 => (if w1.1 = (0 : Int32) then (some (((-1) : Int32), w1.2)) else (Option.bind (qX12_isTown (x2 : Int32) w1.2) fun w2 => (if w2.1 = (0 : Int32) then (some (((-1) : Int32), w2.2)) else (Option.bind (qX12_milesOf (x1 : Int32) (x2 : Int32) (0 : Int32) w2.2) fun w3 => (if w3.1 = (1000000 : Int32) then (some (((-1) : Int32), w3.2)) else (some (w3.1, w3.2))))))))
theorem tBX12_miles_0 {d : Nat} {h0 : ea_H} (hd : 3 ≤ d)  {x1 : Int32} {x2 : Int32} {h : ea_H} {r : Int32} {h' : ea_H} (E : BX12_miles_0 x1 x2 h = some (r, h')) (hs : ShM h) : ea_W mX12_miles d h0 (some (vI r)) h' 0 [(0, vR (some 326)), (1, vI x1), (2, vI x2)] [] h := by
  unfold BX12_miles_0 at E
  obtain ⟨w1, Ew1, E⟩ := bd_some E
  have hsw1 : ShM w1.2 := ShM_core ((kpX12_isTown _ _) _ Ew1) hs
  refine ea_aload_n (pc := 0) dX12_miles_0 rfl 0 rfl ?_
  refine ea_iload_n (pc := 1) dX12_miles_1 rfl 1 rfl ?_
  refine ea_callV (pc := 2) (d' := d - 1) (As := [vI x1]) (st := []) dX12_miles_2 kX12_isTown (sX12_isTown (d := d - 1) (by omega) hs Ew1) (by omega) rfl (Nat.le_of_ble_eq_true rfl) ew_1765 ew_1767 ew_54 (ci := 12) rfl (by decide) (cShM_326 hs).1 (cShM_326 hs).2.1 ?_
  refine ea_if_eq (pc := 5) (tgt := 16) dX12_miles_5 rfl (fun c6 => ?_) (fun c6 => ?_)
  · have E := (if_pos c6).symm.trans E
    refine ea_iconst (pc := 16) dX12_miles_16 (v := (-1)) rfl ?_
    exact ea_iretO (pc := 17) dX12_miles_17 rfl rfl E
  · have E := (if_neg c6).symm.trans E
    obtain ⟨w2, Ew2, E⟩ := bd_some E
    have hsw2 : ShM w2.2 := ShM_core ((kpX12_isTown _ _) _ Ew2) hsw1
    refine ea_aload_n (pc := 8) dX12_miles_8 rfl 0 rfl ?_
    refine ea_iload_n (pc := 9) dX12_miles_9 rfl 2 rfl ?_
    refine ea_callV (pc := 10) (d' := d - 1) (As := [vI x2]) (st := []) dX12_miles_10 kX12_isTown (sX12_isTown (d := d - 1) (by omega) hsw1 Ew2) (by omega) rfl (Nat.le_of_ble_eq_true rfl) ew_1765 ew_1767 ew_54 (ci := 12) rfl (by decide) (cShM_326 hsw1).1 (cShM_326 hsw1).2.1 ?_
    refine ea_if_ne (pc := 13) (tgt := 18) dX12_miles_13 rfl (fun c5 => ?_) (fun c5 => ?_)
    · have E := (if_neg c5).symm.trans E
      obtain ⟨w3, Ew3, E⟩ := bd_some E
      have hsw3 : ShM w3.2 := ShM_core ((kpX12_milesOf _ _ _ _) _ Ew3) hsw2
      refine ea_aload_n (pc := 18) dX12_miles_18 rfl 0 rfl ?_
      refine ea_iload_n (pc := 19) dX12_miles_19 rfl 1 rfl ?_
      refine ea_iload_n (pc := 20) dX12_miles_20 rfl 2 rfl ?_
      refine ea_iconst (pc := 21) dX12_miles_21 (v := 0) rfl ?_
      refine ea_callV (pc := 22) (d' := d - 1) (As := [vI x1, vI x2, vI 0]) (st := []) dX12_miles_22 kX12_milesOf (sX12_milesOf (d := d - 1) (by omega) hsw2 Ew3) (by omega) rfl (Nat.le_of_ble_eq_true rfl) ew_1776 ew_1778 ew_55 (ci := 12) rfl (by decide) (cShM_326 hsw2).1 (cShM_326 hsw2).2.1 ?_
      refine ea_istore_n (pc := 25) (lv' := [(3, vI w3.1)]) dX12_miles_25 rfl (Nat.le_of_ble_eq_true rfl) [0] rfl ?_
      refine ea_iload_n (pc := 26) dX12_miles_26 rfl 0 rfl ?_
      refine ea_ldcw (pc := 27) dX12_miles_27 ew_1784 ?_
      refine ea_icmp_ne (pc := 30) (tgt := 37) dX12_miles_30 rfl (fun c4 => ?_) (fun c4 => ?_)
      · have E := (if_neg c4).symm.trans E
        refine ea_iload_n (pc := 37) dX12_miles_37 rfl 0 rfl ?_
        exact ea_iretO (pc := 38) dX12_miles_38 rfl rfl E
      · have E := (if_pos c4).symm.trans E
        refine ea_iconst (pc := 33) dX12_miles_33 (v := (-1)) rfl ?_
        refine ea_goto (pc := 34) (tgt := 38) dX12_miles_34 rfl ?_
        exact ea_iretO (pc := 38) dX12_miles_38 rfl rfl E
    · have E := (if_pos c5).symm.trans E
      refine ea_iconst (pc := 16) dX12_miles_16 (v := (-1)) rfl ?_
      exact ea_iretO (pc := 17) dX12_miles_17 rfl rfl E
theorem kBX12_miles_0  {x1 : Int32} {x2 : Int32} {h : ea_H} : kp (ea_core h) (BX12_miles_0 x1 x2 h) :=
  (kp_bind (kp_tw (kpX12_isTown _ _) rfl) fun w1 hcw1 => (kp_ite (kp_ret hcw1) (kp_bind (kp_tw (kpX12_isTown _ _) hcw1) fun w2 hcw2 => (kp_ite (kp_ret hcw2) (kp_bind (kp_tw (kpX12_milesOf _ _ _ _) hcw2) fun w3 hcw3 => (kp_ite (kp_ret hcw3) (kp_ret hcw3)))))))
noncomputable def qX12_miles (x1 : Int32) (x2 : Int32) (h : ea_H) : Option (Int32 × ea_H) := BX12_miles_0 x1 x2 h
theorem sX12_miles {d : Nat} {x1 : Int32} {x2 : Int32} {h : ea_H} {r : Int32} {h' : ea_H} (hd : 3 ≤ d) (hs : ShM h) (K : qX12_miles x1 x2 h = some (r, h')) : ea_Met mX12_miles d [vR (some 326), vI x1, vI x2] h (some (vI r)) h' := by
  unfold qX12_miles at K
  have W := tBX12_miles_0 hd (h0 := h) K hs
  exact ea_enter rfl (Nat.le_of_ble_eq_true rfl) W
theorem kpX12_miles (x1 : Int32) (x2 : Int32) (h : ea_H) : kp (ea_core h) (qX12_miles x1 x2 h) := kBX12_miles_0
noncomputable def BX12_train_0 (h : ea_H) : Option (Int32 × ea_H) :=
  (if (ea_i h 326 2) = (10 : Int32) then (some (((-1) : Int32), h)) else (ea_let (ea_wi h 326 2 ((ea_i h 326 2) + (1 : Int32))) fun H1 => (ea_let (ea_wi H1 326 12 0) fun H2 => (some (((ea_i H2 326 2) - (1 : Int32)), H2)))))
theorem tBX12_train_0 {d : Nat} {h0 : ea_H} (hd : 1 ≤ d)  {h : ea_H} {r : Int32} {h' : ea_H} (E : BX12_train_0 h = some (r, h')) (hs : ShM h) : ea_W mX12_train d h0 (some (vI r)) h' 0 [(0, vR (some 326))] [] h := by
  unfold BX12_train_0 at E
  refine ea_aload_n (pc := 0) dX12_train_0 rfl 0 rfl ?_
  refine ea_getI (pc := 1) dX12_train_1 ec_12 (k := 2) (Nat.le_of_ble_eq_true rfl) rfl (Or.inl ew_1404) (cShM_326 hs).1 (cShM_326 hs).2.1 ?_
  refine ea_bipush (pc := 4) dX12_train_4 (v := 10) rfl ?_
  refine ea_icmp_ne (pc := 6) (tgt := 11) dX12_train_6 rfl (fun c3 => ?_) (fun c3 => ?_)
  · have E := (if_neg c3).symm.trans E
    obtain ⟨H1, eH1, E⟩ := let_some E
    refine ea_aload_n (pc := 11) dX12_train_11 rfl 0 rfl ?_
    refine ea_dup (pc := 12) dX12_train_12 rfl ?_
    refine ea_getI (pc := 13) dX12_train_13 ec_12 (k := 2) (Nat.le_of_ble_eq_true rfl) rfl (Or.inl ew_1404) (cShM_326 hs).1 (cShM_326 hs).2.1 ?_
    refine ea_iconst (pc := 16) dX12_train_16 (v := 1) rfl ?_
    refine ea_iadd (pc := 17) dX12_train_17 ?_
    refine ea_putI (pc := 18) dX12_train_18 ec_12 (k := 2) (Nat.le_of_ble_eq_true rfl) rfl (Or.inl ⟨rfl, Or.inl ew_1404⟩) rfl rfl (cShM_326 hs).1 (cShM_326 hs).2.1 ?_
    refine ea_nm eH1 ?_
    have hsH1 : ShM H1 := by rw [eH1]; exact hs
    obtain ⟨H2, eH2, E⟩ := let_some E
    refine ea_aload_n (pc := 21) dX12_train_21 rfl 0 rfl ?_
    refine ea_iconst (pc := 22) dX12_train_22 (v := 0) rfl ?_
    refine ea_putI (pc := 23) dX12_train_23 ec_12 (k := 12) (Nat.le_of_ble_eq_true rfl) rfl (Or.inl ⟨rfl, Or.inl ew_1414⟩) (ea_bn (Or.inl rfl)) (ea_bf (Or.inl rfl)) (cShM_326 hsH1).1 (cShM_326 hsH1).2.1 ?_
    refine ea_nm eH2 ?_
    have hsH2 : ShM H2 := by rw [eH2]; exact hsH1
    refine ea_aload_n (pc := 26) dX12_train_26 rfl 0 rfl ?_
    refine ea_getI (pc := 27) dX12_train_27 ec_12 (k := 2) (Nat.le_of_ble_eq_true rfl) rfl (Or.inl ew_1404) (cShM_326 hsH2).1 (cShM_326 hsH2).2.1 ?_
    refine ea_iconst (pc := 30) dX12_train_30 (v := 1) rfl ?_
    refine ea_isub (pc := 31) dX12_train_31 ?_
    exact ea_iretO (pc := 32) dX12_train_32 rfl rfl E
  · have E := (if_pos c3).symm.trans E
    refine ea_iconst (pc := 9) dX12_train_9 (v := (-1)) rfl ?_
    exact ea_iretO (pc := 10) dX12_train_10 rfl rfl E
theorem kBX12_train_0  {h : ea_H} : kp (ea_core h) (BX12_train_0 h) :=
  (kp_ite (kp_ret rfl) (kp_let (kp_let (kp_ret rfl))))
noncomputable def qX12_train (h : ea_H) : Option (Int32 × ea_H) := BX12_train_0 h
theorem sX12_train {d : Nat} {h : ea_H} {r : Int32} {h' : ea_H} (hd : 1 ≤ d) (hs : ShM h) (K : qX12_train h = some (r, h')) : ea_Met mX12_train d [vR (some 326)] h (some (vI r)) h' := by
  unfold qX12_train at K
  have W := tBX12_train_0 hd (h0 := h) K hs
  exact ea_enter rfl (Nat.le_of_ble_eq_true rfl) W
theorem kpX12_train (h : ea_H) : kp (ea_core h) (qX12_train h) := kBX12_train_0
noncomputable def BX12_stop_0 (J57 : Int32 → Int32 → Int32 → Int32 → Int32 → ea_H → Option (Int32 × ea_H)) (x1 : Int32) (x2 : Int32) (x3 : Int32) (x4 : Int32) (x5 : Int32) (h : ea_H) : Option (Int32 × ea_H) :=
  (Option.bind (qX12_isTrain (x1 : Int32) h) fun w1 => (if w1.1 = (0 : Int32) then (some (((-1) : Int32), w1.2)) else (if (0 : Int32) < (ea_i w1.2 326 0) then (some (((-1) : Int32), w1.2)) else (Option.bind (qX12_isTown (x2 : Int32) w1.2) fun w2 => (if w2.1 = (0 : Int32) then (some (((-1) : Int32), w2.2)) else (Option.bind (qX12_isIn (x3 : Int32) (0 : Int32) (2400 : Int32) w2.2) fun w3 => (if w3.1 = (0 : Int32) then (some (((-1) : Int32), w3.2)) else (Option.bind (qX12_isIn (x4 : Int32) (x3 : Int32) (2400 : Int32) w3.2) fun w4 => (if w4.1 = (0 : Int32) then (some (((-1) : Int32), w4.2)) else (if x5 = (0 : Int32) then (J57 (x1 : Int32) (x2 : Int32) (x3 : Int32) (x4 : Int32) (x5 : Int32) w4.2) else (if x3 = x4 then (J57 (x1 : Int32) (x2 : Int32) (x3 : Int32) (x4 : Int32) (x5 : Int32) w4.2) else (some (((-1) : Int32), w4.2)))))))))))))
theorem tBX12_stop_0 {d : Nat} {h0 : ea_H} (hd : 3 ≤ d) {J57 : Int32 → Int32 → Int32 → Int32 → Int32 → ea_H → Option (Int32 × ea_H)}  (kJ57 : ∀ (x1 : Int32) (x2 : Int32) (x3 : Int32) (x4 : Int32) (x5 : Int32) (h : ea_H) (r : Int32) (h' : ea_H), J57 x1 x2 x3 x4 x5 h = some (r, h') → ShM h → ea_W mX12_stop d h0 (some (vI r)) h' 57 [(0, vR (some 326)), (1, vI x1), (2, vI x2), (3, vI x3), (4, vI x4), (5, vI x5)] [] h) {x1 : Int32} {x2 : Int32} {x3 : Int32} {x4 : Int32} {x5 : Int32} {h : ea_H} {r : Int32} {h' : ea_H} (E : BX12_stop_0 J57 x1 x2 x3 x4 x5 h = some (r, h')) (hs : ShM h) : ea_W mX12_stop d h0 (some (vI r)) h' 0 [(0, vR (some 326)), (1, vI x1), (2, vI x2), (3, vI x3), (4, vI x4), (5, vI x5)] [] h := by
  unfold BX12_stop_0 at E
  obtain ⟨w1, Ew1, E⟩ := bd_some E
  have hsw1 : ShM w1.2 := ShM_core ((kpX12_isTrain _ _) _ Ew1) hs
  refine ea_aload_n (pc := 0) dX12_stop_0 rfl 0 rfl ?_
  refine ea_iload_n (pc := 1) dX12_stop_1 rfl 1 rfl ?_
  refine ea_callV (pc := 2) (d' := d - 1) (As := [vI x1]) (st := []) dX12_stop_2 kX12_isTrain (sX12_isTrain (d := d - 1) (by omega) hs Ew1) (by omega) rfl (Nat.le_of_ble_eq_true rfl) ew_1793 ew_1795 ew_57 (ci := 12) rfl (by decide) (cShM_326 hs).1 (cShM_326 hs).2.1 ?_
  refine ea_if_eq (pc := 5) (tgt := 68) dX12_stop_5 rfl (fun c11 => ?_) (fun c11 => ?_)
  · have E := (if_pos c11).symm.trans E
    refine ea_iconst (pc := 68) dX12_stop_68 (v := (-1)) rfl ?_
    exact ea_iretO (pc := 69) dX12_stop_69 rfl rfl E
  · have E := (if_neg c11).symm.trans E
    refine ea_aload_n (pc := 8) dX12_stop_8 rfl 0 rfl ?_
    refine ea_getI (pc := 9) dX12_stop_9 ec_12 (k := 0) (Nat.le_of_ble_eq_true rfl) rfl (Or.inl ew_1402) (cShM_326 hsw1).1 (cShM_326 hsw1).2.1 ?_
    refine ea_if_gt (pc := 12) (tgt := 68) dX12_stop_12 rfl (fun c10 => ?_) (fun c10 => ?_)
    · have E := (if_pos c10).symm.trans E
      refine ea_iconst (pc := 68) dX12_stop_68 (v := (-1)) rfl ?_
      exact ea_iretO (pc := 69) dX12_stop_69 rfl rfl E
    · have E := (if_neg c10).symm.trans E
      obtain ⟨w2, Ew2, E⟩ := bd_some E
      have hsw2 : ShM w2.2 := ShM_core ((kpX12_isTown _ _) _ Ew2) hsw1
      refine ea_aload_n (pc := 15) dX12_stop_15 rfl 0 rfl ?_
      refine ea_iload_n (pc := 16) dX12_stop_16 rfl 2 rfl ?_
      refine ea_callV (pc := 17) (d' := d - 1) (As := [vI x2]) (st := []) dX12_stop_17 kX12_isTown (sX12_isTown (d := d - 1) (by omega) hsw1 Ew2) (by omega) rfl (Nat.le_of_ble_eq_true rfl) ew_1765 ew_1767 ew_54 (ci := 12) rfl (by decide) (cShM_326 hsw1).1 (cShM_326 hsw1).2.1 ?_
      refine ea_if_eq (pc := 20) (tgt := 68) dX12_stop_20 rfl (fun c9 => ?_) (fun c9 => ?_)
      · have E := (if_pos c9).symm.trans E
        refine ea_iconst (pc := 68) dX12_stop_68 (v := (-1)) rfl ?_
        exact ea_iretO (pc := 69) dX12_stop_69 rfl rfl E
      · have E := (if_neg c9).symm.trans E
        obtain ⟨w3, Ew3, E⟩ := bd_some E
        have hsw3 : ShM w3.2 := ShM_core ((kpX12_isIn _ _ _ _) _ Ew3) hsw2
        refine ea_iload_n (pc := 23) dX12_stop_23 rfl 3 rfl ?_
        refine ea_iconst (pc := 24) dX12_stop_24 (v := 0) rfl ?_
        refine ea_sipush (pc := 25) dX12_stop_25 (v := 2400) rfl ?_
        refine ea_callS (pc := 28) (d' := d - 1) (As := [vI x3, vI 0, vI 2400]) (st := []) dX12_stop_28 kX12_isIn (sX12_isIn (d := d - 1) (by omega) Ew3) (by omega) rfl (Nat.le_of_ble_eq_true rfl) ew_1769 ew_1770 ?_
        refine ea_if_eq (pc := 31) (tgt := 68) dX12_stop_31 rfl (fun c8 => ?_) (fun c8 => ?_)
        · have E := (if_pos c8).symm.trans E
          refine ea_iconst (pc := 68) dX12_stop_68 (v := (-1)) rfl ?_
          exact ea_iretO (pc := 69) dX12_stop_69 rfl rfl E
        · have E := (if_neg c8).symm.trans E
          obtain ⟨w4, Ew4, E⟩ := bd_some E
          have hsw4 : ShM w4.2 := ShM_core ((kpX12_isIn _ _ _ _) _ Ew4) hsw3
          refine ea_iload (pc := 34) dX12_stop_34 4 rfl ?_
          refine ea_iload_n (pc := 36) dX12_stop_36 rfl 3 rfl ?_
          refine ea_sipush (pc := 37) dX12_stop_37 (v := 2400) rfl ?_
          refine ea_callS (pc := 40) (d' := d - 1) (As := [vI x4, vI x3, vI 2400]) (st := []) dX12_stop_40 kX12_isIn (sX12_isIn (d := d - 1) (by omega) Ew4) (by omega) rfl (Nat.le_of_ble_eq_true rfl) ew_1769 ew_1770 ?_
          refine ea_if_eq (pc := 43) (tgt := 68) dX12_stop_43 rfl (fun c7 => ?_) (fun c7 => ?_)
          · have E := (if_pos c7).symm.trans E
            refine ea_iconst (pc := 68) dX12_stop_68 (v := (-1)) rfl ?_
            exact ea_iretO (pc := 69) dX12_stop_69 rfl rfl E
          · have E := (if_neg c7).symm.trans E
            refine ea_iload (pc := 46) dX12_stop_46 5 rfl ?_
            refine ea_if_eq (pc := 48) (tgt := 57) dX12_stop_48 rfl (fun c6 => ?_) (fun c6 => ?_)
            · have E := (if_pos c6).symm.trans E
              exact (kJ57 (x1 : Int32) (x2 : Int32) (x3 : Int32) (x4 : Int32) (x5 : Int32) w4.2 _ _ E hsw4)
            · have E := (if_neg c6).symm.trans E
              refine ea_iload_n (pc := 51) dX12_stop_51 rfl 3 rfl ?_
              refine ea_iload (pc := 52) dX12_stop_52 4 rfl ?_
              refine ea_icmp_ne (pc := 54) (tgt := 68) dX12_stop_54 rfl (fun c5 => ?_) (fun c5 => ?_)
              · have E := (if_neg c5).symm.trans E
                refine ea_iconst (pc := 68) dX12_stop_68 (v := (-1)) rfl ?_
                exact ea_iretO (pc := 69) dX12_stop_69 rfl rfl E
              · have E := (if_pos c5).symm.trans E
                exact (kJ57 (x1 : Int32) (x2 : Int32) (x3 : Int32) (x4 : Int32) (x5 : Int32) w4.2 _ _ E hsw4)
theorem kBX12_stop_0 {J57 : Int32 → Int32 → Int32 → Int32 → Int32 → ea_H → Option (Int32 × ea_H)}  (cJ57 : ∀ (x1 : Int32) (x2 : Int32) (x3 : Int32) (x4 : Int32) (x5 : Int32) (h : ea_H), kp (ea_core h) (J57 x1 x2 x3 x4 x5 h)) {x1 : Int32} {x2 : Int32} {x3 : Int32} {x4 : Int32} {x5 : Int32} {h : ea_H} : kp (ea_core h) (BX12_stop_0 J57 x1 x2 x3 x4 x5 h) :=
  (kp_bind (kp_tw (kpX12_isTrain _ _) rfl) fun w1 hcw1 => (kp_ite (kp_ret hcw1) (kp_ite (kp_ret hcw1) (kp_bind (kp_tw (kpX12_isTown _ _) hcw1) fun w2 hcw2 => (kp_ite (kp_ret hcw2) (kp_bind (kp_tw (kpX12_isIn _ _ _ _) hcw2) fun w3 hcw3 => (kp_ite (kp_ret hcw3) (kp_bind (kp_tw (kpX12_isIn _ _ _ _) hcw3) fun w4 hcw4 => (kp_ite (kp_ret hcw4) (kp_ite (kp_tw (cJ57 _ _ _ _ _ _) hcw4) (kp_ite (kp_tw (cJ57 _ _ _ _ _ _) hcw4) (kp_ret hcw4))))))))))))
theorem lBX12_stop_0 {J57 : Int32 → Int32 → Int32 → Int32 → Int32 → ea_H → Option (Int32 × ea_H)} {J57_ : Int32 → Int32 → Int32 → Int32 → Int32 → ea_H → Option (Int32 × ea_H)}  (mJ57 : ∀ (x1 : Int32) (x2 : Int32) (x3 : Int32) (x4 : Int32) (x5 : Int32) (h : ea_H), fle (J57 x1 x2 x3 x4 x5 h) (J57_ x1 x2 x3 x4 x5 h)) {x1 : Int32} {x2 : Int32} {x3 : Int32} {x4 : Int32} {x5 : Int32} {h : ea_H} : fle (BX12_stop_0 J57 x1 x2 x3 x4 x5 h) (BX12_stop_0 J57_ x1 x2 x3 x4 x5 h) :=
  (fle_bind (fle_rfl _) fun _ => (fle_ite (fle_rfl _) (fle_ite (fle_rfl _) (fle_bind (fle_rfl _) fun _ => (fle_ite (fle_rfl _) (fle_bind (fle_rfl _) fun _ => (fle_ite (fle_rfl _) (fle_bind (fle_rfl _) fun _ => (fle_ite (fle_rfl _) (fle_ite (mJ57 _ _ _ _ _ _) (fle_ite (mJ57 _ _ _ _ _ _) (fle_rfl _))))))))))))
theorem nBX12_stop_0 {J57 : Int32 → Int32 → Int32 → Int32 → Int32 → ea_H → Option (Int32 × ea_H)} {J57_ : Nat → (Int32 → Int32 → Int32 → Int32 → Int32 → ea_H → Option (Int32 × ea_H))}  (mJ57 : ∀ (x1 : Int32) (x2 : Int32) (x3 : Int32) (x4 : Int32) (x5 : Int32) (h : ea_H), fct (J57 x1 x2 x3 x4 x5 h) (fun f => J57_ f x1 x2 x3 x4 x5 h)) {x1 : Int32} {x2 : Int32} {x3 : Int32} {x4 : Int32} {x5 : Int32} {h : ea_H} : fct (BX12_stop_0 J57 x1 x2 x3 x4 x5 h) (fun f => BX12_stop_0 (J57_ f) x1 x2 x3 x4 x5 h) :=
  (fct_bind (fct_rfl _) fun _ => (fct_ite (fct_rfl _) (fct_ite (fct_rfl _) (fct_bind (fct_rfl _) fun _ => (fct_ite (fct_rfl _) (fct_bind (fct_rfl _) fun _ => (fct_ite (fct_rfl _) (fct_bind (fct_rfl _) fun _ => (fct_ite (fct_rfl _) (fct_ite (mJ57 _ _ _ _ _ _) (fct_ite (mJ57 _ _ _ _ _ _) (fct_rfl _))))))))))))
noncomputable def BX12_stop_57 (J120 : Int32 → Int32 → Int32 → Int32 → Int32 → Int32 → ea_H → Option (Int32 × ea_H)) (x1 : Int32) (x2 : Int32) (x3 : Int32) (x4 : Int32) (x5 : Int32) (h : ea_H) : Option (Int32 × ea_H) :=
  (gd (vp_in x1 10) (if (ea_i h 328 (Int32.toNatClampNeg x1)) = (8 : Int32) then (some (((-1) : Int32), h)) else (gd (vp_in x1 10) (ea_let (((8 : Int32) * x1) + (ea_i h 328 (Int32.toNatClampNeg x1))) fun (v14 : Int32) => (gd (vp_in x1 10) (if (ea_i h 328 (Int32.toNatClampNeg x1)) ≤ (0 : Int32) then (J120 (x1 : Int32) (x2 : Int32) (x3 : Int32) (x4 : Int32) (x5 : Int32) (v14 : Int32) h) else (gd (vp_in (v14 - (1 : Int32)) 80) (if (ea_i h 329 (Int32.toNatClampNeg (v14 - (1 : Int32)))) = x2 then (some (((-1) : Int32), h)) else (gd (vp_in (v14 - (1 : Int32)) 80) (if (ea_i h 331 (Int32.toNatClampNeg (v14 - (1 : Int32)))) < x3 then (J120 (x1 : Int32) (x2 : Int32) (x3 : Int32) (x4 : Int32) (x5 : Int32) (v14 : Int32) h) else (some (((-1) : Int32), h))))))))))))
theorem tBX12_stop_57 {d : Nat} {h0 : ea_H} (hd : 3 ≤ d) {J120 : Int32 → Int32 → Int32 → Int32 → Int32 → Int32 → ea_H → Option (Int32 × ea_H)}  (kJ120 : ∀ (x1 : Int32) (x2 : Int32) (x3 : Int32) (x4 : Int32) (x5 : Int32) (x6 : Int32) (h : ea_H) (r : Int32) (h' : ea_H), J120 x1 x2 x3 x4 x5 x6 h = some (r, h') → ShM h → ea_W mX12_stop d h0 (some (vI r)) h' 120 [(0, vR (some 326)), (1, vI x1), (2, vI x2), (3, vI x3), (4, vI x4), (5, vI x5), (6, vI x6)] [] h) {x1 : Int32} {x2 : Int32} {x3 : Int32} {x4 : Int32} {x5 : Int32} {h : ea_H} {r : Int32} {h' : ea_H} (E : BX12_stop_57 J120 x1 x2 x3 x4 x5 h = some (r, h')) (hs : ShM h) : ea_W mX12_stop d h0 (some (vI r)) h' 57 [(0, vR (some 326)), (1, vI x1), (2, vI x2), (3, vI x3), (4, vI x4), (5, vI x5)] [] h := by
  unfold BX12_stop_57 at E
  obtain ⟨z12, E⟩ := gd_some E
  refine ea_aload_n (pc := 57) dX12_stop_57 rfl 0 rfl ?_
  refine ea_getR (pc := 58) dX12_stop_58 ec_12 (k := 4) (Nat.le_of_ble_eq_true rfl) rfl (Or.inl ew_1406) (cShM_326 hs).1 (cShM_326 hs).2.1 (rShM_326_4 hs) ?_
  refine ea_iload_n (pc := 61) dX12_stop_61 rfl 1 rfl ?_
  refine ea_iald (pc := 62) dX12_stop_62 (cShM_328 hs).1 (cShM_328 hs).2.1 (ea_vpl (cShM_328 hs).2.2 z12) ?_
  refine ea_bipush (pc := 63) dX12_stop_63 (v := 8) rfl ?_
  refine ea_icmp_ne (pc := 65) (tgt := 70) dX12_stop_65 rfl (fun c21 => ?_) (fun c21 => ?_)
  · have E := (if_neg c21).symm.trans E
    obtain ⟨z13, E⟩ := gd_some E
    refine ea_bipush (pc := 70) dX12_stop_70 (v := 8) rfl ?_
    refine ea_iload_n (pc := 72) dX12_stop_72 rfl 1 rfl ?_
    refine ea_imul (pc := 73) dX12_stop_73 ?_
    refine ea_aload_n (pc := 74) dX12_stop_74 rfl 0 rfl ?_
    refine ea_getR (pc := 75) dX12_stop_75 ec_12 (k := 4) (Nat.le_of_ble_eq_true rfl) rfl (Or.inl ew_1406) (cShM_326 hs).1 (cShM_326 hs).2.1 (rShM_326_4 hs) ?_
    refine ea_iload_n (pc := 78) dX12_stop_78 rfl 1 rfl ?_
    obtain ⟨v14, ev14, E⟩ := let_some E
    refine ea_iald (pc := 79) dX12_stop_79 (cShM_328 hs).1 (cShM_328 hs).2.1 (ea_vpl (cShM_328 hs).2.2 z13) ?_
    refine ea_iadd (pc := 80) dX12_stop_80 ?_
    obtain ⟨z15, E⟩ := gd_some E
    refine ea_istore (pc := 81) (lv' := [(0, vR (some 326)), (1, vI x1), (2, vI x2), (3, vI x3), (4, vI x4), (5, vI x5), (6, vI v14)]) dX12_stop_81 (Nat.le_of_ble_eq_true rfl) [1, 2, 3, 4, 5, 6, 0] (by rw [ev14]; rfl) ?_
    refine ea_aload_n (pc := 83) dX12_stop_83 rfl 0 rfl ?_
    refine ea_getR (pc := 84) dX12_stop_84 ec_12 (k := 4) (Nat.le_of_ble_eq_true rfl) rfl (Or.inl ew_1406) (cShM_326 hs).1 (cShM_326 hs).2.1 (rShM_326_4 hs) ?_
    refine ea_iload_n (pc := 87) dX12_stop_87 rfl 1 rfl ?_
    refine ea_iald (pc := 88) dX12_stop_88 (cShM_328 hs).1 (cShM_328 hs).2.1 (ea_vpl (cShM_328 hs).2.2 z15) ?_
    refine ea_if_le (pc := 89) (tgt := 120) dX12_stop_89 rfl (fun c20 => ?_) (fun c20 => ?_)
    · have E := (if_pos c20).symm.trans E
      exact (kJ120 (x1 : Int32) (x2 : Int32) (x3 : Int32) (x4 : Int32) (x5 : Int32) (v14 : Int32) h _ _ E hs)
    · have E := (if_neg c20).symm.trans E
      obtain ⟨z16, E⟩ := gd_some E
      refine ea_aload_n (pc := 92) dX12_stop_92 rfl 0 rfl ?_
      refine ea_getR (pc := 93) dX12_stop_93 ec_12 (k := 5) (Nat.le_of_ble_eq_true rfl) rfl (Or.inl ew_1407) (cShM_326 hs).1 (cShM_326 hs).2.1 (rShM_326_5 hs) ?_
      refine ea_iload (pc := 96) dX12_stop_96 6 rfl ?_
      refine ea_iconst (pc := 98) dX12_stop_98 (v := 1) rfl ?_
      refine ea_isub (pc := 99) dX12_stop_99 ?_
      refine ea_iald (pc := 100) dX12_stop_100 (cShM_329 hs).1 (cShM_329 hs).2.1 (ea_vpl (cShM_329 hs).2.2 z16) ?_
      refine ea_iload_n (pc := 101) dX12_stop_101 rfl 2 rfl ?_
      refine ea_icmp_eq (pc := 102) (tgt := 118) dX12_stop_102 rfl (fun c19 => ?_) (fun c19 => ?_)
      · have E := (if_pos c19).symm.trans E
        refine ea_iconst (pc := 118) dX12_stop_118 (v := (-1)) rfl ?_
        exact ea_iretO (pc := 119) dX12_stop_119 rfl rfl E
      · have E := (if_neg c19).symm.trans E
        obtain ⟨z17, E⟩ := gd_some E
        refine ea_iload_n (pc := 105) dX12_stop_105 rfl 3 rfl ?_
        refine ea_aload_n (pc := 106) dX12_stop_106 rfl 0 rfl ?_
        refine ea_getR (pc := 107) dX12_stop_107 ec_12 (k := 7) (Nat.le_of_ble_eq_true rfl) rfl (Or.inl ew_1409) (cShM_326 hs).1 (cShM_326 hs).2.1 (rShM_326_7 hs) ?_
        refine ea_iload (pc := 110) dX12_stop_110 6 rfl ?_
        refine ea_iconst (pc := 112) dX12_stop_112 (v := 1) rfl ?_
        refine ea_isub (pc := 113) dX12_stop_113 ?_
        refine ea_iald (pc := 114) dX12_stop_114 (cShM_331 hs).1 (cShM_331 hs).2.1 (ea_vpl (cShM_331 hs).2.2 z17) ?_
        refine ea_icmp_gt (pc := 115) (tgt := 120) dX12_stop_115 rfl (fun c18 => ?_) (fun c18 => ?_)
        · have E := (if_pos c18).symm.trans E
          exact (kJ120 (x1 : Int32) (x2 : Int32) (x3 : Int32) (x4 : Int32) (x5 : Int32) (v14 : Int32) h _ _ E hs)
        · have E := (if_neg c18).symm.trans E
          refine ea_iconst (pc := 118) dX12_stop_118 (v := (-1)) rfl ?_
          exact ea_iretO (pc := 119) dX12_stop_119 rfl rfl E
  · have E := (if_pos c21).symm.trans E
    refine ea_iconst (pc := 68) dX12_stop_68 (v := (-1)) rfl ?_
    exact ea_iretO (pc := 69) dX12_stop_69 rfl rfl E
theorem kBX12_stop_57 {J120 : Int32 → Int32 → Int32 → Int32 → Int32 → Int32 → ea_H → Option (Int32 × ea_H)}  (cJ120 : ∀ (x1 : Int32) (x2 : Int32) (x3 : Int32) (x4 : Int32) (x5 : Int32) (x6 : Int32) (h : ea_H), kp (ea_core h) (J120 x1 x2 x3 x4 x5 x6 h)) {x1 : Int32} {x2 : Int32} {x3 : Int32} {x4 : Int32} {x5 : Int32} {h : ea_H} : kp (ea_core h) (BX12_stop_57 J120 x1 x2 x3 x4 x5 h) :=
  (kp_gd (kp_ite (kp_ret rfl) (kp_gd (kp_let (kp_gd (kp_ite (kp_tw (cJ120 _ _ _ _ _ _ _) rfl) (kp_gd (kp_ite (kp_ret rfl) (kp_gd (kp_ite (kp_tw (cJ120 _ _ _ _ _ _ _) rfl) (kp_ret rfl)))))))))))
theorem lBX12_stop_57 {J120 : Int32 → Int32 → Int32 → Int32 → Int32 → Int32 → ea_H → Option (Int32 × ea_H)} {J120_ : Int32 → Int32 → Int32 → Int32 → Int32 → Int32 → ea_H → Option (Int32 × ea_H)}  (mJ120 : ∀ (x1 : Int32) (x2 : Int32) (x3 : Int32) (x4 : Int32) (x5 : Int32) (x6 : Int32) (h : ea_H), fle (J120 x1 x2 x3 x4 x5 x6 h) (J120_ x1 x2 x3 x4 x5 x6 h)) {x1 : Int32} {x2 : Int32} {x3 : Int32} {x4 : Int32} {x5 : Int32} {h : ea_H} : fle (BX12_stop_57 J120 x1 x2 x3 x4 x5 h) (BX12_stop_57 J120_ x1 x2 x3 x4 x5 h) :=
  (fle_gd (fle_ite (fle_rfl _) (fle_gd (fle_let fun _ => (fle_gd (fle_ite (mJ120 _ _ _ _ _ _ _) (fle_gd (fle_ite (fle_rfl _) (fle_gd (fle_ite (mJ120 _ _ _ _ _ _ _) (fle_rfl _)))))))))))
theorem nBX12_stop_57 {J120 : Int32 → Int32 → Int32 → Int32 → Int32 → Int32 → ea_H → Option (Int32 × ea_H)} {J120_ : Nat → (Int32 → Int32 → Int32 → Int32 → Int32 → Int32 → ea_H → Option (Int32 × ea_H))}  (mJ120 : ∀ (x1 : Int32) (x2 : Int32) (x3 : Int32) (x4 : Int32) (x5 : Int32) (x6 : Int32) (h : ea_H), fct (J120 x1 x2 x3 x4 x5 x6 h) (fun f => J120_ f x1 x2 x3 x4 x5 x6 h)) {x1 : Int32} {x2 : Int32} {x3 : Int32} {x4 : Int32} {x5 : Int32} {h : ea_H} : fct (BX12_stop_57 J120 x1 x2 x3 x4 x5 h) (fun f => BX12_stop_57 (J120_ f) x1 x2 x3 x4 x5 h) :=
  (fct_gd (fct_ite (fct_rfl _) (fct_gd (fct_let fun _ => (fct_gd (fct_ite (mJ120 _ _ _ _ _ _ _) (fct_gd (fct_ite (fct_rfl _) (fct_gd (fct_ite (mJ120 _ _ _ _ _ _ _) (fct_rfl _)))))))))))
noncomputable def BX12_stop_120 (x1 : Int32) (x2 : Int32) (x3 : Int32) (x4 : Int32) (x5 : Int32) (x6 : Int32) (h : ea_H) : Option (Int32 × ea_H) :=
  (gd (vp_in x6 80) (ea_let (ea_wi h 329 (Int32.toNatClampNeg x6) x2) fun H23 => (gd (vp_in x6 80) (ea_let (ea_wi H23 330 (Int32.toNatClampNeg x6) x3) fun H25 => (gd (vp_in x6 80) (ea_let (ea_wi H25 331 (Int32.toNatClampNeg x6) x4) fun H27 => (gd (vp_in x6 80) (gd ((x5 = 0 ∨ x5 = 1)) (ea_let (ea_wi H27 333 (Int32.toNatClampNeg x6) x5) fun H30 => (gd (vp_in x1 10) (gd (vp_in x1 10) (ea_let (ea_wi H30 328 (Int32.toNatClampNeg x1) ((ea_i H30 328 (Int32.toNatClampNeg x1)) + (1 : Int32))) fun H33 => (ea_let (ea_wi H33 326 12 0) fun H34 => (gd (vp_in x1 10) (some (((ea_i H34 328 (Int32.toNatClampNeg x1)) - (1 : Int32)), H34))))))))))))))))
theorem tBX12_stop_120 {d : Nat} {h0 : ea_H} (hd : 3 ≤ d)  {x1 : Int32} {x2 : Int32} {x3 : Int32} {x4 : Int32} {x5 : Int32} {x6 : Int32} {h : ea_H} {r : Int32} {h' : ea_H} (E : BX12_stop_120 x1 x2 x3 x4 x5 x6 h = some (r, h')) (hs : ShM h) : ea_W mX12_stop d h0 (some (vI r)) h' 120 [(0, vR (some 326)), (1, vI x1), (2, vI x2), (3, vI x3), (4, vI x4), (5, vI x5), (6, vI x6)] [] h := by
  unfold BX12_stop_120 at E
  obtain ⟨z22, E⟩ := gd_some E
  refine ea_aload_n (pc := 120) dX12_stop_120 rfl 0 rfl ?_
  refine ea_getR (pc := 121) dX12_stop_121 ec_12 (k := 5) (Nat.le_of_ble_eq_true rfl) rfl (Or.inl ew_1407) (cShM_326 hs).1 (cShM_326 hs).2.1 (rShM_326_5 hs) ?_
  refine ea_iload (pc := 124) dX12_stop_124 6 rfl ?_
  refine ea_iload_n (pc := 126) dX12_stop_126 rfl 2 rfl ?_
  obtain ⟨H23, eH23, E⟩ := let_some E
  refine ea_iast (pc := 127) dX12_stop_127 (cShM_329 hs).1 (cShM_329 hs).2.1 (ea_vpl (cShM_329 hs).2.2 z22) ?_
  refine ea_nm eH23 ?_
  have hsH23 : ShM H23 := by rw [eH23]; exact hs
  obtain ⟨z24, E⟩ := gd_some E
  refine ea_aload_n (pc := 128) dX12_stop_128 rfl 0 rfl ?_
  refine ea_getR (pc := 129) dX12_stop_129 ec_12 (k := 6) (Nat.le_of_ble_eq_true rfl) rfl (Or.inl ew_1408) (cShM_326 hsH23).1 (cShM_326 hsH23).2.1 (rShM_326_6 hsH23) ?_
  refine ea_iload (pc := 132) dX12_stop_132 6 rfl ?_
  refine ea_iload_n (pc := 134) dX12_stop_134 rfl 3 rfl ?_
  obtain ⟨H25, eH25, E⟩ := let_some E
  refine ea_iast (pc := 135) dX12_stop_135 (cShM_330 hsH23).1 (cShM_330 hsH23).2.1 (ea_vpl (cShM_330 hsH23).2.2 z24) ?_
  refine ea_nm eH25 ?_
  have hsH25 : ShM H25 := by rw [eH25]; exact hsH23
  obtain ⟨z26, E⟩ := gd_some E
  refine ea_aload_n (pc := 136) dX12_stop_136 rfl 0 rfl ?_
  refine ea_getR (pc := 137) dX12_stop_137 ec_12 (k := 7) (Nat.le_of_ble_eq_true rfl) rfl (Or.inl ew_1409) (cShM_326 hsH25).1 (cShM_326 hsH25).2.1 (rShM_326_7 hsH25) ?_
  refine ea_iload (pc := 140) dX12_stop_140 6 rfl ?_
  refine ea_iload (pc := 142) dX12_stop_142 4 rfl ?_
  obtain ⟨H27, eH27, E⟩ := let_some E
  refine ea_iast (pc := 144) dX12_stop_144 (cShM_331 hsH25).1 (cShM_331 hsH25).2.1 (ea_vpl (cShM_331 hsH25).2.2 z26) ?_
  refine ea_nm eH27 ?_
  have hsH27 : ShM H27 := by rw [eH27]; exact hsH25
  obtain ⟨z28, E⟩ := gd_some E
  refine ea_aload_n (pc := 145) dX12_stop_145 rfl 0 rfl ?_
  refine ea_getR (pc := 146) dX12_stop_146 ec_12 (k := 9) (Nat.le_of_ble_eq_true rfl) rfl (Or.inl ew_1411) (cShM_326 hsH27).1 (cShM_326 hsH27).2.1 (rShM_326_9 hsH27) ?_
  refine ea_iload (pc := 149) dX12_stop_149 6 rfl ?_
  refine ea_iload (pc := 151) dX12_stop_151 5 rfl ?_
  obtain ⟨z29, E⟩ := gd_some E
  obtain ⟨H30, eH30, E⟩ := let_some E
  refine ea_zast (pc := 153) dX12_stop_153 (y := x5) (ea_bn z29) (cShM_333 hsH27).1 (cShM_333 hsH27).2.1 (ea_vpl (cShM_333 hsH27).2.2 z28) ?_
  refine ea_nm eH30 ?_
  have hsH30 : ShM H30 := by rw [eH30]; exact hsH27
  obtain ⟨z31, E⟩ := gd_some E
  refine ea_aload_n (pc := 154) dX12_stop_154 rfl 0 rfl ?_
  refine ea_getR (pc := 155) dX12_stop_155 ec_12 (k := 4) (Nat.le_of_ble_eq_true rfl) rfl (Or.inl ew_1406) (cShM_326 hsH30).1 (cShM_326 hsH30).2.1 (rShM_326_4 hsH30) ?_
  refine ea_iload_n (pc := 158) dX12_stop_158 rfl 1 rfl ?_
  refine ea_dup2 (pc := 159) dX12_stop_159 rfl rfl ?_
  obtain ⟨z32, E⟩ := gd_some E
  refine ea_iald (pc := 160) dX12_stop_160 (cShM_328 hsH30).1 (cShM_328 hsH30).2.1 (ea_vpl (cShM_328 hsH30).2.2 z31) ?_
  refine ea_iconst (pc := 161) dX12_stop_161 (v := 1) rfl ?_
  refine ea_iadd (pc := 162) dX12_stop_162 ?_
  obtain ⟨H33, eH33, E⟩ := let_some E
  refine ea_iast (pc := 163) dX12_stop_163 (cShM_328 hsH30).1 (cShM_328 hsH30).2.1 (ea_vpl (cShM_328 hsH30).2.2 z32) ?_
  refine ea_nm eH33 ?_
  have hsH33 : ShM H33 := by rw [eH33]; exact hsH30
  obtain ⟨H34, eH34, E⟩ := let_some E
  refine ea_aload_n (pc := 164) dX12_stop_164 rfl 0 rfl ?_
  refine ea_iconst (pc := 165) dX12_stop_165 (v := 0) rfl ?_
  refine ea_putI (pc := 166) dX12_stop_166 ec_12 (k := 12) (Nat.le_of_ble_eq_true rfl) rfl (Or.inl ⟨rfl, Or.inl ew_1414⟩) (ea_bn (Or.inl rfl)) (ea_bf (Or.inl rfl)) (cShM_326 hsH33).1 (cShM_326 hsH33).2.1 ?_
  refine ea_nm eH34 ?_
  have hsH34 : ShM H34 := by rw [eH34]; exact hsH33
  obtain ⟨z35, E⟩ := gd_some E
  refine ea_aload_n (pc := 169) dX12_stop_169 rfl 0 rfl ?_
  refine ea_getR (pc := 170) dX12_stop_170 ec_12 (k := 4) (Nat.le_of_ble_eq_true rfl) rfl (Or.inl ew_1406) (cShM_326 hsH34).1 (cShM_326 hsH34).2.1 (rShM_326_4 hsH34) ?_
  refine ea_iload_n (pc := 173) dX12_stop_173 rfl 1 rfl ?_
  refine ea_iald (pc := 174) dX12_stop_174 (cShM_328 hsH34).1 (cShM_328 hsH34).2.1 (ea_vpl (cShM_328 hsH34).2.2 z35) ?_
  refine ea_iconst (pc := 175) dX12_stop_175 (v := 1) rfl ?_
  refine ea_isub (pc := 176) dX12_stop_176 ?_
  exact ea_iretO (pc := 177) dX12_stop_177 rfl rfl E
theorem kBX12_stop_120  {x1 : Int32} {x2 : Int32} {x3 : Int32} {x4 : Int32} {x5 : Int32} {x6 : Int32} {h : ea_H} : kp (ea_core h) (BX12_stop_120 x1 x2 x3 x4 x5 x6 h) :=
  (kp_gd (kp_let (kp_gd (kp_let (kp_gd (kp_let (kp_gd (kp_gd (kp_let (kp_gd (kp_gd (kp_let (kp_let (kp_gd (kp_ret rfl)))))))))))))))
theorem lBX12_stop_120  {x1 : Int32} {x2 : Int32} {x3 : Int32} {x4 : Int32} {x5 : Int32} {x6 : Int32} {h : ea_H} : fle (BX12_stop_120 x1 x2 x3 x4 x5 x6 h) (BX12_stop_120 x1 x2 x3 x4 x5 x6 h) :=
  (fle_rfl _)
theorem nBX12_stop_120  {x1 : Int32} {x2 : Int32} {x3 : Int32} {x4 : Int32} {x5 : Int32} {x6 : Int32} {h : ea_H} : fct (BX12_stop_120 x1 x2 x3 x4 x5 x6 h) (fun f => BX12_stop_120 x1 x2 x3 x4 x5 x6 h) :=
  (fct_rfl _)
noncomputable def gX12_stop : Nat → (Int32 → Int32 → Int32 → Int32 → Int32 → ea_H → Option (Int32 × ea_H)) × (Int32 → Int32 → Int32 → Int32 → Int32 → ea_H → Option (Int32 × ea_H)) × (Int32 → Int32 → Int32 → Int32 → Int32 → Int32 → ea_H → Option (Int32 × ea_H))
  | 0 => (fun _ _ _ _ _ _ => none, fun _ _ _ _ _ _ => none, fun _ _ _ _ _ _ _ => none)
  | f + 1 => (BX12_stop_0 (gX12_stop f).2.1, BX12_stop_57 (gX12_stop f).2.2, BX12_stop_120)
theorem mgX12_stop : ∀ f : Nat, (∀ (x1 : Int32) (x2 : Int32) (x3 : Int32) (x4 : Int32) (x5 : Int32) (h : ea_H), fle ((gX12_stop f).1 x1 x2 x3 x4 x5 h) ((gX12_stop (f + 1)).1 x1 x2 x3 x4 x5 h)) ∧ (∀ (x1 : Int32) (x2 : Int32) (x3 : Int32) (x4 : Int32) (x5 : Int32) (h : ea_H), fle ((gX12_stop f).2.1 x1 x2 x3 x4 x5 h) ((gX12_stop (f + 1)).2.1 x1 x2 x3 x4 x5 h)) ∧ (∀ (x1 : Int32) (x2 : Int32) (x3 : Int32) (x4 : Int32) (x5 : Int32) (x6 : Int32) (h : ea_H), fle ((gX12_stop f).2.2 x1 x2 x3 x4 x5 x6 h) ((gX12_stop (f + 1)).2.2 x1 x2 x3 x4 x5 x6 h)) := by
  intro f
  induction f with
  | zero => exact ⟨fun _ _ _ _ _ _ => fle_none _, fun _ _ _ _ _ _ => fle_none _, fun _ _ _ _ _ _ _ => fle_none _⟩
  | succ f ih => exact ⟨fun _ _ _ _ _ _ => lBX12_stop_0 ih.2.1, fun _ _ _ _ _ _ => lBX12_stop_57 ih.2.2, fun _ _ _ _ _ _ _ => lBX12_stop_120⟩
noncomputable def qX12_stop_0 (x1 : Int32) (x2 : Int32) (x3 : Int32) (x4 : Int32) (x5 : Int32) (h : ea_H) : Option (Int32 × ea_H) := flim fun f => (gX12_stop f).1 x1 x2 x3 x4 x5 h
noncomputable def qX12_stop_57 (x1 : Int32) (x2 : Int32) (x3 : Int32) (x4 : Int32) (x5 : Int32) (h : ea_H) : Option (Int32 × ea_H) := flim fun f => (gX12_stop f).2.1 x1 x2 x3 x4 x5 h
noncomputable def qX12_stop_120 (x1 : Int32) (x2 : Int32) (x3 : Int32) (x4 : Int32) (x5 : Int32) (x6 : Int32) (h : ea_H) : Option (Int32 × ea_H) := flim fun f => (gX12_stop f).2.2 x1 x2 x3 x4 x5 x6 h
theorem fqX12_stop_0 (x1 : Int32) (x2 : Int32) (x3 : Int32) (x4 : Int32) (x5 : Int32) (h : ea_H) : fct (qX12_stop_0 x1 x2 x3 x4 x5 h) fun f => (gX12_stop f).1 x1 x2 x3 x4 x5 h := flim_ct fun f => (mgX12_stop f).1 x1 x2 x3 x4 x5 h
theorem fqX12_stop_57 (x1 : Int32) (x2 : Int32) (x3 : Int32) (x4 : Int32) (x5 : Int32) (h : ea_H) : fct (qX12_stop_57 x1 x2 x3 x4 x5 h) fun f => (gX12_stop f).2.1 x1 x2 x3 x4 x5 h := flim_ct fun f => (mgX12_stop f).2.1 x1 x2 x3 x4 x5 h
theorem fqX12_stop_120 (x1 : Int32) (x2 : Int32) (x3 : Int32) (x4 : Int32) (x5 : Int32) (x6 : Int32) (h : ea_H) : fct (qX12_stop_120 x1 x2 x3 x4 x5 x6 h) fun f => (gX12_stop f).2.2 x1 x2 x3 x4 x5 x6 h := flim_ct fun f => (mgX12_stop f).2.2 x1 x2 x3 x4 x5 x6 h
/-- how a block opens -/
theorem uqX12_stop_0 {x1 : Int32} {x2 : Int32} {x3 : Int32} {x4 : Int32} {x5 : Int32} {h : ea_H} {P : Int32 × ea_H → Prop} (H : sat (BX12_stop_0 qX12_stop_57 x1 x2 x3 x4 x5 h) P) : sat (qX12_stop_0 x1 x2 x3 x4 x5 h) P := by
  obtain ⟨x, e, hp⟩ := H
  obtain ⟨n, hn⟩ := nBX12_stop_0 fqX12_stop_57 x e
  exact ⟨x, flim_at (fun f => (mgX12_stop f).1 x1 x2 x3 x4 x5 h) (f := n + 1) (hn n (Nat.le_refl _)), hp⟩
/-- how a block opens -/
theorem uqX12_stop_57 {x1 : Int32} {x2 : Int32} {x3 : Int32} {x4 : Int32} {x5 : Int32} {h : ea_H} {P : Int32 × ea_H → Prop} (H : sat (BX12_stop_57 qX12_stop_120 x1 x2 x3 x4 x5 h) P) : sat (qX12_stop_57 x1 x2 x3 x4 x5 h) P := by
  obtain ⟨x, e, hp⟩ := H
  obtain ⟨n, hn⟩ := nBX12_stop_57 fqX12_stop_120 x e
  exact ⟨x, flim_at (fun f => (mgX12_stop f).2.1 x1 x2 x3 x4 x5 h) (f := n + 1) (hn n (Nat.le_refl _)), hp⟩
/-- how a block opens -/
theorem uqX12_stop_120 {x1 : Int32} {x2 : Int32} {x3 : Int32} {x4 : Int32} {x5 : Int32} {x6 : Int32} {h : ea_H} {P : Int32 × ea_H → Prop} (H : sat (BX12_stop_120 x1 x2 x3 x4 x5 x6 h) P) : sat (qX12_stop_120 x1 x2 x3 x4 x5 x6 h) P := by
  obtain ⟨x, e, hp⟩ := H
  obtain ⟨n, hn⟩ := nBX12_stop_120 x e
  exact ⟨x, flim_at (fun f => (mgX12_stop f).2.2 x1 x2 x3 x4 x5 x6 h) (f := n + 1) (hn n (Nat.le_refl _)), hp⟩
theorem kgX12_stop : ∀ f : Nat, (∀ (x1 : Int32) (x2 : Int32) (x3 : Int32) (x4 : Int32) (x5 : Int32) (h : ea_H), kp (ea_core h) ((gX12_stop f).1 x1 x2 x3 x4 x5 h)) ∧ (∀ (x1 : Int32) (x2 : Int32) (x3 : Int32) (x4 : Int32) (x5 : Int32) (h : ea_H), kp (ea_core h) ((gX12_stop f).2.1 x1 x2 x3 x4 x5 h)) ∧ (∀ (x1 : Int32) (x2 : Int32) (x3 : Int32) (x4 : Int32) (x5 : Int32) (x6 : Int32) (h : ea_H), kp (ea_core h) ((gX12_stop f).2.2 x1 x2 x3 x4 x5 x6 h)) := by
  intro f
  induction f with
  | zero => exact ⟨fun _ _ _ _ _ _ => kp_none _, fun _ _ _ _ _ _ => kp_none _, fun _ _ _ _ _ _ _ => kp_none _⟩
  | succ f ih => exact ⟨fun _ _ _ _ _ _ => kBX12_stop_0 ih.2.1, fun _ _ _ _ _ _ => kBX12_stop_57 ih.2.2, fun _ _ _ _ _ _ _ => kBX12_stop_120⟩
theorem tgX12_stop {d : Nat} {h0 : ea_H} (hd : 3 ≤ d) : ∀ f : Nat, (∀ (x1 : Int32) (x2 : Int32) (x3 : Int32) (x4 : Int32) (x5 : Int32) (h : ea_H) (r : Int32) (h' : ea_H), (gX12_stop f).1 x1 x2 x3 x4 x5 h = some (r, h') → ShM h → ea_W mX12_stop d h0 (some (vI r)) h' 0 [(0, vR (some 326)), (1, vI x1), (2, vI x2), (3, vI x3), (4, vI x4), (5, vI x5)] [] h) ∧ (∀ (x1 : Int32) (x2 : Int32) (x3 : Int32) (x4 : Int32) (x5 : Int32) (h : ea_H) (r : Int32) (h' : ea_H), (gX12_stop f).2.1 x1 x2 x3 x4 x5 h = some (r, h') → ShM h → ea_W mX12_stop d h0 (some (vI r)) h' 57 [(0, vR (some 326)), (1, vI x1), (2, vI x2), (3, vI x3), (4, vI x4), (5, vI x5)] [] h) ∧ (∀ (x1 : Int32) (x2 : Int32) (x3 : Int32) (x4 : Int32) (x5 : Int32) (x6 : Int32) (h : ea_H) (r : Int32) (h' : ea_H), (gX12_stop f).2.2 x1 x2 x3 x4 x5 x6 h = some (r, h') → ShM h → ea_W mX12_stop d h0 (some (vI r)) h' 120 [(0, vR (some 326)), (1, vI x1), (2, vI x2), (3, vI x3), (4, vI x4), (5, vI x5), (6, vI x6)] [] h) := by
  intro f
  induction f with
  | zero => exact ⟨fun _ _ _ _ _ _ _ _ E => no_some E, fun _ _ _ _ _ _ _ _ E => no_some E, fun _ _ _ _ _ _ _ _ _ E => no_some E⟩
  | succ f ih => exact ⟨fun _ _ _ _ _ _ _ _ E hs => tBX12_stop_0 hd ih.2.1 E hs, fun _ _ _ _ _ _ _ _ E hs => tBX12_stop_57 hd ih.2.2 E hs, fun _ _ _ _ _ _ _ _ _ E hs => tBX12_stop_120 hd E hs⟩
noncomputable def qX12_stop (x1 : Int32) (x2 : Int32) (x3 : Int32) (x4 : Int32) (x5 : Int32) (h : ea_H) : Option (Int32 × ea_H) := qX12_stop_0 x1 x2 x3 x4 x5 h
theorem sX12_stop {d : Nat} {x1 : Int32} {x2 : Int32} {x3 : Int32} {x4 : Int32} {x5 : Int32} {h : ea_H} {r : Int32} {h' : ea_H} (hd : 3 ≤ d) (hs : ShM h) (K : qX12_stop x1 x2 x3 x4 x5 h = some (r, h')) : ea_Met mX12_stop d [vR (some 326), vI x1, vI x2, vI x3, vI x4, vI x5] h (some (vI r)) h' := by
  unfold qX12_stop at K
  obtain ⟨n, hn⟩ := fqX12_stop_0 x1 x2 x3 x4 x5 h _ K
  have W := (tgX12_stop (d := d) (h0 := h) hd n).1 x1 x2 x3 x4 x5 h _ _ (hn n (Nat.le_refl _)) hs
  exact ea_enter rfl (Nat.le_of_ble_eq_true rfl) W
theorem kpX12_stop (x1 : Int32) (x2 : Int32) (x3 : Int32) (x4 : Int32) (x5 : Int32) (h : ea_H) : kp (ea_core h) (qX12_stop x1 x2 x3 x4 x5 h) := fun x e => by
  obtain ⟨n, hn⟩ := fqX12_stop_0 x1 x2 x3 x4 x5 h x e
  exact (kgX12_stop n).1 x1 x2 x3 x4 x5 h x (hn n (Nat.le_refl _))
noncomputable def BX12_stopOf_0 (x1 : Int32) (x2 : Int32) (x3 : Int32) (h : ea_H) : Option (Int32 × ea_H) :=
  (Option.bind (qX12_isTrain (x1 : Int32) h) fun w1 => (if w1.1 = (0 : Int32) then (some (((-1) : Int32), w1.2)) else (if x2 = ((-1) : Int32) then (if x3 = (0 : Int32) then (gd (vp_in x1 10) (some ((ea_i w1.2 328 (Int32.toNatClampNeg x1)), w1.2))) else (some (((-1) : Int32), w1.2))) else (gd (vp_in x1 10) (Option.bind (qX12_isIn (x2 : Int32) (0 : Int32) (((ea_i w1.2 328 (Int32.toNatClampNeg x1)) - (1 : Int32)) : Int32) w1.2) fun w3 => (if w3.1 = (0 : Int32) then (some (((-1) : Int32), w3.2)) else (ea_let (((8 : Int32) * x1) + x2) fun (v4 : Int32) => (if x3 = (0 : Int32) then (gd (vp_in v4 80) (some ((ea_i w3.2 329 (Int32.toNatClampNeg v4)), w3.2))) else (if x3 = (1 : Int32) then (gd (vp_in v4 80) (some ((ea_i w3.2 330 (Int32.toNatClampNeg v4)), w3.2))) else (if x3 = (2 : Int32) then (gd (vp_in v4 80) (some ((ea_i w3.2 331 (Int32.toNatClampNeg v4)), w3.2))) else (if x3 = (3 : Int32) then (gd (vp_in v4 80) (if (ea_i w3.2 333 (Int32.toNatClampNeg v4)) = (0 : Int32) then (some ((0 : Int32), w3.2)) else (some ((1 : Int32), w3.2)))) else (some (((-1) : Int32), w3.2)))))))))))))
theorem tBX12_stopOf_0 {d : Nat} {h0 : ea_H} (hd : 3 ≤ d)  {x1 : Int32} {x2 : Int32} {x3 : Int32} {h : ea_H} {r : Int32} {h' : ea_H} (E : BX12_stopOf_0 x1 x2 x3 h = some (r, h')) (hs : ShM h) : ea_W mX12_stopOf d h0 (some (vI r)) h' 0 [(0, vR (some 326)), (1, vI x1), (2, vI x2), (3, vI x3)] [] h := by
  unfold BX12_stopOf_0 at E
  obtain ⟨w1, Ew1, E⟩ := bd_some E
  have hsw1 : ShM w1.2 := ShM_core ((kpX12_isTrain _ _) _ Ew1) hs
  refine ea_aload_n (pc := 0) dX12_stopOf_0 rfl 0 rfl ?_
  refine ea_iload_n (pc := 1) dX12_stopOf_1 rfl 1 rfl ?_
  refine ea_callV (pc := 2) (d' := d - 1) (As := [vI x1]) (st := []) dX12_stopOf_2 kX12_isTrain (sX12_isTrain (d := d - 1) (by omega) hs Ew1) (by omega) rfl (Nat.le_of_ble_eq_true rfl) ew_1793 ew_1795 ew_57 (ci := 12) rfl (by decide) (cShM_326 hs).1 (cShM_326 hs).2.1 ?_
  refine ea_if_ne (pc := 5) (tgt := 10) dX12_stopOf_5 rfl (fun c18 => ?_) (fun c18 => ?_)
  · have E := (if_neg c18).symm.trans E
    refine ea_iload_n (pc := 10) dX12_stopOf_10 rfl 2 rfl ?_
    refine ea_iconst (pc := 11) dX12_stopOf_11 (v := (-1)) rfl ?_
    refine ea_icmp_ne (pc := 12) (tgt := 30) dX12_stopOf_12 rfl (fun c17 => ?_) (fun c17 => ?_)
    · have E := (if_neg c17).symm.trans E
      obtain ⟨z2, E⟩ := gd_some E
      refine ea_iload_n (pc := 30) dX12_stopOf_30 rfl 2 rfl ?_
      refine ea_iconst (pc := 31) dX12_stopOf_31 (v := 0) rfl ?_
      refine ea_aload_n (pc := 32) dX12_stopOf_32 rfl 0 rfl ?_
      refine ea_getR (pc := 33) dX12_stopOf_33 ec_12 (k := 4) (Nat.le_of_ble_eq_true rfl) rfl (Or.inl ew_1406) (cShM_326 hsw1).1 (cShM_326 hsw1).2.1 (rShM_326_4 hsw1) ?_
      refine ea_iload_n (pc := 36) dX12_stopOf_36 rfl 1 rfl ?_
      obtain ⟨w3, Ew3, E⟩ := bd_some E
      have hsw3 : ShM w3.2 := ShM_core ((kpX12_isIn _ _ _ _) _ Ew3) hsw1
      refine ea_iald (pc := 37) dX12_stopOf_37 (cShM_328 hsw1).1 (cShM_328 hsw1).2.1 (ea_vpl (cShM_328 hsw1).2.2 z2) ?_
      refine ea_iconst (pc := 38) dX12_stopOf_38 (v := 1) rfl ?_
      refine ea_isub (pc := 39) dX12_stopOf_39 ?_
      refine ea_callS (pc := 40) (d' := d - 1) (As := [vI x2, vI 0, vI ((ea_i w1.2 328 (Int32.toNatClampNeg x1)) - (1 : Int32))]) (st := []) dX12_stopOf_40 kX12_isIn (sX12_isIn (d := d - 1) (by omega) Ew3) (by omega) rfl (Nat.le_of_ble_eq_true rfl) ew_1769 ew_1770 ?_
      refine ea_if_ne (pc := 43) (tgt := 48) dX12_stopOf_43 rfl (fun c14 => ?_) (fun c14 => ?_)
      · have E := (if_neg c14).symm.trans E
        obtain ⟨v4, ev4, E⟩ := let_some E
        refine ea_bipush (pc := 48) dX12_stopOf_48 (v := 8) rfl ?_
        refine ea_iload_n (pc := 50) dX12_stopOf_50 rfl 1 rfl ?_
        refine ea_imul (pc := 51) dX12_stopOf_51 ?_
        refine ea_iload_n (pc := 52) dX12_stopOf_52 rfl 2 rfl ?_
        refine ea_iadd (pc := 53) dX12_stopOf_53 ?_
        refine ea_istore (pc := 54) (lv' := [(0, vR (some 326)), (3, vI x3), (4, vI v4)]) dX12_stopOf_54 (Nat.le_of_ble_eq_true rfl) [1, 4, 0] (by rw [ev4]; rfl) ?_
        refine ea_iload_n (pc := 56) dX12_stopOf_56 rfl 1 rfl ?_
        refine ea_if_ne (pc := 57) (tgt := 70) dX12_stopOf_57 rfl (fun c13 => ?_) (fun c13 => ?_)
        · have E := (if_neg c13).symm.trans E
          refine ea_iload_n (pc := 70) dX12_stopOf_70 rfl 1 rfl ?_
          refine ea_iconst (pc := 71) dX12_stopOf_71 (v := 1) rfl ?_
          refine ea_icmp_ne (pc := 72) (tgt := 85) dX12_stopOf_72 rfl (fun c11 => ?_) (fun c11 => ?_)
          · have E := (if_neg c11).symm.trans E
            refine ea_iload_n (pc := 85) dX12_stopOf_85 rfl 1 rfl ?_
            refine ea_iconst (pc := 86) dX12_stopOf_86 (v := 2) rfl ?_
            refine ea_icmp_ne (pc := 87) (tgt := 100) dX12_stopOf_87 rfl (fun c9 => ?_) (fun c9 => ?_)
            · have E := (if_neg c9).symm.trans E
              refine ea_iload_n (pc := 100) dX12_stopOf_100 rfl 1 rfl ?_
              refine ea_iconst (pc := 101) dX12_stopOf_101 (v := 3) rfl ?_
              refine ea_icmp_ne (pc := 102) (tgt := 123) dX12_stopOf_102 rfl (fun c7 => ?_) (fun c7 => ?_)
              · have E := (if_neg c7).symm.trans E
                refine ea_iconst (pc := 123) dX12_stopOf_123 (v := (-1)) rfl ?_
                exact ea_iretO (pc := 124) dX12_stopOf_124 rfl rfl E
              · have E := (if_pos c7).symm.trans E
                obtain ⟨z5, E⟩ := gd_some E
                refine ea_aload_n (pc := 105) dX12_stopOf_105 rfl 0 rfl ?_
                refine ea_getR (pc := 106) dX12_stopOf_106 ec_12 (k := 9) (Nat.le_of_ble_eq_true rfl) rfl (Or.inl ew_1411) (cShM_326 hsw3).1 (cShM_326 hsw3).2.1 (rShM_326_9 hsw3) ?_
                refine ea_iload (pc := 109) dX12_stopOf_109 2 rfl ?_
                refine ea_zald (pc := 111) dX12_stopOf_111 (cShM_333 hsw3).1 (cShM_333 hsw3).2.1 (ea_vpl (cShM_333 hsw3).2.2 z5) ?_
                refine ea_if_eq (pc := 112) (tgt := 119) dX12_stopOf_112 rfl (fun c6 => ?_) (fun c6 => ?_)
                · have E := (if_pos c6).symm.trans E
                  refine ea_iconst (pc := 119) dX12_stopOf_119 (v := 0) rfl ?_
                  refine ea_goto (pc := 120) (tgt := 124) dX12_stopOf_120 rfl ?_
                  exact ea_iretO (pc := 124) dX12_stopOf_124 rfl rfl E
                · have E := (if_neg c6).symm.trans E
                  refine ea_iconst (pc := 115) dX12_stopOf_115 (v := 1) rfl ?_
                  refine ea_goto (pc := 116) (tgt := 124) dX12_stopOf_116 rfl ?_
                  exact ea_iretO (pc := 124) dX12_stopOf_124 rfl rfl E
            · have E := (if_pos c9).symm.trans E
              obtain ⟨z8, E⟩ := gd_some E
              refine ea_aload_n (pc := 90) dX12_stopOf_90 rfl 0 rfl ?_
              refine ea_getR (pc := 91) dX12_stopOf_91 ec_12 (k := 7) (Nat.le_of_ble_eq_true rfl) rfl (Or.inl ew_1409) (cShM_326 hsw3).1 (cShM_326 hsw3).2.1 (rShM_326_7 hsw3) ?_
              refine ea_iload (pc := 94) dX12_stopOf_94 2 rfl ?_
              refine ea_iald (pc := 96) dX12_stopOf_96 (cShM_331 hsw3).1 (cShM_331 hsw3).2.1 (ea_vpl (cShM_331 hsw3).2.2 z8) ?_
              refine ea_goto (pc := 97) (tgt := 124) dX12_stopOf_97 rfl ?_
              exact ea_iretO (pc := 124) dX12_stopOf_124 rfl rfl E
          · have E := (if_pos c11).symm.trans E
            obtain ⟨z10, E⟩ := gd_some E
            refine ea_aload_n (pc := 75) dX12_stopOf_75 rfl 0 rfl ?_
            refine ea_getR (pc := 76) dX12_stopOf_76 ec_12 (k := 6) (Nat.le_of_ble_eq_true rfl) rfl (Or.inl ew_1408) (cShM_326 hsw3).1 (cShM_326 hsw3).2.1 (rShM_326_6 hsw3) ?_
            refine ea_iload (pc := 79) dX12_stopOf_79 2 rfl ?_
            refine ea_iald (pc := 81) dX12_stopOf_81 (cShM_330 hsw3).1 (cShM_330 hsw3).2.1 (ea_vpl (cShM_330 hsw3).2.2 z10) ?_
            refine ea_goto (pc := 82) (tgt := 124) dX12_stopOf_82 rfl ?_
            exact ea_iretO (pc := 124) dX12_stopOf_124 rfl rfl E
        · have E := (if_pos c13).symm.trans E
          obtain ⟨z12, E⟩ := gd_some E
          refine ea_aload_n (pc := 60) dX12_stopOf_60 rfl 0 rfl ?_
          refine ea_getR (pc := 61) dX12_stopOf_61 ec_12 (k := 5) (Nat.le_of_ble_eq_true rfl) rfl (Or.inl ew_1407) (cShM_326 hsw3).1 (cShM_326 hsw3).2.1 (rShM_326_5 hsw3) ?_
          refine ea_iload (pc := 64) dX12_stopOf_64 2 rfl ?_
          refine ea_iald (pc := 66) dX12_stopOf_66 (cShM_329 hsw3).1 (cShM_329 hsw3).2.1 (ea_vpl (cShM_329 hsw3).2.2 z12) ?_
          refine ea_goto (pc := 67) (tgt := 124) dX12_stopOf_67 rfl ?_
          exact ea_iretO (pc := 124) dX12_stopOf_124 rfl rfl E
      · have E := (if_pos c14).symm.trans E
        refine ea_iconst (pc := 46) dX12_stopOf_46 (v := (-1)) rfl ?_
        exact ea_iretO (pc := 47) dX12_stopOf_47 rfl rfl E
    · have E := (if_pos c17).symm.trans E
      refine ea_iload_n (pc := 15) dX12_stopOf_15 rfl 3 rfl ?_
      refine ea_if_ne (pc := 16) (tgt := 28) dX12_stopOf_16 rfl (fun c16 => ?_) (fun c16 => ?_)
      · have E := (if_neg c16).symm.trans E
        refine ea_iconst (pc := 28) dX12_stopOf_28 (v := (-1)) rfl ?_
        exact ea_iretO (pc := 29) dX12_stopOf_29 rfl rfl E
      · have E := (if_pos c16).symm.trans E
        obtain ⟨z15, E⟩ := gd_some E
        refine ea_aload_n (pc := 19) dX12_stopOf_19 rfl 0 rfl ?_
        refine ea_getR (pc := 20) dX12_stopOf_20 ec_12 (k := 4) (Nat.le_of_ble_eq_true rfl) rfl (Or.inl ew_1406) (cShM_326 hsw1).1 (cShM_326 hsw1).2.1 (rShM_326_4 hsw1) ?_
        refine ea_iload_n (pc := 23) dX12_stopOf_23 rfl 1 rfl ?_
        refine ea_iald (pc := 24) dX12_stopOf_24 (cShM_328 hsw1).1 (cShM_328 hsw1).2.1 (ea_vpl (cShM_328 hsw1).2.2 z15) ?_
        refine ea_goto (pc := 25) (tgt := 29) dX12_stopOf_25 rfl ?_
        exact ea_iretO (pc := 29) dX12_stopOf_29 rfl rfl E
  · have E := (if_pos c18).symm.trans E
    refine ea_iconst (pc := 8) dX12_stopOf_8 (v := (-1)) rfl ?_
    exact ea_iretO (pc := 9) dX12_stopOf_9 rfl rfl E
theorem kBX12_stopOf_0  {x1 : Int32} {x2 : Int32} {x3 : Int32} {h : ea_H} : kp (ea_core h) (BX12_stopOf_0 x1 x2 x3 h) :=
  (kp_bind (kp_tw (kpX12_isTrain _ _) rfl) fun w1 hcw1 => (kp_ite (kp_ret hcw1) (kp_ite (kp_ite (kp_gd (kp_ret hcw1)) (kp_ret hcw1)) (kp_gd (kp_bind (kp_tw (kpX12_isIn _ _ _ _) hcw1) fun w3 hcw3 => (kp_ite (kp_ret hcw3) (kp_let (kp_ite (kp_gd (kp_ret hcw3)) (kp_ite (kp_gd (kp_ret hcw3)) (kp_ite (kp_gd (kp_ret hcw3)) (kp_ite (kp_gd (kp_ite (kp_ret hcw3) (kp_ret hcw3))) (kp_ret hcw3))))))))))))
noncomputable def qX12_stopOf (x1 : Int32) (x2 : Int32) (x3 : Int32) (h : ea_H) : Option (Int32 × ea_H) := BX12_stopOf_0 x1 x2 x3 h
theorem sX12_stopOf {d : Nat} {x1 : Int32} {x2 : Int32} {x3 : Int32} {h : ea_H} {r : Int32} {h' : ea_H} (hd : 3 ≤ d) (hs : ShM h) (K : qX12_stopOf x1 x2 x3 h = some (r, h')) : ea_Met mX12_stopOf d [vR (some 326), vI x1, vI x2, vI x3] h (some (vI r)) h' := by
  unfold qX12_stopOf at K
  have W := tBX12_stopOf_0 hd (h0 := h) K hs
  exact ea_enter rfl (Nat.le_of_ble_eq_true rfl) W
theorem kpX12_stopOf (x1 : Int32) (x2 : Int32) (x3 : Int32) (h : ea_H) : kp (ea_core h) (qX12_stopOf x1 x2 x3 h) := kBX12_stopOf_0
noncomputable def BX12_run_0 (x0 : Int32) (x1 : Int32) (h : ea_H) : Option (Int32 × ea_H) :=
  (some ((((7 : Int32) * x0) + x1), h))
theorem tBX12_run_0 {d : Nat} {h0 : ea_H} (hd : 1 ≤ d)  {x0 : Int32} {x1 : Int32} {h : ea_H} {r : Int32} {h' : ea_H} (E : BX12_run_0 x0 x1 h = some (r, h')) : ea_W mX12_run d h0 (some (vI r)) h' 0 [(0, vI x0), (1, vI x1)] [] h := by
  unfold BX12_run_0 at E
  refine ea_bipush (pc := 0) dX12_run_0 (v := 7) rfl ?_
  refine ea_iload_n (pc := 2) dX12_run_2 rfl 0 rfl ?_
  refine ea_imul (pc := 3) dX12_run_3 ?_
  refine ea_iload_n (pc := 4) dX12_run_4 rfl 1 rfl ?_
  refine ea_iadd (pc := 5) dX12_run_5 ?_
  exact ea_iretO (pc := 6) dX12_run_6 rfl rfl E
theorem kBX12_run_0  {x0 : Int32} {x1 : Int32} {h : ea_H} : kp (ea_core h) (BX12_run_0 x0 x1 h) :=
  (kp_ret rfl)
noncomputable def qX12_run (x0 : Int32) (x1 : Int32) (h : ea_H) : Option (Int32 × ea_H) := BX12_run_0 x0 x1 h
theorem sX12_run {d : Nat} {x0 : Int32} {x1 : Int32} {h : ea_H} {r : Int32} {h' : ea_H} (hd : 1 ≤ d) (K : qX12_run x0 x1 h = some (r, h')) : ea_Met mX12_run d [vI x0, vI x1] h (some (vI r)) h' := by
  unfold qX12_run at K
  have W := tBX12_run_0 hd (h0 := h) K
  exact ea_enter rfl (Nat.le_of_ble_eq_true rfl) W
theorem kpX12_run (x0 : Int32) (x1 : Int32) (h : ea_H) : kp (ea_core h) (qX12_run x0 x1 h) := kBX12_run_0
noncomputable def BX12_comesAt_0 (x1 : Int32) (x2 : Int32) (h : ea_H) : Option (Int32 × ea_H) :=
  (gd (vp_in (((8 : Int32) * (x1 / (7 : Int32))) + x2) 80) (gd (vp_in x1 70) (some (((((1440 : Int32) * (x1 - x1 / (7 : Int32) * (7 : Int32))) + (ea_i h 330 (Int32.toNatClampNeg (((8 : Int32) * (x1 / (7 : Int32))) + x2)))) + (ea_i h 332 (Int32.toNatClampNeg x1))), h))))
theorem tBX12_comesAt_0 {d : Nat} {h0 : ea_H} (hd : 1 ≤ d)  {x1 : Int32} {x2 : Int32} {h : ea_H} {r : Int32} {h' : ea_H} (E : BX12_comesAt_0 x1 x2 h = some (r, h')) (hs : ShM h) : ea_W mX12_comesAt d h0 (some (vI r)) h' 0 [(0, vR (some 326)), (1, vI x1), (2, vI x2)] [] h := by
  unfold BX12_comesAt_0 at E
  obtain ⟨z1, E⟩ := gd_some E
  refine ea_sipush (pc := 0) dX12_comesAt_0 (v := 1440) rfl ?_
  refine ea_iload_n (pc := 3) dX12_comesAt_3 rfl 1 rfl ?_
  refine ea_bipush (pc := 4) dX12_comesAt_4 (v := 7) rfl ?_
  refine ea_irem (pc := 6) dX12_comesAt_6 (by decide) ?_
  refine ea_imul (pc := 7) dX12_comesAt_7 ?_
  refine ea_aload_n (pc := 8) dX12_comesAt_8 rfl 0 rfl ?_
  refine ea_getR (pc := 9) dX12_comesAt_9 ec_12 (k := 6) (Nat.le_of_ble_eq_true rfl) rfl (Or.inl ew_1408) (cShM_326 hs).1 (cShM_326 hs).2.1 (rShM_326_6 hs) ?_
  refine ea_bipush (pc := 12) dX12_comesAt_12 (v := 8) rfl ?_
  refine ea_iload_n (pc := 14) dX12_comesAt_14 rfl 1 rfl ?_
  refine ea_bipush (pc := 15) dX12_comesAt_15 (v := 7) rfl ?_
  refine ea_idiv (pc := 17) dX12_comesAt_17 (by decide) ?_
  refine ea_imul (pc := 18) dX12_comesAt_18 ?_
  refine ea_iload_n (pc := 19) dX12_comesAt_19 rfl 2 rfl ?_
  refine ea_iadd (pc := 20) dX12_comesAt_20 ?_
  obtain ⟨z2, E⟩ := gd_some E
  refine ea_iald (pc := 21) dX12_comesAt_21 (cShM_330 hs).1 (cShM_330 hs).2.1 (ea_vpl (cShM_330 hs).2.2 z1) ?_
  refine ea_iadd (pc := 22) dX12_comesAt_22 ?_
  refine ea_aload_n (pc := 23) dX12_comesAt_23 rfl 0 rfl ?_
  refine ea_getR (pc := 24) dX12_comesAt_24 ec_12 (k := 8) (Nat.le_of_ble_eq_true rfl) rfl (Or.inl ew_1410) (cShM_326 hs).1 (cShM_326 hs).2.1 (rShM_326_8 hs) ?_
  refine ea_iload_n (pc := 27) dX12_comesAt_27 rfl 1 rfl ?_
  refine ea_iald (pc := 28) dX12_comesAt_28 (cShM_332 hs).1 (cShM_332 hs).2.1 (ea_vpl (cShM_332 hs).2.2 z2) ?_
  refine ea_iadd (pc := 29) dX12_comesAt_29 ?_
  exact ea_iretO (pc := 30) dX12_comesAt_30 rfl rfl E
theorem kBX12_comesAt_0  {x1 : Int32} {x2 : Int32} {h : ea_H} : kp (ea_core h) (BX12_comesAt_0 x1 x2 h) :=
  (kp_gd (kp_gd (kp_ret rfl)))
noncomputable def qX12_comesAt (x1 : Int32) (x2 : Int32) (h : ea_H) : Option (Int32 × ea_H) := BX12_comesAt_0 x1 x2 h
theorem sX12_comesAt {d : Nat} {x1 : Int32} {x2 : Int32} {h : ea_H} {r : Int32} {h' : ea_H} (hd : 1 ≤ d) (hs : ShM h) (K : qX12_comesAt x1 x2 h = some (r, h')) : ea_Met mX12_comesAt d [vR (some 326), vI x1, vI x2] h (some (vI r)) h' := by
  unfold qX12_comesAt at K
  have W := tBX12_comesAt_0 hd (h0 := h) K hs
  exact ea_enter rfl (Nat.le_of_ble_eq_true rfl) W
theorem kpX12_comesAt (x1 : Int32) (x2 : Int32) (h : ea_H) : kp (ea_core h) (qX12_comesAt x1 x2 h) := kBX12_comesAt_0
noncomputable def BX12_goesAt_0 (x1 : Int32) (x2 : Int32) (h : ea_H) : Option (Int32 × ea_H) :=
  (gd (vp_in (((8 : Int32) * (x1 / (7 : Int32))) + x2) 80) (gd (vp_in x1 70) (some (((((1440 : Int32) * (x1 - x1 / (7 : Int32) * (7 : Int32))) + (ea_i h 331 (Int32.toNatClampNeg (((8 : Int32) * (x1 / (7 : Int32))) + x2)))) + (ea_i h 332 (Int32.toNatClampNeg x1))), h))))
theorem tBX12_goesAt_0 {d : Nat} {h0 : ea_H} (hd : 1 ≤ d)  {x1 : Int32} {x2 : Int32} {h : ea_H} {r : Int32} {h' : ea_H} (E : BX12_goesAt_0 x1 x2 h = some (r, h')) (hs : ShM h) : ea_W mX12_goesAt d h0 (some (vI r)) h' 0 [(0, vR (some 326)), (1, vI x1), (2, vI x2)] [] h := by
  unfold BX12_goesAt_0 at E
  obtain ⟨z1, E⟩ := gd_some E
  refine ea_sipush (pc := 0) dX12_goesAt_0 (v := 1440) rfl ?_
  refine ea_iload_n (pc := 3) dX12_goesAt_3 rfl 1 rfl ?_
  refine ea_bipush (pc := 4) dX12_goesAt_4 (v := 7) rfl ?_
  refine ea_irem (pc := 6) dX12_goesAt_6 (by decide) ?_
  refine ea_imul (pc := 7) dX12_goesAt_7 ?_
  refine ea_aload_n (pc := 8) dX12_goesAt_8 rfl 0 rfl ?_
  refine ea_getR (pc := 9) dX12_goesAt_9 ec_12 (k := 7) (Nat.le_of_ble_eq_true rfl) rfl (Or.inl ew_1409) (cShM_326 hs).1 (cShM_326 hs).2.1 (rShM_326_7 hs) ?_
  refine ea_bipush (pc := 12) dX12_goesAt_12 (v := 8) rfl ?_
  refine ea_iload_n (pc := 14) dX12_goesAt_14 rfl 1 rfl ?_
  refine ea_bipush (pc := 15) dX12_goesAt_15 (v := 7) rfl ?_
  refine ea_idiv (pc := 17) dX12_goesAt_17 (by decide) ?_
  refine ea_imul (pc := 18) dX12_goesAt_18 ?_
  refine ea_iload_n (pc := 19) dX12_goesAt_19 rfl 2 rfl ?_
  refine ea_iadd (pc := 20) dX12_goesAt_20 ?_
  obtain ⟨z2, E⟩ := gd_some E
  refine ea_iald (pc := 21) dX12_goesAt_21 (cShM_331 hs).1 (cShM_331 hs).2.1 (ea_vpl (cShM_331 hs).2.2 z1) ?_
  refine ea_iadd (pc := 22) dX12_goesAt_22 ?_
  refine ea_aload_n (pc := 23) dX12_goesAt_23 rfl 0 rfl ?_
  refine ea_getR (pc := 24) dX12_goesAt_24 ec_12 (k := 8) (Nat.le_of_ble_eq_true rfl) rfl (Or.inl ew_1410) (cShM_326 hs).1 (cShM_326 hs).2.1 (rShM_326_8 hs) ?_
  refine ea_iload_n (pc := 27) dX12_goesAt_27 rfl 1 rfl ?_
  refine ea_iald (pc := 28) dX12_goesAt_28 (cShM_332 hs).1 (cShM_332 hs).2.1 (ea_vpl (cShM_332 hs).2.2 z2) ?_
  refine ea_iadd (pc := 29) dX12_goesAt_29 ?_
  exact ea_iretO (pc := 30) dX12_goesAt_30 rfl rfl E
theorem kBX12_goesAt_0  {x1 : Int32} {x2 : Int32} {h : ea_H} : kp (ea_core h) (BX12_goesAt_0 x1 x2 h) :=
  (kp_gd (kp_gd (kp_ret rfl)))
noncomputable def qX12_goesAt (x1 : Int32) (x2 : Int32) (h : ea_H) : Option (Int32 × ea_H) := BX12_goesAt_0 x1 x2 h
theorem sX12_goesAt {d : Nat} {x1 : Int32} {x2 : Int32} {h : ea_H} {r : Int32} {h' : ea_H} (hd : 1 ≤ d) (hs : ShM h) (K : qX12_goesAt x1 x2 h = some (r, h')) : ea_Met mX12_goesAt d [vR (some 326), vI x1, vI x2] h (some (vI r)) h' := by
  unfold qX12_goesAt at K
  have W := tBX12_goesAt_0 hd (h0 := h) K hs
  exact ea_enter rfl (Nat.le_of_ble_eq_true rfl) W
theorem kpX12_goesAt (x1 : Int32) (x2 : Int32) (h : ea_H) : kp (ea_core h) (qX12_goesAt x1 x2 h) := kBX12_goesAt_0
noncomputable def BX12_canBeLate_0 (x1 : Int32) (x2 : Int32) (x3 : Int32) (h : ea_H) : Option (Int32 × ea_H) :=
  (Option.bind (qX12_isTrain (x1 : Int32) h) fun w1 => (if w1.1 = (0 : Int32) then (some ((0 : Int32), w1.2)) else (Option.bind (qX12_isDay (x2 : Int32) w1.2) fun w2 => (if w2.1 = (0 : Int32) then (some ((0 : Int32), w2.2)) else (Option.bind (qX12_isIn (x3 : Int32) (0 : Int32) (300 : Int32) w2.2) fun w3 => (if w3.1 = (0 : Int32) then (some ((0 : Int32), w3.2)) else (gd (vp_in x1 10) (if (ea_i w3.2 328 (Int32.toNatClampNeg x1)) ≤ (0 : Int32) then (some ((0 : Int32), w3.2)) else (gd (vp_in ((8 : Int32) * x1) 80) (if (((1440 : Int32) * x2) + (ea_i w3.2 331 (Int32.toNatClampNeg ((8 : Int32) * x1)))) ≤ (ea_i w3.2 326 0) then (some ((0 : Int32), w3.2)) else (some ((1 : Int32), w3.2))))))))))))
theorem tBX12_canBeLate_0 {d : Nat} {h0 : ea_H} (hd : 3 ≤ d)  {x1 : Int32} {x2 : Int32} {x3 : Int32} {h : ea_H} {r : Int32} {h' : ea_H} (E : BX12_canBeLate_0 x1 x2 x3 h = some (r, h')) (hs : ShM h) : ea_W mX12_canBeLate d h0 (some (vI r)) h' 0 [(0, vR (some 326)), (1, vI x1), (2, vI x2), (3, vI x3)] [] h := by
  unfold BX12_canBeLate_0 at E
  obtain ⟨w1, Ew1, E⟩ := bd_some E
  have hsw1 : ShM w1.2 := ShM_core ((kpX12_isTrain _ _) _ Ew1) hs
  refine ea_aload_n (pc := 0) dX12_canBeLate_0 rfl 0 rfl ?_
  refine ea_iload_n (pc := 1) dX12_canBeLate_1 rfl 1 rfl ?_
  refine ea_callV (pc := 2) (d' := d - 1) (As := [vI x1]) (st := []) dX12_canBeLate_2 kX12_isTrain (sX12_isTrain (d := d - 1) (by omega) hs Ew1) (by omega) rfl (Nat.le_of_ble_eq_true rfl) ew_1793 ew_1795 ew_57 (ci := 12) rfl (by decide) (cShM_326 hs).1 (cShM_326 hs).2.1 ?_
  refine ea_if_eq (pc := 5) (tgt := 61) dX12_canBeLate_5 rfl (fun c10 => ?_) (fun c10 => ?_)
  · have E := (if_pos c10).symm.trans E
    refine ea_iconst (pc := 61) dX12_canBeLate_61 (v := 0) rfl ?_
    exact ea_iretO (pc := 62) dX12_canBeLate_62 rfl (ea_bn (Or.inl rfl)) E
  · have E := (if_neg c10).symm.trans E
    obtain ⟨w2, Ew2, E⟩ := bd_some E
    have hsw2 : ShM w2.2 := ShM_core ((kpX12_isDay _ _) _ Ew2) hsw1
    refine ea_iload_n (pc := 8) dX12_canBeLate_8 rfl 2 rfl ?_
    refine ea_callS (pc := 9) (d' := d - 1) (As := [vI x2]) (st := []) dX12_canBeLate_9 kX12_isDay (sX12_isDay (d := d - 1) (by omega) Ew2) (by omega) rfl (Nat.le_of_ble_eq_true rfl) ew_1809 ew_1810 ?_
    refine ea_if_eq (pc := 12) (tgt := 61) dX12_canBeLate_12 rfl (fun c9 => ?_) (fun c9 => ?_)
    · have E := (if_pos c9).symm.trans E
      refine ea_iconst (pc := 61) dX12_canBeLate_61 (v := 0) rfl ?_
      exact ea_iretO (pc := 62) dX12_canBeLate_62 rfl (ea_bn (Or.inl rfl)) E
    · have E := (if_neg c9).symm.trans E
      obtain ⟨w3, Ew3, E⟩ := bd_some E
      have hsw3 : ShM w3.2 := ShM_core ((kpX12_isIn _ _ _ _) _ Ew3) hsw2
      refine ea_iload_n (pc := 15) dX12_canBeLate_15 rfl 3 rfl ?_
      refine ea_iconst (pc := 16) dX12_canBeLate_16 (v := 0) rfl ?_
      refine ea_sipush (pc := 17) dX12_canBeLate_17 (v := 300) rfl ?_
      refine ea_callS (pc := 20) (d' := d - 1) (As := [vI x3, vI 0, vI 300]) (st := []) dX12_canBeLate_20 kX12_isIn (sX12_isIn (d := d - 1) (by omega) Ew3) (by omega) rfl (Nat.le_of_ble_eq_true rfl) ew_1769 ew_1770 ?_
      refine ea_if_eq (pc := 23) (tgt := 61) dX12_canBeLate_23 rfl (fun c8 => ?_) (fun c8 => ?_)
      · have E := (if_pos c8).symm.trans E
        refine ea_iconst (pc := 61) dX12_canBeLate_61 (v := 0) rfl ?_
        exact ea_iretO (pc := 62) dX12_canBeLate_62 rfl (ea_bn (Or.inl rfl)) E
      · have E := (if_neg c8).symm.trans E
        obtain ⟨z4, E⟩ := gd_some E
        refine ea_aload_n (pc := 26) dX12_canBeLate_26 rfl 0 rfl ?_
        refine ea_getR (pc := 27) dX12_canBeLate_27 ec_12 (k := 4) (Nat.le_of_ble_eq_true rfl) rfl (Or.inl ew_1406) (cShM_326 hsw3).1 (cShM_326 hsw3).2.1 (rShM_326_4 hsw3) ?_
        refine ea_iload_n (pc := 30) dX12_canBeLate_30 rfl 1 rfl ?_
        refine ea_iald (pc := 31) dX12_canBeLate_31 (cShM_328 hsw3).1 (cShM_328 hsw3).2.1 (ea_vpl (cShM_328 hsw3).2.2 z4) ?_
        refine ea_if_le (pc := 32) (tgt := 61) dX12_canBeLate_32 rfl (fun c7 => ?_) (fun c7 => ?_)
        · have E := (if_pos c7).symm.trans E
          refine ea_iconst (pc := 61) dX12_canBeLate_61 (v := 0) rfl ?_
          exact ea_iretO (pc := 62) dX12_canBeLate_62 rfl (ea_bn (Or.inl rfl)) E
        · have E := (if_neg c7).symm.trans E
          obtain ⟨z5, E⟩ := gd_some E
          refine ea_sipush (pc := 35) dX12_canBeLate_35 (v := 1440) rfl ?_
          refine ea_iload_n (pc := 38) dX12_canBeLate_38 rfl 2 rfl ?_
          refine ea_imul (pc := 39) dX12_canBeLate_39 ?_
          refine ea_aload_n (pc := 40) dX12_canBeLate_40 rfl 0 rfl ?_
          refine ea_getR (pc := 41) dX12_canBeLate_41 ec_12 (k := 7) (Nat.le_of_ble_eq_true rfl) rfl (Or.inl ew_1409) (cShM_326 hsw3).1 (cShM_326 hsw3).2.1 (rShM_326_7 hsw3) ?_
          refine ea_bipush (pc := 44) dX12_canBeLate_44 (v := 8) rfl ?_
          refine ea_iload_n (pc := 46) dX12_canBeLate_46 rfl 1 rfl ?_
          refine ea_imul (pc := 47) dX12_canBeLate_47 ?_
          refine ea_iald (pc := 48) dX12_canBeLate_48 (cShM_331 hsw3).1 (cShM_331 hsw3).2.1 (ea_vpl (cShM_331 hsw3).2.2 z5) ?_
          refine ea_iadd (pc := 49) dX12_canBeLate_49 ?_
          refine ea_aload_n (pc := 50) dX12_canBeLate_50 rfl 0 rfl ?_
          refine ea_getI (pc := 51) dX12_canBeLate_51 ec_12 (k := 0) (Nat.le_of_ble_eq_true rfl) rfl (Or.inl ew_1402) (cShM_326 hsw3).1 (cShM_326 hsw3).2.1 ?_
          refine ea_icmp_le (pc := 54) (tgt := 61) dX12_canBeLate_54 rfl (fun c6 => ?_) (fun c6 => ?_)
          · have E := (if_pos c6).symm.trans E
            refine ea_iconst (pc := 61) dX12_canBeLate_61 (v := 0) rfl ?_
            exact ea_iretO (pc := 62) dX12_canBeLate_62 rfl (ea_bn (Or.inl rfl)) E
          · have E := (if_neg c6).symm.trans E
            refine ea_iconst (pc := 57) dX12_canBeLate_57 (v := 1) rfl ?_
            refine ea_goto (pc := 58) (tgt := 62) dX12_canBeLate_58 rfl ?_
            exact ea_iretO (pc := 62) dX12_canBeLate_62 rfl (ea_bn (Or.inr rfl)) E
theorem kBX12_canBeLate_0  {x1 : Int32} {x2 : Int32} {x3 : Int32} {h : ea_H} : kp (ea_core h) (BX12_canBeLate_0 x1 x2 x3 h) :=
  (kp_bind (kp_tw (kpX12_isTrain _ _) rfl) fun w1 hcw1 => (kp_ite (kp_ret hcw1) (kp_bind (kp_tw (kpX12_isDay _ _) hcw1) fun w2 hcw2 => (kp_ite (kp_ret hcw2) (kp_bind (kp_tw (kpX12_isIn _ _ _ _) hcw2) fun w3 hcw3 => (kp_ite (kp_ret hcw3) (kp_gd (kp_ite (kp_ret hcw3) (kp_gd (kp_ite (kp_ret hcw3) (kp_ret hcw3)))))))))))
noncomputable def qX12_canBeLate (x1 : Int32) (x2 : Int32) (x3 : Int32) (h : ea_H) : Option (Int32 × ea_H) := BX12_canBeLate_0 x1 x2 x3 h
theorem sX12_canBeLate {d : Nat} {x1 : Int32} {x2 : Int32} {x3 : Int32} {h : ea_H} {r : Int32} {h' : ea_H} (hd : 3 ≤ d) (hs : ShM h) (K : qX12_canBeLate x1 x2 x3 h = some (r, h')) : ea_Met mX12_canBeLate d [vR (some 326), vI x1, vI x2, vI x3] h (some (vI r)) h' := by
  unfold qX12_canBeLate at K
  have W := tBX12_canBeLate_0 hd (h0 := h) K hs
  exact ea_enter rfl (Nat.le_of_ble_eq_true rfl) W
theorem kpX12_canBeLate (x1 : Int32) (x2 : Int32) (x3 : Int32) (h : ea_H) : kp (ea_core h) (qX12_canBeLate x1 x2 x3 h) := kBX12_canBeLate_0
noncomputable def BX12_late_0 (x1 : Int32) (x2 : Int32) (x3 : Int32) (h : ea_H) : Option (Int32 × ea_H) :=
  (Option.bind (qX12_canBeLate (x1 : Int32) (x2 : Int32) (x3 : Int32) h) fun w1 => (if w1.1 = (0 : Int32) then (some ((0 : Int32), w1.2)) else (Option.bind (qX12_run (x1 : Int32) (x2 : Int32) w1.2) fun w2 => (gd (vp_in w2.1 70) (ea_let (ea_wi w2.2 332 (Int32.toNatClampNeg w2.1) x3) fun H4 => (ea_let (ea_wi H4 326 12 0) fun H5 => (some ((1 : Int32), H5))))))))
theorem tBX12_late_0 {d : Nat} {h0 : ea_H} (hd : 4 ≤ d)  {x1 : Int32} {x2 : Int32} {x3 : Int32} {h : ea_H} {r : Int32} {h' : ea_H} (E : BX12_late_0 x1 x2 x3 h = some (r, h')) (hs : ShM h) : ea_W mX12_late d h0 (some (vI r)) h' 0 [(0, vR (some 326)), (1, vI x1), (2, vI x2), (3, vI x3)] [] h := by
  unfold BX12_late_0 at E
  obtain ⟨w1, Ew1, E⟩ := bd_some E
  have hsw1 : ShM w1.2 := ShM_core ((kpX12_canBeLate _ _ _ _) _ Ew1) hs
  refine ea_aload_n (pc := 0) dX12_late_0 rfl 0 rfl ?_
  refine ea_iload_n (pc := 1) dX12_late_1 rfl 1 rfl ?_
  refine ea_iload_n (pc := 2) dX12_late_2 rfl 2 rfl ?_
  refine ea_iload_n (pc := 3) dX12_late_3 rfl 3 rfl ?_
  refine ea_callV (pc := 4) (d' := d - 1) (As := [vI x1, vI x2, vI x3]) (st := []) dX12_late_4 kX12_canBeLate (sX12_canBeLate (d := d - 1) (by omega) hs Ew1) (by omega) rfl (Nat.le_of_ble_eq_true rfl) ew_1805 ew_1807 ew_58 (ci := 12) rfl (by decide) (cShM_326 hs).1 (cShM_326 hs).2.1 ?_
  refine ea_if_ne (pc := 7) (tgt := 12) dX12_late_7 rfl (fun c6 => ?_) (fun c6 => ?_)
  · have E := (if_neg c6).symm.trans E
    obtain ⟨w2, Ew2, E⟩ := bd_some E
    have hsw2 : ShM w2.2 := ShM_core ((kpX12_run _ _ _) _ Ew2) hsw1
    refine ea_aload_n (pc := 12) dX12_late_12 rfl 0 rfl ?_
    refine ea_getR (pc := 13) dX12_late_13 ec_12 (k := 8) (Nat.le_of_ble_eq_true rfl) rfl (Or.inl ew_1410) (cShM_326 hsw1).1 (cShM_326 hsw1).2.1 (rShM_326_8 hsw1) ?_
    refine ea_iload_n (pc := 16) dX12_late_16 rfl 1 rfl ?_
    refine ea_iload_n (pc := 17) dX12_late_17 rfl 2 rfl ?_
    refine ea_callS (pc := 18) (d' := d - 1) (As := [vI x1, vI x2]) (st := [vR (some 332)]) dX12_late_18 kX12_run (sX12_run (d := d - 1) (by omega) Ew2) (by omega) rfl (Nat.le_of_ble_eq_true rfl) ew_1812 ew_1813 ?_
    obtain ⟨z3, E⟩ := gd_some E
    refine ea_iload_n (pc := 21) dX12_late_21 rfl 3 rfl ?_
    obtain ⟨H4, eH4, E⟩ := let_some E
    refine ea_iast (pc := 22) dX12_late_22 (cShM_332 hsw2).1 (cShM_332 hsw2).2.1 (ea_vpl (cShM_332 hsw2).2.2 z3) ?_
    refine ea_nm eH4 ?_
    have hsH4 : ShM H4 := by rw [eH4]; exact hsw2
    obtain ⟨H5, eH5, E⟩ := let_some E
    refine ea_aload_n (pc := 23) dX12_late_23 rfl 0 rfl ?_
    refine ea_iconst (pc := 24) dX12_late_24 (v := 0) rfl ?_
    refine ea_putI (pc := 25) dX12_late_25 ec_12 (k := 12) (Nat.le_of_ble_eq_true rfl) rfl (Or.inl ⟨rfl, Or.inl ew_1414⟩) (ea_bn (Or.inl rfl)) (ea_bf (Or.inl rfl)) (cShM_326 hsH4).1 (cShM_326 hsH4).2.1 ?_
    refine ea_nm eH5 ?_
    have hsH5 : ShM H5 := by rw [eH5]; exact hsH4
    refine ea_iconst (pc := 28) dX12_late_28 (v := 1) rfl ?_
    exact ea_iretO (pc := 29) dX12_late_29 rfl (ea_bn (Or.inr rfl)) E
  · have E := (if_pos c6).symm.trans E
    refine ea_iconst (pc := 10) dX12_late_10 (v := 0) rfl ?_
    exact ea_iretO (pc := 11) dX12_late_11 rfl (ea_bn (Or.inl rfl)) E
theorem kBX12_late_0  {x1 : Int32} {x2 : Int32} {x3 : Int32} {h : ea_H} : kp (ea_core h) (BX12_late_0 x1 x2 x3 h) :=
  (kp_bind (kp_tw (kpX12_canBeLate _ _ _ _) rfl) fun w1 hcw1 => (kp_ite (kp_ret hcw1) (kp_bind (kp_tw (kpX12_run _ _ _) hcw1) fun w2 hcw2 => (kp_gd (kp_let (kp_let (kp_ret hcw2)))))))
noncomputable def qX12_late (x1 : Int32) (x2 : Int32) (x3 : Int32) (h : ea_H) : Option (Int32 × ea_H) := BX12_late_0 x1 x2 x3 h
theorem sX12_late {d : Nat} {x1 : Int32} {x2 : Int32} {x3 : Int32} {h : ea_H} {r : Int32} {h' : ea_H} (hd : 4 ≤ d) (hs : ShM h) (K : qX12_late x1 x2 x3 h = some (r, h')) : ea_Met mX12_late d [vR (some 326), vI x1, vI x2, vI x3] h (some (vI r)) h' := by
  unfold qX12_late at K
  have W := tBX12_late_0 hd (h0 := h) K hs
  exact ea_enter rfl (Nat.le_of_ble_eq_true rfl) W
theorem kpX12_late (x1 : Int32) (x2 : Int32) (x3 : Int32) (h : ea_H) : kp (ea_core h) (qX12_late x1 x2 x3 h) := kBX12_late_0
noncomputable def BX12_miss_0 (x1 : Int32) (x2 : Int32) (x3 : Int32) (h : ea_H) : Option (Int32 × ea_H) :=
  (Option.bind (qX12_isTrain (x1 : Int32) h) fun w1 => (if w1.1 = (0 : Int32) then (some ((0 : Int32), w1.2)) else (Option.bind (qX12_isDay (x2 : Int32) w1.2) fun w2 => (if w2.1 = (0 : Int32) then (some ((0 : Int32), w2.2)) else (gd (vp_in x1 10) (Option.bind (qX12_isIn (x3 : Int32) (0 : Int32) (((ea_i w2.2 328 (Int32.toNatClampNeg x1)) - (2 : Int32)) : Int32) w2.2) fun w4 => (if w4.1 = (0 : Int32) then (some ((0 : Int32), w4.2)) else (gd (vp_in (((8 : Int32) * x1) + x3) 80) (if (ea_i w4.2 333 (Int32.toNatClampNeg (((8 : Int32) * x1) + x3))) = (0 : Int32) then (some ((0 : Int32), w4.2)) else (Option.bind (qX12_run (x1 : Int32) (x2 : Int32) w4.2) fun w6 => (gd (vp_in (((8 : Int32) * w6.1) + x3) 560) (if (ea_i w6.2 334 (Int32.toNatClampNeg (((8 : Int32) * w6.1) + x3))) = (0 : Int32) then (Option.bind (qX12_run (x1 : Int32) (x2 : Int32) w6.2) fun w8 => (Option.bind (qX12_comesAt (w8.1 : Int32) (x3 : Int32) w8.2) fun w9 => (if (ea_i w9.2 326 0) < w9.1 then (Option.bind (qX12_run (x1 : Int32) (x2 : Int32) w9.2) fun w10 => (gd (vp_in (((8 : Int32) * w10.1) + x3) 560) (ea_let (ea_wi w10.2 334 (Int32.toNatClampNeg (((8 : Int32) * w10.1) + x3)) 1) fun H12 => (some ((1 : Int32), H12))))) else (some ((0 : Int32), w9.2))))) else (some ((0 : Int32), w6.2))))))))))))))
theorem tBX12_miss_0 {d : Nat} {h0 : ea_H} (hd : 3 ≤ d)  {x1 : Int32} {x2 : Int32} {x3 : Int32} {h : ea_H} {r : Int32} {h' : ea_H} (E : BX12_miss_0 x1 x2 x3 h = some (r, h')) (hs : ShM h) : ea_W mX12_miss d h0 (some (vI r)) h' 0 [(0, vR (some 326)), (1, vI x1), (2, vI x2), (3, vI x3)] [] h := by
  unfold BX12_miss_0 at E
  obtain ⟨w1, Ew1, E⟩ := bd_some E
  have hsw1 : ShM w1.2 := ShM_core ((kpX12_isTrain _ _) _ Ew1) hs
  refine ea_aload_n (pc := 0) dX12_miss_0 rfl 0 rfl ?_
  refine ea_iload_n (pc := 1) dX12_miss_1 rfl 1 rfl ?_
  refine ea_callV (pc := 2) (d' := d - 1) (As := [vI x1]) (st := []) dX12_miss_2 kX12_isTrain (sX12_isTrain (d := d - 1) (by omega) hs Ew1) (by omega) rfl (Nat.le_of_ble_eq_true rfl) ew_1793 ew_1795 ew_57 (ci := 12) rfl (by decide) (cShM_326 hs).1 (cShM_326 hs).2.1 ?_
  refine ea_if_eq (pc := 5) (tgt := 80) dX12_miss_5 rfl (fun c18 => ?_) (fun c18 => ?_)
  · have E := (if_pos c18).symm.trans E
    refine ea_iconst (pc := 80) dX12_miss_80 (v := 0) rfl ?_
    exact ea_iretO (pc := 81) dX12_miss_81 rfl (ea_bn (Or.inl rfl)) E
  · have E := (if_neg c18).symm.trans E
    obtain ⟨w2, Ew2, E⟩ := bd_some E
    have hsw2 : ShM w2.2 := ShM_core ((kpX12_isDay _ _) _ Ew2) hsw1
    refine ea_iload_n (pc := 8) dX12_miss_8 rfl 2 rfl ?_
    refine ea_callS (pc := 9) (d' := d - 1) (As := [vI x2]) (st := []) dX12_miss_9 kX12_isDay (sX12_isDay (d := d - 1) (by omega) Ew2) (by omega) rfl (Nat.le_of_ble_eq_true rfl) ew_1809 ew_1810 ?_
    refine ea_if_eq (pc := 12) (tgt := 80) dX12_miss_12 rfl (fun c17 => ?_) (fun c17 => ?_)
    · have E := (if_pos c17).symm.trans E
      refine ea_iconst (pc := 80) dX12_miss_80 (v := 0) rfl ?_
      exact ea_iretO (pc := 81) dX12_miss_81 rfl (ea_bn (Or.inl rfl)) E
    · have E := (if_neg c17).symm.trans E
      obtain ⟨z3, E⟩ := gd_some E
      refine ea_iload_n (pc := 15) dX12_miss_15 rfl 3 rfl ?_
      refine ea_iconst (pc := 16) dX12_miss_16 (v := 0) rfl ?_
      refine ea_aload_n (pc := 17) dX12_miss_17 rfl 0 rfl ?_
      refine ea_getR (pc := 18) dX12_miss_18 ec_12 (k := 4) (Nat.le_of_ble_eq_true rfl) rfl (Or.inl ew_1406) (cShM_326 hsw2).1 (cShM_326 hsw2).2.1 (rShM_326_4 hsw2) ?_
      refine ea_iload_n (pc := 21) dX12_miss_21 rfl 1 rfl ?_
      obtain ⟨w4, Ew4, E⟩ := bd_some E
      have hsw4 : ShM w4.2 := ShM_core ((kpX12_isIn _ _ _ _) _ Ew4) hsw2
      refine ea_iald (pc := 22) dX12_miss_22 (cShM_328 hsw2).1 (cShM_328 hsw2).2.1 (ea_vpl (cShM_328 hsw2).2.2 z3) ?_
      refine ea_iconst (pc := 23) dX12_miss_23 (v := 2) rfl ?_
      refine ea_isub (pc := 24) dX12_miss_24 ?_
      refine ea_callS (pc := 25) (d' := d - 1) (As := [vI x3, vI 0, vI ((ea_i w2.2 328 (Int32.toNatClampNeg x1)) - (2 : Int32))]) (st := []) dX12_miss_25 kX12_isIn (sX12_isIn (d := d - 1) (by omega) Ew4) (by omega) rfl (Nat.le_of_ble_eq_true rfl) ew_1769 ew_1770 ?_
      refine ea_if_eq (pc := 28) (tgt := 80) dX12_miss_28 rfl (fun c16 => ?_) (fun c16 => ?_)
      · have E := (if_pos c16).symm.trans E
        refine ea_iconst (pc := 80) dX12_miss_80 (v := 0) rfl ?_
        exact ea_iretO (pc := 81) dX12_miss_81 rfl (ea_bn (Or.inl rfl)) E
      · have E := (if_neg c16).symm.trans E
        obtain ⟨z5, E⟩ := gd_some E
        refine ea_aload_n (pc := 31) dX12_miss_31 rfl 0 rfl ?_
        refine ea_getR (pc := 32) dX12_miss_32 ec_12 (k := 9) (Nat.le_of_ble_eq_true rfl) rfl (Or.inl ew_1411) (cShM_326 hsw4).1 (cShM_326 hsw4).2.1 (rShM_326_9 hsw4) ?_
        refine ea_bipush (pc := 35) dX12_miss_35 (v := 8) rfl ?_
        refine ea_iload_n (pc := 37) dX12_miss_37 rfl 1 rfl ?_
        refine ea_imul (pc := 38) dX12_miss_38 ?_
        refine ea_iload_n (pc := 39) dX12_miss_39 rfl 3 rfl ?_
        refine ea_iadd (pc := 40) dX12_miss_40 ?_
        refine ea_zald (pc := 41) dX12_miss_41 (cShM_333 hsw4).1 (cShM_333 hsw4).2.1 (ea_vpl (cShM_333 hsw4).2.2 z5) ?_
        refine ea_if_eq (pc := 42) (tgt := 80) dX12_miss_42 rfl (fun c15 => ?_) (fun c15 => ?_)
        · have E := (if_pos c15).symm.trans E
          refine ea_iconst (pc := 80) dX12_miss_80 (v := 0) rfl ?_
          exact ea_iretO (pc := 81) dX12_miss_81 rfl (ea_bn (Or.inl rfl)) E
        · have E := (if_neg c15).symm.trans E
          obtain ⟨w6, Ew6, E⟩ := bd_some E
          have hsw6 : ShM w6.2 := ShM_core ((kpX12_run _ _ _) _ Ew6) hsw4
          refine ea_aload_n (pc := 45) dX12_miss_45 rfl 0 rfl ?_
          refine ea_getR (pc := 46) dX12_miss_46 ec_12 (k := 10) (Nat.le_of_ble_eq_true rfl) rfl (Or.inl ew_1412) (cShM_326 hsw4).1 (cShM_326 hsw4).2.1 (rShM_326_10 hsw4) ?_
          refine ea_bipush (pc := 49) dX12_miss_49 (v := 8) rfl ?_
          refine ea_iload_n (pc := 51) dX12_miss_51 rfl 1 rfl ?_
          refine ea_iload_n (pc := 52) dX12_miss_52 rfl 2 rfl ?_
          refine ea_callS (pc := 53) (d' := d - 1) (As := [vI x1, vI x2]) (st := [vI 8, vR (some 334)]) dX12_miss_53 kX12_run (sX12_run (d := d - 1) (by omega) Ew6) (by omega) rfl (Nat.le_of_ble_eq_true rfl) ew_1812 ew_1813 ?_
          obtain ⟨z7, E⟩ := gd_some E
          refine ea_imul (pc := 56) dX12_miss_56 ?_
          refine ea_iload_n (pc := 57) dX12_miss_57 rfl 3 rfl ?_
          refine ea_iadd (pc := 58) dX12_miss_58 ?_
          refine ea_zald (pc := 59) dX12_miss_59 (cShM_334 hsw6).1 (cShM_334 hsw6).2.1 (ea_vpl (cShM_334 hsw6).2.2 z7) ?_
          refine ea_if_ne (pc := 60) (tgt := 80) dX12_miss_60 rfl (fun c14 => ?_) (fun c14 => ?_)
          · have E := (if_neg c14).symm.trans E
            refine ea_iconst (pc := 80) dX12_miss_80 (v := 0) rfl ?_
            exact ea_iretO (pc := 81) dX12_miss_81 rfl (ea_bn (Or.inl rfl)) E
          · have E := (if_pos c14).symm.trans E
            obtain ⟨w8, Ew8, E⟩ := bd_some E
            have hsw8 : ShM w8.2 := ShM_core ((kpX12_run _ _ _) _ Ew8) hsw6
            refine ea_aload_n (pc := 63) dX12_miss_63 rfl 0 rfl ?_
            refine ea_iload_n (pc := 64) dX12_miss_64 rfl 1 rfl ?_
            refine ea_iload_n (pc := 65) dX12_miss_65 rfl 2 rfl ?_
            refine ea_callS (pc := 66) (d' := d - 1) (As := [vI x1, vI x2]) (st := [vR (some 326)]) dX12_miss_66 kX12_run (sX12_run (d := d - 1) (by omega) Ew8) (by omega) rfl (Nat.le_of_ble_eq_true rfl) ew_1812 ew_1813 ?_
            obtain ⟨w9, Ew9, E⟩ := bd_some E
            have hsw9 : ShM w9.2 := ShM_core ((kpX12_comesAt _ _ _) _ Ew9) hsw8
            refine ea_iload_n (pc := 69) dX12_miss_69 rfl 3 rfl ?_
            refine ea_callV (pc := 70) (d' := d - 1) (As := [vI w8.1, vI x3]) (st := []) dX12_miss_70 kX12_comesAt (sX12_comesAt (d := d - 1) (by omega) hsw8 Ew9) (by omega) rfl (Nat.le_of_ble_eq_true rfl) ew_1819 ew_1821 ew_59 (ci := 12) rfl (by decide) (cShM_326 hsw8).1 (cShM_326 hsw8).2.1 ?_
            refine ea_aload_n (pc := 73) dX12_miss_73 rfl 0 rfl ?_
            refine ea_getI (pc := 74) dX12_miss_74 ec_12 (k := 0) (Nat.le_of_ble_eq_true rfl) rfl (Or.inl ew_1402) (cShM_326 hsw9).1 (cShM_326 hsw9).2.1 ?_
            refine ea_icmp_gt (pc := 77) (tgt := 82) dX12_miss_77 rfl (fun c13 => ?_) (fun c13 => ?_)
            · have E := (if_pos c13).symm.trans E
              obtain ⟨w10, Ew10, E⟩ := bd_some E
              have hsw10 : ShM w10.2 := ShM_core ((kpX12_run _ _ _) _ Ew10) hsw9
              refine ea_aload_n (pc := 82) dX12_miss_82 rfl 0 rfl ?_
              refine ea_getR (pc := 83) dX12_miss_83 ec_12 (k := 10) (Nat.le_of_ble_eq_true rfl) rfl (Or.inl ew_1412) (cShM_326 hsw9).1 (cShM_326 hsw9).2.1 (rShM_326_10 hsw9) ?_
              refine ea_bipush (pc := 86) dX12_miss_86 (v := 8) rfl ?_
              refine ea_iload_n (pc := 88) dX12_miss_88 rfl 1 rfl ?_
              refine ea_iload_n (pc := 89) dX12_miss_89 rfl 2 rfl ?_
              refine ea_callS (pc := 90) (d' := d - 1) (As := [vI x1, vI x2]) (st := [vI 8, vR (some 334)]) dX12_miss_90 kX12_run (sX12_run (d := d - 1) (by omega) Ew10) (by omega) rfl (Nat.le_of_ble_eq_true rfl) ew_1812 ew_1813 ?_
              obtain ⟨z11, E⟩ := gd_some E
              refine ea_imul (pc := 93) dX12_miss_93 ?_
              refine ea_iload_n (pc := 94) dX12_miss_94 rfl 3 rfl ?_
              refine ea_iadd (pc := 95) dX12_miss_95 ?_
              refine ea_iconst (pc := 96) dX12_miss_96 (v := 1) rfl ?_
              obtain ⟨H12, eH12, E⟩ := let_some E
              refine ea_zast (pc := 97) dX12_miss_97 (y := 1) (ea_bn (Or.inr rfl)) (cShM_334 hsw10).1 (cShM_334 hsw10).2.1 (ea_vpl (cShM_334 hsw10).2.2 z11) ?_
              refine ea_nm eH12 ?_
              have hsH12 : ShM H12 := by rw [eH12]; exact hsw10
              refine ea_iconst (pc := 98) dX12_miss_98 (v := 1) rfl ?_
              exact ea_iretO (pc := 99) dX12_miss_99 rfl (ea_bn (Or.inr rfl)) E
            · have E := (if_neg c13).symm.trans E
              refine ea_iconst (pc := 80) dX12_miss_80 (v := 0) rfl ?_
              exact ea_iretO (pc := 81) dX12_miss_81 rfl (ea_bn (Or.inl rfl)) E
theorem kBX12_miss_0  {x1 : Int32} {x2 : Int32} {x3 : Int32} {h : ea_H} : kp (ea_core h) (BX12_miss_0 x1 x2 x3 h) :=
  (kp_bind (kp_tw (kpX12_isTrain _ _) rfl) fun w1 hcw1 => (kp_ite (kp_ret hcw1) (kp_bind (kp_tw (kpX12_isDay _ _) hcw1) fun w2 hcw2 => (kp_ite (kp_ret hcw2) (kp_gd (kp_bind (kp_tw (kpX12_isIn _ _ _ _) hcw2) fun w4 hcw4 => (kp_ite (kp_ret hcw4) (kp_gd (kp_ite (kp_ret hcw4) (kp_bind (kp_tw (kpX12_run _ _ _) hcw4) fun w6 hcw6 => (kp_gd (kp_ite (kp_bind (kp_tw (kpX12_run _ _ _) hcw6) fun w8 hcw8 => (kp_bind (kp_tw (kpX12_comesAt _ _ _) hcw8) fun w9 hcw9 => (kp_ite (kp_bind (kp_tw (kpX12_run _ _ _) hcw9) fun w10 hcw10 => (kp_gd (kp_let (kp_ret hcw10)))) (kp_ret hcw9)))) (kp_ret hcw6)))))))))))))
noncomputable def qX12_miss (x1 : Int32) (x2 : Int32) (x3 : Int32) (h : ea_H) : Option (Int32 × ea_H) := BX12_miss_0 x1 x2 x3 h
theorem sX12_miss {d : Nat} {x1 : Int32} {x2 : Int32} {x3 : Int32} {h : ea_H} {r : Int32} {h' : ea_H} (hd : 3 ≤ d) (hs : ShM h) (K : qX12_miss x1 x2 x3 h = some (r, h')) : ea_Met mX12_miss d [vR (some 326), vI x1, vI x2, vI x3] h (some (vI r)) h' := by
  unfold qX12_miss at K
  have W := tBX12_miss_0 hd (h0 := h) K hs
  exact ea_enter rfl (Nat.le_of_ble_eq_true rfl) W
theorem kpX12_miss (x1 : Int32) (x2 : Int32) (x3 : Int32) (h : ea_H) : kp (ea_core h) (qX12_miss x1 x2 x3 h) := kBX12_miss_0
noncomputable def BX12_minuteOf_0 (x1 : Int32) (x2 : Int32) (h : ea_H) : Option (Int32 × ea_H) :=
  (if (x2 - x2 / (2 : Int32) * (2 : Int32)) = (0 : Int32) then (Option.bind (qX12_goesAt (x1 : Int32) ((x2 / (2 : Int32)) : Int32) h) fun w2 => (some (w2.1, w2.2))) else (Option.bind (qX12_comesAt (x1 : Int32) (((x2 / (2 : Int32)) + (1 : Int32)) : Int32) h) fun w1 => (some (w1.1, w1.2))))
theorem tBX12_minuteOf_0 {d : Nat} {h0 : ea_H} (hd : 2 ≤ d)  {x1 : Int32} {x2 : Int32} {h : ea_H} {r : Int32} {h' : ea_H} (E : BX12_minuteOf_0 x1 x2 h = some (r, h')) (hs : ShM h) : ea_W mX12_minuteOf d h0 (some (vI r)) h' 0 [(0, vR (some 326)), (1, vI x1), (2, vI x2)] [] h := by
  unfold BX12_minuteOf_0 at E
  refine ea_iload_n (pc := 0) dX12_minuteOf_0 rfl 2 rfl ?_
  refine ea_iconst (pc := 1) dX12_minuteOf_1 (v := 2) rfl ?_
  refine ea_irem (pc := 2) dX12_minuteOf_2 (by decide) ?_
  refine ea_if_ne (pc := 3) (tgt := 17) dX12_minuteOf_3 rfl (fun c3 => ?_) (fun c3 => ?_)
  · have E := (if_neg c3).symm.trans E
    obtain ⟨w1, Ew1, E⟩ := bd_some E
    have hsw1 : ShM w1.2 := ShM_core ((kpX12_comesAt _ _ _) _ Ew1) hs
    refine ea_aload_n (pc := 17) dX12_minuteOf_17 rfl 0 rfl ?_
    refine ea_iload_n (pc := 18) dX12_minuteOf_18 rfl 1 rfl ?_
    refine ea_iload_n (pc := 19) dX12_minuteOf_19 rfl 2 rfl ?_
    refine ea_iconst (pc := 20) dX12_minuteOf_20 (v := 2) rfl ?_
    refine ea_idiv (pc := 21) dX12_minuteOf_21 (by decide) ?_
    refine ea_iconst (pc := 22) dX12_minuteOf_22 (v := 1) rfl ?_
    refine ea_iadd (pc := 23) dX12_minuteOf_23 ?_
    refine ea_callV (pc := 24) (d' := d - 1) (As := [vI x1, vI ((x2 / (2 : Int32)) + (1 : Int32))]) (st := []) dX12_minuteOf_24 kX12_comesAt (sX12_comesAt (d := d - 1) (by omega) hs Ew1) (by omega) rfl (Nat.le_of_ble_eq_true rfl) ew_1819 ew_1821 ew_59 (ci := 12) rfl (by decide) (cShM_326 hs).1 (cShM_326 hs).2.1 ?_
    exact ea_iretO (pc := 27) dX12_minuteOf_27 rfl rfl E
  · have E := (if_pos c3).symm.trans E
    obtain ⟨w2, Ew2, E⟩ := bd_some E
    have hsw2 : ShM w2.2 := ShM_core ((kpX12_goesAt _ _ _) _ Ew2) hs
    refine ea_aload_n (pc := 6) dX12_minuteOf_6 rfl 0 rfl ?_
    refine ea_iload_n (pc := 7) dX12_minuteOf_7 rfl 1 rfl ?_
    refine ea_iload_n (pc := 8) dX12_minuteOf_8 rfl 2 rfl ?_
    refine ea_iconst (pc := 9) dX12_minuteOf_9 (v := 2) rfl ?_
    refine ea_idiv (pc := 10) dX12_minuteOf_10 (by decide) ?_
    refine ea_callV (pc := 11) (d' := d - 1) (As := [vI x1, vI (x2 / (2 : Int32))]) (st := []) dX12_minuteOf_11 kX12_goesAt (sX12_goesAt (d := d - 1) (by omega) hs Ew2) (by omega) rfl (Nat.le_of_ble_eq_true rfl) ew_1843 ew_1845 ew_64 (ci := 12) rfl (by decide) (cShM_326 hs).1 (cShM_326 hs).2.1 ?_
    refine ea_goto (pc := 14) (tgt := 27) dX12_minuteOf_14 rfl ?_
    exact ea_iretO (pc := 27) dX12_minuteOf_27 rfl rfl E
theorem kBX12_minuteOf_0  {x1 : Int32} {x2 : Int32} {h : ea_H} : kp (ea_core h) (BX12_minuteOf_0 x1 x2 h) :=
  (kp_ite (kp_bind (kp_tw (kpX12_goesAt _ _ _) rfl) fun w2 hcw2 => (kp_ret hcw2)) (kp_bind (kp_tw (kpX12_comesAt _ _ _) rfl) fun w1 hcw1 => (kp_ret hcw1)))
noncomputable def qX12_minuteOf (x1 : Int32) (x2 : Int32) (h : ea_H) : Option (Int32 × ea_H) := BX12_minuteOf_0 x1 x2 h
theorem sX12_minuteOf {d : Nat} {x1 : Int32} {x2 : Int32} {h : ea_H} {r : Int32} {h' : ea_H} (hd : 2 ≤ d) (hs : ShM h) (K : qX12_minuteOf x1 x2 h = some (r, h')) : ea_Met mX12_minuteOf d [vR (some 326), vI x1, vI x2] h (some (vI r)) h' := by
  unfold qX12_minuteOf at K
  have W := tBX12_minuteOf_0 hd (h0 := h) K hs
  exact ea_enter rfl (Nat.le_of_ble_eq_true rfl) W
theorem kpX12_minuteOf (x1 : Int32) (x2 : Int32) (h : ea_H) : kp (ea_core h) (qX12_minuteOf x1 x2 h) := kBX12_minuteOf_0
noncomputable def BX12_isAheadOf_0 (J29 : Int32 → Int32 → Int32 → Int32 → ea_H → Option (Int32 × ea_H)) (x1 : Int32) (x2 : Int32) (h : ea_H) : Option (Int32 × ea_H) :=
  (gd (vp_in x1 70) (Option.bind (qX12_minuteOf (x1 : Int32) ((ea_i h 340 (Int32.toNatClampNeg x1)) : Int32) h) fun w2 => (gd (vp_in x1 70) (if ((ea_i w2.2 340 (Int32.toNatClampNeg x1)) - (ea_i w2.2 340 (Int32.toNatClampNeg x1)) / (2 : Int32) * (2 : Int32)) = (0 : Int32) then (J29 (x1 : Int32) (x2 : Int32) (1 : Int32) (((2 : Int32) * w2.1) : Int32) w2.2) else (J29 (x1 : Int32) (x2 : Int32) (0 : Int32) (((2 : Int32) * w2.1) : Int32) w2.2)))))
theorem tBX12_isAheadOf_0 {d : Nat} {h0 : ea_H} (hd : 3 ≤ d) {J29 : Int32 → Int32 → Int32 → Int32 → ea_H → Option (Int32 × ea_H)}  (kJ29 : ∀ (x1 : Int32) (x2 : Int32) (sx0 : Int32) (sx1 : Int32) (h : ea_H) (r : Int32) (h' : ea_H), J29 x1 x2 sx0 sx1 h = some (r, h') → ShM h → ea_W mX12_isAheadOf d h0 (some (vI r)) h' 29 [(0, vR (some 326)), (1, vI x1), (2, vI x2)] [vI sx0, vI sx1] h) {x1 : Int32} {x2 : Int32} {h : ea_H} {r : Int32} {h' : ea_H} (E : BX12_isAheadOf_0 J29 x1 x2 h = some (r, h')) (hs : ShM h) : ea_W mX12_isAheadOf d h0 (some (vI r)) h' 0 [(0, vR (some 326)), (1, vI x1), (2, vI x2)] [] h := by
  unfold BX12_isAheadOf_0 at E
  obtain ⟨z1, E⟩ := gd_some E
  refine ea_iconst (pc := 0) dX12_isAheadOf_0 (v := 2) rfl ?_
  refine ea_aload_n (pc := 1) dX12_isAheadOf_1 rfl 0 rfl ?_
  refine ea_iload_n (pc := 2) dX12_isAheadOf_2 rfl 1 rfl ?_
  refine ea_aload_n (pc := 3) dX12_isAheadOf_3 rfl 0 rfl ?_
  refine ea_getR (pc := 4) dX12_isAheadOf_4 ec_12 (k := 18) (Nat.le_of_ble_eq_true rfl) rfl (Or.inl ew_1420) (cShM_326 hs).1 (cShM_326 hs).2.1 (rShM_326_18 hs) ?_
  refine ea_iload_n (pc := 7) dX12_isAheadOf_7 rfl 1 rfl ?_
  obtain ⟨w2, Ew2, E⟩ := bd_some E
  have hsw2 : ShM w2.2 := ShM_core ((kpX12_minuteOf _ _ _) _ Ew2) hs
  refine ea_iald (pc := 8) dX12_isAheadOf_8 (cShM_340 hs).1 (cShM_340 hs).2.1 (ea_vpl (cShM_340 hs).2.2 z1) ?_
  refine ea_callV (pc := 9) (d' := d - 1) (As := [vI x1, vI (ea_i h 340 (Int32.toNatClampNeg x1))]) (st := [vI 2]) dX12_isAheadOf_9 kX12_minuteOf (sX12_minuteOf (d := d - 1) (by omega) hs Ew2) (by omega) rfl (Nat.le_of_ble_eq_true rfl) ew_1839 ew_1841 ew_63 (ci := 12) rfl (by decide) (cShM_326 hs).1 (cShM_326 hs).2.1 ?_
  obtain ⟨z3, E⟩ := gd_some E
  refine ea_imul (pc := 12) dX12_isAheadOf_12 ?_
  refine ea_aload_n (pc := 13) dX12_isAheadOf_13 rfl 0 rfl ?_
  refine ea_getR (pc := 14) dX12_isAheadOf_14 ec_12 (k := 18) (Nat.le_of_ble_eq_true rfl) rfl (Or.inl ew_1420) (cShM_326 hsw2).1 (cShM_326 hsw2).2.1 (rShM_326_18 hsw2) ?_
  refine ea_iload_n (pc := 17) dX12_isAheadOf_17 rfl 1 rfl ?_
  refine ea_iald (pc := 18) dX12_isAheadOf_18 (cShM_340 hsw2).1 (cShM_340 hsw2).2.1 (ea_vpl (cShM_340 hsw2).2.2 z3) ?_
  refine ea_iconst (pc := 19) dX12_isAheadOf_19 (v := 2) rfl ?_
  refine ea_irem (pc := 20) dX12_isAheadOf_20 (by decide) ?_
  refine ea_if_ne (pc := 21) (tgt := 28) dX12_isAheadOf_21 rfl (fun c4 => ?_) (fun c4 => ?_)
  · have E := (if_neg c4).symm.trans E
    refine ea_iconst (pc := 28) dX12_isAheadOf_28 (v := 0) rfl ?_
    exact (kJ29 (x1 : Int32) (x2 : Int32) (0 : Int32) (((2 : Int32) * w2.1) : Int32) w2.2 _ _ E hsw2)
  · have E := (if_pos c4).symm.trans E
    refine ea_iconst (pc := 24) dX12_isAheadOf_24 (v := 1) rfl ?_
    refine ea_goto (pc := 25) (tgt := 29) dX12_isAheadOf_25 rfl ?_
    exact (kJ29 (x1 : Int32) (x2 : Int32) (1 : Int32) (((2 : Int32) * w2.1) : Int32) w2.2 _ _ E hsw2)
theorem kBX12_isAheadOf_0 {J29 : Int32 → Int32 → Int32 → Int32 → ea_H → Option (Int32 × ea_H)}  (cJ29 : ∀ (x1 : Int32) (x2 : Int32) (sx0 : Int32) (sx1 : Int32) (h : ea_H), kp (ea_core h) (J29 x1 x2 sx0 sx1 h)) {x1 : Int32} {x2 : Int32} {h : ea_H} : kp (ea_core h) (BX12_isAheadOf_0 J29 x1 x2 h) :=
  (kp_gd (kp_bind (kp_tw (kpX12_minuteOf _ _ _) rfl) fun w2 hcw2 => (kp_gd (kp_ite (kp_tw (cJ29 _ _ _ _ _) hcw2) (kp_tw (cJ29 _ _ _ _ _) hcw2)))))
theorem lBX12_isAheadOf_0 {J29 : Int32 → Int32 → Int32 → Int32 → ea_H → Option (Int32 × ea_H)} {J29_ : Int32 → Int32 → Int32 → Int32 → ea_H → Option (Int32 × ea_H)}  (mJ29 : ∀ (x1 : Int32) (x2 : Int32) (sx0 : Int32) (sx1 : Int32) (h : ea_H), fle (J29 x1 x2 sx0 sx1 h) (J29_ x1 x2 sx0 sx1 h)) {x1 : Int32} {x2 : Int32} {h : ea_H} : fle (BX12_isAheadOf_0 J29 x1 x2 h) (BX12_isAheadOf_0 J29_ x1 x2 h) :=
  (fle_gd (fle_bind (fle_rfl _) fun _ => (fle_gd (fle_ite (mJ29 _ _ _ _ _) (mJ29 _ _ _ _ _)))))
theorem nBX12_isAheadOf_0 {J29 : Int32 → Int32 → Int32 → Int32 → ea_H → Option (Int32 × ea_H)} {J29_ : Nat → (Int32 → Int32 → Int32 → Int32 → ea_H → Option (Int32 × ea_H))}  (mJ29 : ∀ (x1 : Int32) (x2 : Int32) (sx0 : Int32) (sx1 : Int32) (h : ea_H), fct (J29 x1 x2 sx0 sx1 h) (fun f => J29_ f x1 x2 sx0 sx1 h)) {x1 : Int32} {x2 : Int32} {h : ea_H} : fct (BX12_isAheadOf_0 J29 x1 x2 h) (fun f => BX12_isAheadOf_0 (J29_ f) x1 x2 h) :=
  (fct_gd (fct_bind (fct_rfl _) fun _ => (fct_gd (fct_ite (mJ29 _ _ _ _ _) (mJ29 _ _ _ _ _)))))
noncomputable def BX12_isAheadOf_29 (J60 : Int32 → Int32 → Int32 → Int32 → Int32 → ea_H → Option (Int32 × ea_H)) (x1 : Int32) (x2 : Int32) (sx0 : Int32) (sx1 : Int32) (h : ea_H) : Option (Int32 × ea_H) :=
  (gd (vp_in x2 70) (Option.bind (qX12_minuteOf (x2 : Int32) ((ea_i h 340 (Int32.toNatClampNeg x2)) : Int32) h) fun w6 => (gd (vp_in x2 70) (if ((ea_i w6.2 340 (Int32.toNatClampNeg x2)) - (ea_i w6.2 340 (Int32.toNatClampNeg x2)) / (2 : Int32) * (2 : Int32)) = (0 : Int32) then (J60 (x1 : Int32) (x2 : Int32) ((sx1 + sx0) : Int32) (1 : Int32) (((2 : Int32) * w6.1) : Int32) w6.2) else (J60 (x1 : Int32) (x2 : Int32) ((sx1 + sx0) : Int32) (0 : Int32) (((2 : Int32) * w6.1) : Int32) w6.2)))))
theorem tBX12_isAheadOf_29 {d : Nat} {h0 : ea_H} (hd : 3 ≤ d) {J60 : Int32 → Int32 → Int32 → Int32 → Int32 → ea_H → Option (Int32 × ea_H)}  (kJ60 : ∀ (x1 : Int32) (x2 : Int32) (x3 : Int32) (sx0 : Int32) (sx1 : Int32) (h : ea_H) (r : Int32) (h' : ea_H), J60 x1 x2 x3 sx0 sx1 h = some (r, h') → ShM h → ea_W mX12_isAheadOf d h0 (some (vI r)) h' 60 [(1, vI x1), (2, vI x2), (3, vI x3)] [vI sx0, vI sx1] h) {x1 : Int32} {x2 : Int32} {sx0 : Int32} {sx1 : Int32} {h : ea_H} {r : Int32} {h' : ea_H} (E : BX12_isAheadOf_29 J60 x1 x2 sx0 sx1 h = some (r, h')) (hs : ShM h) : ea_W mX12_isAheadOf d h0 (some (vI r)) h' 29 [(0, vR (some 326)), (1, vI x1), (2, vI x2)] [vI sx0, vI sx1] h := by
  unfold BX12_isAheadOf_29 at E
  obtain ⟨z5, E⟩ := gd_some E
  refine ea_iadd (pc := 29) dX12_isAheadOf_29 ?_
  refine ea_istore_n (pc := 30) (lv' := [(0, vR (some 326)), (1, vI x1), (2, vI x2), (3, vI (sx1 + sx0))]) dX12_isAheadOf_30 rfl (Nat.le_of_ble_eq_true rfl) [1, 2, 3, 0] rfl ?_
  refine ea_iconst (pc := 31) dX12_isAheadOf_31 (v := 2) rfl ?_
  refine ea_aload_n (pc := 32) dX12_isAheadOf_32 rfl 0 rfl ?_
  refine ea_iload_n (pc := 33) dX12_isAheadOf_33 rfl 2 rfl ?_
  refine ea_aload_n (pc := 34) dX12_isAheadOf_34 rfl 0 rfl ?_
  refine ea_getR (pc := 35) dX12_isAheadOf_35 ec_12 (k := 18) (Nat.le_of_ble_eq_true rfl) rfl (Or.inl ew_1420) (cShM_326 hs).1 (cShM_326 hs).2.1 (rShM_326_18 hs) ?_
  refine ea_iload_n (pc := 38) dX12_isAheadOf_38 rfl 2 rfl ?_
  obtain ⟨w6, Ew6, E⟩ := bd_some E
  have hsw6 : ShM w6.2 := ShM_core ((kpX12_minuteOf _ _ _) _ Ew6) hs
  refine ea_iald (pc := 39) dX12_isAheadOf_39 (cShM_340 hs).1 (cShM_340 hs).2.1 (ea_vpl (cShM_340 hs).2.2 z5) ?_
  refine ea_callV (pc := 40) (d' := d - 1) (As := [vI x2, vI (ea_i h 340 (Int32.toNatClampNeg x2))]) (st := [vI 2]) dX12_isAheadOf_40 kX12_minuteOf (sX12_minuteOf (d := d - 1) (by omega) hs Ew6) (by omega) rfl (Nat.le_of_ble_eq_true rfl) ew_1839 ew_1841 ew_63 (ci := 12) rfl (by decide) (cShM_326 hs).1 (cShM_326 hs).2.1 ?_
  obtain ⟨z7, E⟩ := gd_some E
  refine ea_imul (pc := 43) dX12_isAheadOf_43 ?_
  refine ea_aload_n (pc := 44) dX12_isAheadOf_44 rfl 0 rfl ?_
  refine ea_getR (pc := 45) dX12_isAheadOf_45 ec_12 (k := 18) (Nat.le_of_ble_eq_true rfl) rfl (Or.inl ew_1420) (cShM_326 hsw6).1 (cShM_326 hsw6).2.1 (rShM_326_18 hsw6) ?_
  refine ea_iload_n (pc := 48) dX12_isAheadOf_48 rfl 2 rfl ?_
  refine ea_iald (pc := 49) dX12_isAheadOf_49 (cShM_340 hsw6).1 (cShM_340 hsw6).2.1 (ea_vpl (cShM_340 hsw6).2.2 z7) ?_
  refine ea_iconst (pc := 50) dX12_isAheadOf_50 (v := 2) rfl ?_
  refine ea_irem (pc := 51) dX12_isAheadOf_51 (by decide) ?_
  refine ea_if_ne (pc := 52) (tgt := 59) dX12_isAheadOf_52 rfl (fun c8 => ?_) (fun c8 => ?_)
  · have E := (if_neg c8).symm.trans E
    refine ea_iconst (pc := 59) dX12_isAheadOf_59 (v := 0) rfl ?_
    exact ea_fewer [1, 2, 3] rfl (kJ60 (x1 : Int32) (x2 : Int32) ((sx1 + sx0) : Int32) (0 : Int32) (((2 : Int32) * w6.1) : Int32) w6.2 _ _ E hsw6)
  · have E := (if_pos c8).symm.trans E
    refine ea_iconst (pc := 55) dX12_isAheadOf_55 (v := 1) rfl ?_
    refine ea_goto (pc := 56) (tgt := 60) dX12_isAheadOf_56 rfl ?_
    exact ea_fewer [1, 2, 3] rfl (kJ60 (x1 : Int32) (x2 : Int32) ((sx1 + sx0) : Int32) (1 : Int32) (((2 : Int32) * w6.1) : Int32) w6.2 _ _ E hsw6)
theorem kBX12_isAheadOf_29 {J60 : Int32 → Int32 → Int32 → Int32 → Int32 → ea_H → Option (Int32 × ea_H)}  (cJ60 : ∀ (x1 : Int32) (x2 : Int32) (x3 : Int32) (sx0 : Int32) (sx1 : Int32) (h : ea_H), kp (ea_core h) (J60 x1 x2 x3 sx0 sx1 h)) {x1 : Int32} {x2 : Int32} {sx0 : Int32} {sx1 : Int32} {h : ea_H} : kp (ea_core h) (BX12_isAheadOf_29 J60 x1 x2 sx0 sx1 h) :=
  (kp_gd (kp_bind (kp_tw (kpX12_minuteOf _ _ _) rfl) fun w6 hcw6 => (kp_gd (kp_ite (kp_tw (cJ60 _ _ _ _ _ _) hcw6) (kp_tw (cJ60 _ _ _ _ _ _) hcw6)))))
theorem lBX12_isAheadOf_29 {J60 : Int32 → Int32 → Int32 → Int32 → Int32 → ea_H → Option (Int32 × ea_H)} {J60_ : Int32 → Int32 → Int32 → Int32 → Int32 → ea_H → Option (Int32 × ea_H)}  (mJ60 : ∀ (x1 : Int32) (x2 : Int32) (x3 : Int32) (sx0 : Int32) (sx1 : Int32) (h : ea_H), fle (J60 x1 x2 x3 sx0 sx1 h) (J60_ x1 x2 x3 sx0 sx1 h)) {x1 : Int32} {x2 : Int32} {sx0 : Int32} {sx1 : Int32} {h : ea_H} : fle (BX12_isAheadOf_29 J60 x1 x2 sx0 sx1 h) (BX12_isAheadOf_29 J60_ x1 x2 sx0 sx1 h) :=
  (fle_gd (fle_bind (fle_rfl _) fun _ => (fle_gd (fle_ite (mJ60 _ _ _ _ _ _) (mJ60 _ _ _ _ _ _)))))
theorem nBX12_isAheadOf_29 {J60 : Int32 → Int32 → Int32 → Int32 → Int32 → ea_H → Option (Int32 × ea_H)} {J60_ : Nat → (Int32 → Int32 → Int32 → Int32 → Int32 → ea_H → Option (Int32 × ea_H))}  (mJ60 : ∀ (x1 : Int32) (x2 : Int32) (x3 : Int32) (sx0 : Int32) (sx1 : Int32) (h : ea_H), fct (J60 x1 x2 x3 sx0 sx1 h) (fun f => J60_ f x1 x2 x3 sx0 sx1 h)) {x1 : Int32} {x2 : Int32} {sx0 : Int32} {sx1 : Int32} {h : ea_H} : fct (BX12_isAheadOf_29 J60 x1 x2 sx0 sx1 h) (fun f => BX12_isAheadOf_29 (J60_ f) x1 x2 sx0 sx1 h) :=
  (fct_gd (fct_bind (fct_rfl _) fun _ => (fct_gd (fct_ite (mJ60 _ _ _ _ _ _) (mJ60 _ _ _ _ _ _)))))
noncomputable def BX12_isAheadOf_60 (x1 : Int32) (x2 : Int32) (x3 : Int32) (sx0 : Int32) (sx1 : Int32) (h : ea_H) : Option (Int32 × ea_H) :=
  (if x3 < (sx1 + sx0) then (some ((1 : Int32), h)) else (if x3 = (sx1 + sx0) then (if x2 ≤ x1 then (some ((0 : Int32), h)) else (some ((1 : Int32), h))) else (some ((0 : Int32), h))))
theorem tBX12_isAheadOf_60 {d : Nat} {h0 : ea_H} (hd : 3 ≤ d)  {x1 : Int32} {x2 : Int32} {x3 : Int32} {sx0 : Int32} {sx1 : Int32} {h : ea_H} {r : Int32} {h' : ea_H} (E : BX12_isAheadOf_60 x1 x2 x3 sx0 sx1 h = some (r, h')) (hs : ShM h) : ea_W mX12_isAheadOf d h0 (some (vI r)) h' 60 [(1, vI x1), (2, vI x2), (3, vI x3)] [vI sx0, vI sx1] h := by
  unfold BX12_isAheadOf_60 at E
  refine ea_iadd (pc := 60) dX12_isAheadOf_60 ?_
  refine ea_istore (pc := 61) (lv' := [(1, vI x1), (2, vI x2), (3, vI x3), (4, vI (sx1 + sx0))]) dX12_isAheadOf_61 (Nat.le_of_ble_eq_true rfl) [1, 2, 3, 0] rfl ?_
  refine ea_iload_n (pc := 63) dX12_isAheadOf_63 rfl 2 rfl ?_
  refine ea_iload (pc := 64) dX12_isAheadOf_64 3 rfl ?_
  refine ea_icmp_lt (pc := 66) (tgt := 80) dX12_isAheadOf_66 rfl (fun c11 => ?_) (fun c11 => ?_)
  · have E := (if_pos c11).symm.trans E
    refine ea_iconst (pc := 80) dX12_isAheadOf_80 (v := 1) rfl ?_
    refine ea_goto (pc := 81) (tgt := 85) dX12_isAheadOf_81 rfl ?_
    exact ea_iretO (pc := 85) dX12_isAheadOf_85 rfl (ea_bn (Or.inr rfl)) E
  · have E := (if_neg c11).symm.trans E
    refine ea_iload_n (pc := 69) dX12_isAheadOf_69 rfl 2 rfl ?_
    refine ea_iload (pc := 70) dX12_isAheadOf_70 3 rfl ?_
    refine ea_icmp_ne (pc := 72) (tgt := 84) dX12_isAheadOf_72 rfl (fun c10 => ?_) (fun c10 => ?_)
    · have E := (if_neg c10).symm.trans E
      refine ea_iconst (pc := 84) dX12_isAheadOf_84 (v := 0) rfl ?_
      exact ea_iretO (pc := 85) dX12_isAheadOf_85 rfl (ea_bn (Or.inl rfl)) E
    · have E := (if_pos c10).symm.trans E
      refine ea_iload_n (pc := 75) dX12_isAheadOf_75 rfl 0 rfl ?_
      refine ea_iload_n (pc := 76) dX12_isAheadOf_76 rfl 1 rfl ?_
      refine ea_icmp_ge (pc := 77) (tgt := 84) dX12_isAheadOf_77 rfl (fun c9 => ?_) (fun c9 => ?_)
      · have E := (if_pos c9).symm.trans E
        refine ea_iconst (pc := 84) dX12_isAheadOf_84 (v := 0) rfl ?_
        exact ea_iretO (pc := 85) dX12_isAheadOf_85 rfl (ea_bn (Or.inl rfl)) E
      · have E := (if_neg c9).symm.trans E
        refine ea_iconst (pc := 80) dX12_isAheadOf_80 (v := 1) rfl ?_
        refine ea_goto (pc := 81) (tgt := 85) dX12_isAheadOf_81 rfl ?_
        exact ea_iretO (pc := 85) dX12_isAheadOf_85 rfl (ea_bn (Or.inr rfl)) E
theorem kBX12_isAheadOf_60  {x1 : Int32} {x2 : Int32} {x3 : Int32} {sx0 : Int32} {sx1 : Int32} {h : ea_H} : kp (ea_core h) (BX12_isAheadOf_60 x1 x2 x3 sx0 sx1 h) :=
  (kp_ite (kp_ret rfl) (kp_ite (kp_ite (kp_ret rfl) (kp_ret rfl)) (kp_ret rfl)))
theorem lBX12_isAheadOf_60  {x1 : Int32} {x2 : Int32} {x3 : Int32} {sx0 : Int32} {sx1 : Int32} {h : ea_H} : fle (BX12_isAheadOf_60 x1 x2 x3 sx0 sx1 h) (BX12_isAheadOf_60 x1 x2 x3 sx0 sx1 h) :=
  (fle_rfl _)
theorem nBX12_isAheadOf_60  {x1 : Int32} {x2 : Int32} {x3 : Int32} {sx0 : Int32} {sx1 : Int32} {h : ea_H} : fct (BX12_isAheadOf_60 x1 x2 x3 sx0 sx1 h) (fun f => BX12_isAheadOf_60 x1 x2 x3 sx0 sx1 h) :=
  (fct_rfl _)
noncomputable def gX12_isAheadOf : Nat → (Int32 → Int32 → ea_H → Option (Int32 × ea_H)) × (Int32 → Int32 → Int32 → Int32 → ea_H → Option (Int32 × ea_H)) × (Int32 → Int32 → Int32 → Int32 → Int32 → ea_H → Option (Int32 × ea_H))
  | 0 => (fun _ _ _ => none, fun _ _ _ _ _ => none, fun _ _ _ _ _ _ => none)
  | f + 1 => (BX12_isAheadOf_0 (gX12_isAheadOf f).2.1, BX12_isAheadOf_29 (gX12_isAheadOf f).2.2, BX12_isAheadOf_60)
theorem mgX12_isAheadOf : ∀ f : Nat, (∀ (x1 : Int32) (x2 : Int32) (h : ea_H), fle ((gX12_isAheadOf f).1 x1 x2 h) ((gX12_isAheadOf (f + 1)).1 x1 x2 h)) ∧ (∀ (x1 : Int32) (x2 : Int32) (sx0 : Int32) (sx1 : Int32) (h : ea_H), fle ((gX12_isAheadOf f).2.1 x1 x2 sx0 sx1 h) ((gX12_isAheadOf (f + 1)).2.1 x1 x2 sx0 sx1 h)) ∧ (∀ (x1 : Int32) (x2 : Int32) (x3 : Int32) (sx0 : Int32) (sx1 : Int32) (h : ea_H), fle ((gX12_isAheadOf f).2.2 x1 x2 x3 sx0 sx1 h) ((gX12_isAheadOf (f + 1)).2.2 x1 x2 x3 sx0 sx1 h)) := by
  intro f
  induction f with
  | zero => exact ⟨fun _ _ _ => fle_none _, fun _ _ _ _ _ => fle_none _, fun _ _ _ _ _ _ => fle_none _⟩
  | succ f ih => exact ⟨fun _ _ _ => lBX12_isAheadOf_0 ih.2.1, fun _ _ _ _ _ => lBX12_isAheadOf_29 ih.2.2, fun _ _ _ _ _ _ => lBX12_isAheadOf_60⟩
noncomputable def qX12_isAheadOf_0 (x1 : Int32) (x2 : Int32) (h : ea_H) : Option (Int32 × ea_H) := flim fun f => (gX12_isAheadOf f).1 x1 x2 h
noncomputable def qX12_isAheadOf_29 (x1 : Int32) (x2 : Int32) (sx0 : Int32) (sx1 : Int32) (h : ea_H) : Option (Int32 × ea_H) := flim fun f => (gX12_isAheadOf f).2.1 x1 x2 sx0 sx1 h
noncomputable def qX12_isAheadOf_60 (x1 : Int32) (x2 : Int32) (x3 : Int32) (sx0 : Int32) (sx1 : Int32) (h : ea_H) : Option (Int32 × ea_H) := flim fun f => (gX12_isAheadOf f).2.2 x1 x2 x3 sx0 sx1 h
theorem fqX12_isAheadOf_0 (x1 : Int32) (x2 : Int32) (h : ea_H) : fct (qX12_isAheadOf_0 x1 x2 h) fun f => (gX12_isAheadOf f).1 x1 x2 h := flim_ct fun f => (mgX12_isAheadOf f).1 x1 x2 h
theorem fqX12_isAheadOf_29 (x1 : Int32) (x2 : Int32) (sx0 : Int32) (sx1 : Int32) (h : ea_H) : fct (qX12_isAheadOf_29 x1 x2 sx0 sx1 h) fun f => (gX12_isAheadOf f).2.1 x1 x2 sx0 sx1 h := flim_ct fun f => (mgX12_isAheadOf f).2.1 x1 x2 sx0 sx1 h
theorem fqX12_isAheadOf_60 (x1 : Int32) (x2 : Int32) (x3 : Int32) (sx0 : Int32) (sx1 : Int32) (h : ea_H) : fct (qX12_isAheadOf_60 x1 x2 x3 sx0 sx1 h) fun f => (gX12_isAheadOf f).2.2 x1 x2 x3 sx0 sx1 h := flim_ct fun f => (mgX12_isAheadOf f).2.2 x1 x2 x3 sx0 sx1 h
/-- how a block opens -/
theorem uqX12_isAheadOf_0 {x1 : Int32} {x2 : Int32} {h : ea_H} {P : Int32 × ea_H → Prop} (H : sat (BX12_isAheadOf_0 qX12_isAheadOf_29 x1 x2 h) P) : sat (qX12_isAheadOf_0 x1 x2 h) P := by
  obtain ⟨x, e, hp⟩ := H
  obtain ⟨n, hn⟩ := nBX12_isAheadOf_0 fqX12_isAheadOf_29 x e
  exact ⟨x, flim_at (fun f => (mgX12_isAheadOf f).1 x1 x2 h) (f := n + 1) (hn n (Nat.le_refl _)), hp⟩
/-- how a block opens -/
theorem uqX12_isAheadOf_29 {x1 : Int32} {x2 : Int32} {sx0 : Int32} {sx1 : Int32} {h : ea_H} {P : Int32 × ea_H → Prop} (H : sat (BX12_isAheadOf_29 qX12_isAheadOf_60 x1 x2 sx0 sx1 h) P) : sat (qX12_isAheadOf_29 x1 x2 sx0 sx1 h) P := by
  obtain ⟨x, e, hp⟩ := H
  obtain ⟨n, hn⟩ := nBX12_isAheadOf_29 fqX12_isAheadOf_60 x e
  exact ⟨x, flim_at (fun f => (mgX12_isAheadOf f).2.1 x1 x2 sx0 sx1 h) (f := n + 1) (hn n (Nat.le_refl _)), hp⟩
/-- how a block opens -/
theorem uqX12_isAheadOf_60 {x1 : Int32} {x2 : Int32} {x3 : Int32} {sx0 : Int32} {sx1 : Int32} {h : ea_H} {P : Int32 × ea_H → Prop} (H : sat (BX12_isAheadOf_60 x1 x2 x3 sx0 sx1 h) P) : sat (qX12_isAheadOf_60 x1 x2 x3 sx0 sx1 h) P := by
  obtain ⟨x, e, hp⟩ := H
  obtain ⟨n, hn⟩ := nBX12_isAheadOf_60 x e
  exact ⟨x, flim_at (fun f => (mgX12_isAheadOf f).2.2 x1 x2 x3 sx0 sx1 h) (f := n + 1) (hn n (Nat.le_refl _)), hp⟩
theorem kgX12_isAheadOf : ∀ f : Nat, (∀ (x1 : Int32) (x2 : Int32) (h : ea_H), kp (ea_core h) ((gX12_isAheadOf f).1 x1 x2 h)) ∧ (∀ (x1 : Int32) (x2 : Int32) (sx0 : Int32) (sx1 : Int32) (h : ea_H), kp (ea_core h) ((gX12_isAheadOf f).2.1 x1 x2 sx0 sx1 h)) ∧ (∀ (x1 : Int32) (x2 : Int32) (x3 : Int32) (sx0 : Int32) (sx1 : Int32) (h : ea_H), kp (ea_core h) ((gX12_isAheadOf f).2.2 x1 x2 x3 sx0 sx1 h)) := by
  intro f
  induction f with
  | zero => exact ⟨fun _ _ _ => kp_none _, fun _ _ _ _ _ => kp_none _, fun _ _ _ _ _ _ => kp_none _⟩
  | succ f ih => exact ⟨fun _ _ _ => kBX12_isAheadOf_0 ih.2.1, fun _ _ _ _ _ => kBX12_isAheadOf_29 ih.2.2, fun _ _ _ _ _ _ => kBX12_isAheadOf_60⟩
theorem tgX12_isAheadOf {d : Nat} {h0 : ea_H} (hd : 3 ≤ d) : ∀ f : Nat, (∀ (x1 : Int32) (x2 : Int32) (h : ea_H) (r : Int32) (h' : ea_H), (gX12_isAheadOf f).1 x1 x2 h = some (r, h') → ShM h → ea_W mX12_isAheadOf d h0 (some (vI r)) h' 0 [(0, vR (some 326)), (1, vI x1), (2, vI x2)] [] h) ∧ (∀ (x1 : Int32) (x2 : Int32) (sx0 : Int32) (sx1 : Int32) (h : ea_H) (r : Int32) (h' : ea_H), (gX12_isAheadOf f).2.1 x1 x2 sx0 sx1 h = some (r, h') → ShM h → ea_W mX12_isAheadOf d h0 (some (vI r)) h' 29 [(0, vR (some 326)), (1, vI x1), (2, vI x2)] [vI sx0, vI sx1] h) ∧ (∀ (x1 : Int32) (x2 : Int32) (x3 : Int32) (sx0 : Int32) (sx1 : Int32) (h : ea_H) (r : Int32) (h' : ea_H), (gX12_isAheadOf f).2.2 x1 x2 x3 sx0 sx1 h = some (r, h') → ShM h → ea_W mX12_isAheadOf d h0 (some (vI r)) h' 60 [(1, vI x1), (2, vI x2), (3, vI x3)] [vI sx0, vI sx1] h) := by
  intro f
  induction f with
  | zero => exact ⟨fun _ _ _ _ _ E => no_some E, fun _ _ _ _ _ _ _ E => no_some E, fun _ _ _ _ _ _ _ _ E => no_some E⟩
  | succ f ih => exact ⟨fun _ _ _ _ _ E hs => tBX12_isAheadOf_0 hd ih.2.1 E hs, fun _ _ _ _ _ _ _ E hs => tBX12_isAheadOf_29 hd ih.2.2 E hs, fun _ _ _ _ _ _ _ _ E hs => tBX12_isAheadOf_60 hd E hs⟩
noncomputable def qX12_isAheadOf (x1 : Int32) (x2 : Int32) (h : ea_H) : Option (Int32 × ea_H) := qX12_isAheadOf_0 x1 x2 h
theorem sX12_isAheadOf {d : Nat} {x1 : Int32} {x2 : Int32} {h : ea_H} {r : Int32} {h' : ea_H} (hd : 3 ≤ d) (hs : ShM h) (K : qX12_isAheadOf x1 x2 h = some (r, h')) : ea_Met mX12_isAheadOf d [vR (some 326), vI x1, vI x2] h (some (vI r)) h' := by
  unfold qX12_isAheadOf at K
  obtain ⟨n, hn⟩ := fqX12_isAheadOf_0 x1 x2 h _ K
  have W := (tgX12_isAheadOf (d := d) (h0 := h) hd n).1 x1 x2 h _ _ (hn n (Nat.le_refl _)) hs
  exact ea_enter rfl (Nat.le_of_ble_eq_true rfl) W
theorem kpX12_isAheadOf (x1 : Int32) (x2 : Int32) (h : ea_H) : kp (ea_core h) (qX12_isAheadOf x1 x2 h) := fun x e => by
  obtain ⟨n, hn⟩ := fqX12_isAheadOf_0 x1 x2 h x e
  exact (kgX12_isAheadOf n).1 x1 x2 h x (hn n (Nat.le_refl _))
noncomputable def BX12_isMore_0 (x1 : Int32) (h : ea_H) : Option (Int32 × ea_H) :=
  (gd (vp_in x1 70) (gd (vp_in (x1 / (7 : Int32)) 10) (if ((2 : Int32) * ((ea_i h 328 (Int32.toNatClampNeg (x1 / (7 : Int32)))) - (1 : Int32))) ≤ (ea_i h 340 (Int32.toNatClampNeg x1)) then (some ((0 : Int32), h)) else (gd (vp_in x1 70) (Option.bind (qX12_minuteOf (x1 : Int32) ((ea_i h 340 (Int32.toNatClampNeg x1)) : Int32) h) fun w4 => (if (10079 : Int32) < w4.1 then (some ((0 : Int32), w4.2)) else (some ((1 : Int32), w4.2))))))))
theorem tBX12_isMore_0 {d : Nat} {h0 : ea_H} (hd : 3 ≤ d)  {x1 : Int32} {h : ea_H} {r : Int32} {h' : ea_H} (E : BX12_isMore_0 x1 h = some (r, h')) (hs : ShM h) : ea_W mX12_isMore d h0 (some (vI r)) h' 0 [(0, vR (some 326)), (1, vI x1)] [] h := by
  unfold BX12_isMore_0 at E
  obtain ⟨z1, E⟩ := gd_some E
  refine ea_aload_n (pc := 0) dX12_isMore_0 rfl 0 rfl ?_
  refine ea_getR (pc := 1) dX12_isMore_1 ec_12 (k := 18) (Nat.le_of_ble_eq_true rfl) rfl (Or.inl ew_1420) (cShM_326 hs).1 (cShM_326 hs).2.1 (rShM_326_18 hs) ?_
  refine ea_iload_n (pc := 4) dX12_isMore_4 rfl 1 rfl ?_
  obtain ⟨z2, E⟩ := gd_some E
  refine ea_iald (pc := 5) dX12_isMore_5 (cShM_340 hs).1 (cShM_340 hs).2.1 (ea_vpl (cShM_340 hs).2.2 z1) ?_
  refine ea_iconst (pc := 6) dX12_isMore_6 (v := 2) rfl ?_
  refine ea_aload_n (pc := 7) dX12_isMore_7 rfl 0 rfl ?_
  refine ea_getR (pc := 8) dX12_isMore_8 ec_12 (k := 4) (Nat.le_of_ble_eq_true rfl) rfl (Or.inl ew_1406) (cShM_326 hs).1 (cShM_326 hs).2.1 (rShM_326_4 hs) ?_
  refine ea_iload_n (pc := 11) dX12_isMore_11 rfl 1 rfl ?_
  refine ea_bipush (pc := 12) dX12_isMore_12 (v := 7) rfl ?_
  refine ea_idiv (pc := 14) dX12_isMore_14 (by decide) ?_
  refine ea_iald (pc := 15) dX12_isMore_15 (cShM_328 hs).1 (cShM_328 hs).2.1 (ea_vpl (cShM_328 hs).2.2 z2) ?_
  refine ea_iconst (pc := 16) dX12_isMore_16 (v := 1) rfl ?_
  refine ea_isub (pc := 17) dX12_isMore_17 ?_
  refine ea_imul (pc := 18) dX12_isMore_18 ?_
  refine ea_icmp_ge (pc := 19) (tgt := 43) dX12_isMore_19 rfl (fun c6 => ?_) (fun c6 => ?_)
  · have E := (if_pos c6).symm.trans E
    refine ea_iconst (pc := 43) dX12_isMore_43 (v := 0) rfl ?_
    exact ea_iretO (pc := 44) dX12_isMore_44 rfl (ea_bn (Or.inl rfl)) E
  · have E := (if_neg c6).symm.trans E
    obtain ⟨z3, E⟩ := gd_some E
    refine ea_aload_n (pc := 22) dX12_isMore_22 rfl 0 rfl ?_
    refine ea_iload_n (pc := 23) dX12_isMore_23 rfl 1 rfl ?_
    refine ea_aload_n (pc := 24) dX12_isMore_24 rfl 0 rfl ?_
    refine ea_getR (pc := 25) dX12_isMore_25 ec_12 (k := 18) (Nat.le_of_ble_eq_true rfl) rfl (Or.inl ew_1420) (cShM_326 hs).1 (cShM_326 hs).2.1 (rShM_326_18 hs) ?_
    refine ea_iload_n (pc := 28) dX12_isMore_28 rfl 1 rfl ?_
    obtain ⟨w4, Ew4, E⟩ := bd_some E
    have hsw4 : ShM w4.2 := ShM_core ((kpX12_minuteOf _ _ _) _ Ew4) hs
    refine ea_iald (pc := 29) dX12_isMore_29 (cShM_340 hs).1 (cShM_340 hs).2.1 (ea_vpl (cShM_340 hs).2.2 z3) ?_
    refine ea_callV (pc := 30) (d' := d - 1) (As := [vI x1, vI (ea_i h 340 (Int32.toNatClampNeg x1))]) (st := []) dX12_isMore_30 kX12_minuteOf (sX12_minuteOf (d := d - 1) (by omega) hs Ew4) (by omega) rfl (Nat.le_of_ble_eq_true rfl) ew_1839 ew_1841 ew_63 (ci := 12) rfl (by decide) (cShM_326 hs).1 (cShM_326 hs).2.1 ?_
    refine ea_sipush (pc := 33) dX12_isMore_33 (v := 10079) rfl ?_
    refine ea_icmp_gt (pc := 36) (tgt := 43) dX12_isMore_36 rfl (fun c5 => ?_) (fun c5 => ?_)
    · have E := (if_pos c5).symm.trans E
      refine ea_iconst (pc := 43) dX12_isMore_43 (v := 0) rfl ?_
      exact ea_iretO (pc := 44) dX12_isMore_44 rfl (ea_bn (Or.inl rfl)) E
    · have E := (if_neg c5).symm.trans E
      refine ea_iconst (pc := 39) dX12_isMore_39 (v := 1) rfl ?_
      refine ea_goto (pc := 40) (tgt := 44) dX12_isMore_40 rfl ?_
      exact ea_iretO (pc := 44) dX12_isMore_44 rfl (ea_bn (Or.inr rfl)) E
theorem kBX12_isMore_0  {x1 : Int32} {h : ea_H} : kp (ea_core h) (BX12_isMore_0 x1 h) :=
  (kp_gd (kp_gd (kp_ite (kp_ret rfl) (kp_gd (kp_bind (kp_tw (kpX12_minuteOf _ _ _) rfl) fun w4 hcw4 => (kp_ite (kp_ret hcw4) (kp_ret hcw4)))))))
noncomputable def qX12_isMore (x1 : Int32) (h : ea_H) : Option (Int32 × ea_H) := BX12_isMore_0 x1 h
theorem sX12_isMore {d : Nat} {x1 : Int32} {h : ea_H} {r : Int32} {h' : ea_H} (hd : 3 ≤ d) (hs : ShM h) (K : qX12_isMore x1 h = some (r, h')) : ea_Met mX12_isMore d [vR (some 326), vI x1] h (some (vI r)) h' := by
  unfold qX12_isMore at K
  have W := tBX12_isMore_0 hd (h0 := h) K hs
  exact ea_enter rfl (Nat.le_of_ble_eq_true rfl) W
theorem kpX12_isMore (x1 : Int32) (h : ea_H) : kp (ea_core h) (qX12_isMore x1 h) := kBX12_isMore_0
noncomputable def BX12_townOf_0 (x1 : Int32) (x2 : Int32) (h : ea_H) : Option (Int32 × ea_H) :=
  (gd (vp_in (((8 : Int32) * (x1 / (7 : Int32))) + x2) 80) (some ((ea_i h 329 (Int32.toNatClampNeg (((8 : Int32) * (x1 / (7 : Int32))) + x2))), h)))
theorem tBX12_townOf_0 {d : Nat} {h0 : ea_H} (hd : 1 ≤ d)  {x1 : Int32} {x2 : Int32} {h : ea_H} {r : Int32} {h' : ea_H} (E : BX12_townOf_0 x1 x2 h = some (r, h')) (hs : ShM h) : ea_W mX12_townOf d h0 (some (vI r)) h' 0 [(0, vR (some 326)), (1, vI x1), (2, vI x2)] [] h := by
  unfold BX12_townOf_0 at E
  obtain ⟨z1, E⟩ := gd_some E
  refine ea_aload_n (pc := 0) dX12_townOf_0 rfl 0 rfl ?_
  refine ea_getR (pc := 1) dX12_townOf_1 ec_12 (k := 5) (Nat.le_of_ble_eq_true rfl) rfl (Or.inl ew_1407) (cShM_326 hs).1 (cShM_326 hs).2.1 (rShM_326_5 hs) ?_
  refine ea_bipush (pc := 4) dX12_townOf_4 (v := 8) rfl ?_
  refine ea_iload_n (pc := 6) dX12_townOf_6 rfl 1 rfl ?_
  refine ea_bipush (pc := 7) dX12_townOf_7 (v := 7) rfl ?_
  refine ea_idiv (pc := 9) dX12_townOf_9 (by decide) ?_
  refine ea_imul (pc := 10) dX12_townOf_10 ?_
  refine ea_iload_n (pc := 11) dX12_townOf_11 rfl 2 rfl ?_
  refine ea_iadd (pc := 12) dX12_townOf_12 ?_
  refine ea_iald (pc := 13) dX12_townOf_13 (cShM_329 hs).1 (cShM_329 hs).2.1 (ea_vpl (cShM_329 hs).2.2 z1) ?_
  exact ea_iretO (pc := 14) dX12_townOf_14 rfl rfl E
theorem kBX12_townOf_0  {x1 : Int32} {x2 : Int32} {h : ea_H} : kp (ea_core h) (BX12_townOf_0 x1 x2 h) :=
  (kp_gd (kp_ret rfl))
noncomputable def qX12_townOf (x1 : Int32) (x2 : Int32) (h : ea_H) : Option (Int32 × ea_H) := BX12_townOf_0 x1 x2 h
theorem sX12_townOf {d : Nat} {x1 : Int32} {x2 : Int32} {h : ea_H} {r : Int32} {h' : ea_H} (hd : 1 ≤ d) (hs : ShM h) (K : qX12_townOf x1 x2 h = some (r, h')) : ea_Met mX12_townOf d [vR (some 326), vI x1, vI x2] h (some (vI r)) h' := by
  unfold qX12_townOf at K
  have W := tBX12_townOf_0 hd (h0 := h) K hs
  exact ea_enter rfl (Nat.le_of_ble_eq_true rfl) W
theorem kpX12_townOf (x1 : Int32) (x2 : Int32) (h : ea_H) : kp (ea_core h) (qX12_townOf x1 x2 h) := kBX12_townOf_0
noncomputable def BX12_going_0 (J7 : Int32 → Int32 → ea_H → Option (Int32 × ea_H)) (x1 : Int32) (x2 : Int32) (h : ea_H) : Option (Int32 × ea_H) :=
  (gd (vp_in x1 12) (ea_let (ea_i h 346 (Int32.toNatClampNeg x1)) fun (v2 : Int32) => (J7 (x2 : Int32) (v2 : Int32) h)))
theorem tBX12_going_0 {d : Nat} {h0 : ea_H} (hd : 1 ≤ d) {J7 : Int32 → Int32 → ea_H → Option (Int32 × ea_H)}  (kJ7 : ∀ (x2 : Int32) (x3 : Int32) (h : ea_H) (r : Int32) (h' : ea_H), J7 x2 x3 h = some (r, h') → ShM h → ea_W mX12_going d h0 (some (vI r)) h' 7 [(0, vR (some 326)), (2, vI x2), (3, vI x3)] [] h) {x1 : Int32} {x2 : Int32} {h : ea_H} {r : Int32} {h' : ea_H} (E : BX12_going_0 J7 x1 x2 h = some (r, h')) (hs : ShM h) : ea_W mX12_going d h0 (some (vI r)) h' 0 [(0, vR (some 326)), (1, vI x1), (2, vI x2)] [] h := by
  unfold BX12_going_0 at E
  obtain ⟨z1, E⟩ := gd_some E
  refine ea_aload_n (pc := 0) dX12_going_0 rfl 0 rfl ?_
  refine ea_getR (pc := 1) dX12_going_1 ec_12 (k := 24) (Nat.le_of_ble_eq_true rfl) rfl (Or.inl ew_1426) (cShM_326 hs).1 (cShM_326 hs).2.1 (rShM_326_24 hs) ?_
  refine ea_iload_n (pc := 4) dX12_going_4 rfl 1 rfl ?_
  obtain ⟨v2, ev2, E⟩ := let_some E
  refine ea_iald (pc := 5) dX12_going_5 (cShM_346 hs).1 (cShM_346 hs).2.1 (ea_vpl (cShM_346 hs).2.2 z1) ?_
  refine ea_istore_n (pc := 6) (lv' := [(0, vR (some 326)), (2, vI x2), (3, vI v2)]) dX12_going_6 rfl (Nat.le_of_ble_eq_true rfl) [1, 3, 0] (by rw [ev2]; rfl) ?_
  exact (kJ7 (x2 : Int32) (v2 : Int32) h _ _ E hs)
theorem kBX12_going_0 {J7 : Int32 → Int32 → ea_H → Option (Int32 × ea_H)}  (cJ7 : ∀ (x2 : Int32) (x3 : Int32) (h : ea_H), kp (ea_core h) (J7 x2 x3 h)) {x1 : Int32} {x2 : Int32} {h : ea_H} : kp (ea_core h) (BX12_going_0 J7 x1 x2 h) :=
  (kp_gd (kp_let (kp_tw (cJ7 _ _ _) rfl)))
theorem lBX12_going_0 {J7 : Int32 → Int32 → ea_H → Option (Int32 × ea_H)} {J7_ : Int32 → Int32 → ea_H → Option (Int32 × ea_H)}  (mJ7 : ∀ (x2 : Int32) (x3 : Int32) (h : ea_H), fle (J7 x2 x3 h) (J7_ x2 x3 h)) {x1 : Int32} {x2 : Int32} {h : ea_H} : fle (BX12_going_0 J7 x1 x2 h) (BX12_going_0 J7_ x1 x2 h) :=
  (fle_gd (fle_let fun _ => (mJ7 _ _ _)))
theorem nBX12_going_0 {J7 : Int32 → Int32 → ea_H → Option (Int32 × ea_H)} {J7_ : Nat → (Int32 → Int32 → ea_H → Option (Int32 × ea_H))}  (mJ7 : ∀ (x2 : Int32) (x3 : Int32) (h : ea_H), fct (J7 x2 x3 h) (fun f => J7_ f x2 x3 h)) {x1 : Int32} {x2 : Int32} {h : ea_H} : fct (BX12_going_0 J7 x1 x2 h) (fun f => BX12_going_0 (J7_ f) x1 x2 h) :=
  (fct_gd (fct_let fun _ => (mJ7 _ _ _)))
noncomputable def BX12_going_7 (J7 : Int32 → Int32 → ea_H → Option (Int32 × ea_H)) (x2 : Int32) (x3 : Int32) (h : ea_H) : Option (Int32 × ea_H) :=
  (if x3 = ((-1) : Int32) then (some (x3, h)) else (gd (vp_in x3 1000) (if x2 ≤ (ea_i h 336 (Int32.toNatClampNeg x3)) then (some (x3, h)) else (gd (vp_in x3 1000) (ea_let (ea_i h 345 (Int32.toNatClampNeg x3)) fun (v5 : Int32) => (J7 (x2 : Int32) (v5 : Int32) h))))))
theorem tBX12_going_7 {d : Nat} {h0 : ea_H} (hd : 1 ≤ d) {J7 : Int32 → Int32 → ea_H → Option (Int32 × ea_H)}  (kJ7 : ∀ (x2 : Int32) (x3 : Int32) (h : ea_H) (r : Int32) (h' : ea_H), J7 x2 x3 h = some (r, h') → ShM h → ea_W mX12_going d h0 (some (vI r)) h' 7 [(0, vR (some 326)), (2, vI x2), (3, vI x3)] [] h) {x2 : Int32} {x3 : Int32} {h : ea_H} {r : Int32} {h' : ea_H} (E : BX12_going_7 J7 x2 x3 h = some (r, h')) (hs : ShM h) : ea_W mX12_going d h0 (some (vI r)) h' 7 [(0, vR (some 326)), (2, vI x2), (3, vI x3)] [] h := by
  unfold BX12_going_7 at E
  refine ea_iload_n (pc := 7) dX12_going_7 rfl 2 rfl ?_
  refine ea_iconst (pc := 8) dX12_going_8 (v := (-1)) rfl ?_
  refine ea_icmp_eq (pc := 9) (tgt := 32) dX12_going_9 rfl (fun c7 => ?_) (fun c7 => ?_)
  · have E := (if_pos c7).symm.trans E
    refine ea_iload_n (pc := 32) dX12_going_32 rfl 2 rfl ?_
    exact ea_iretO (pc := 33) dX12_going_33 rfl rfl E
  · have E := (if_neg c7).symm.trans E
    obtain ⟨z3, E⟩ := gd_some E
    refine ea_aload_n (pc := 12) dX12_going_12 rfl 0 rfl ?_
    refine ea_getR (pc := 13) dX12_going_13 ec_12 (k := 14) (Nat.le_of_ble_eq_true rfl) rfl (Or.inl ew_1416) (cShM_326 hs).1 (cShM_326 hs).2.1 (rShM_326_14 hs) ?_
    refine ea_iload_n (pc := 16) dX12_going_16 rfl 2 rfl ?_
    refine ea_iald (pc := 17) dX12_going_17 (cShM_336 hs).1 (cShM_336 hs).2.1 (ea_vpl (cShM_336 hs).2.2 z3) ?_
    refine ea_iload_n (pc := 18) dX12_going_18 rfl 1 rfl ?_
    refine ea_icmp_ge (pc := 19) (tgt := 32) dX12_going_19 rfl (fun c6 => ?_) (fun c6 => ?_)
    · have E := (if_pos c6).symm.trans E
      refine ea_iload_n (pc := 32) dX12_going_32 rfl 2 rfl ?_
      exact ea_iretO (pc := 33) dX12_going_33 rfl rfl E
    · have E := (if_neg c6).symm.trans E
      obtain ⟨z4, E⟩ := gd_some E
      refine ea_aload_n (pc := 22) dX12_going_22 rfl 0 rfl ?_
      refine ea_getR (pc := 23) dX12_going_23 ec_12 (k := 23) (Nat.le_of_ble_eq_true rfl) rfl (Or.inl ew_1425) (cShM_326 hs).1 (cShM_326 hs).2.1 (rShM_326_23 hs) ?_
      refine ea_iload_n (pc := 26) dX12_going_26 rfl 2 rfl ?_
      obtain ⟨v5, ev5, E⟩ := let_some E
      refine ea_iald (pc := 27) dX12_going_27 (cShM_345 hs).1 (cShM_345 hs).2.1 (ea_vpl (cShM_345 hs).2.2 z4) ?_
      refine ea_istore_n (pc := 28) (lv' := [(0, vR (some 326)), (2, vI x2), (3, vI v5)]) dX12_going_28 rfl (Nat.le_of_ble_eq_true rfl) [1, 2, 0] (by rw [ev5]; rfl) ?_
      refine ea_goto (pc := 29) (tgt := 7) dX12_going_29 rfl ?_
      exact (kJ7 (x2 : Int32) (v5 : Int32) h _ _ E hs)
theorem kBX12_going_7 {J7 : Int32 → Int32 → ea_H → Option (Int32 × ea_H)}  (cJ7 : ∀ (x2 : Int32) (x3 : Int32) (h : ea_H), kp (ea_core h) (J7 x2 x3 h)) {x2 : Int32} {x3 : Int32} {h : ea_H} : kp (ea_core h) (BX12_going_7 J7 x2 x3 h) :=
  (kp_ite (kp_ret rfl) (kp_gd (kp_ite (kp_ret rfl) (kp_gd (kp_let (kp_tw (cJ7 _ _ _) rfl))))))
theorem lBX12_going_7 {J7 : Int32 → Int32 → ea_H → Option (Int32 × ea_H)} {J7_ : Int32 → Int32 → ea_H → Option (Int32 × ea_H)}  (mJ7 : ∀ (x2 : Int32) (x3 : Int32) (h : ea_H), fle (J7 x2 x3 h) (J7_ x2 x3 h)) {x2 : Int32} {x3 : Int32} {h : ea_H} : fle (BX12_going_7 J7 x2 x3 h) (BX12_going_7 J7_ x2 x3 h) :=
  (fle_ite (fle_rfl _) (fle_gd (fle_ite (fle_rfl _) (fle_gd (fle_let fun _ => (mJ7 _ _ _))))))
theorem nBX12_going_7 {J7 : Int32 → Int32 → ea_H → Option (Int32 × ea_H)} {J7_ : Nat → (Int32 → Int32 → ea_H → Option (Int32 × ea_H))}  (mJ7 : ∀ (x2 : Int32) (x3 : Int32) (h : ea_H), fct (J7 x2 x3 h) (fun f => J7_ f x2 x3 h)) {x2 : Int32} {x3 : Int32} {h : ea_H} : fct (BX12_going_7 J7 x2 x3 h) (fun f => BX12_going_7 (J7_ f) x2 x3 h) :=
  (fct_ite (fct_rfl _) (fct_gd (fct_ite (fct_rfl _) (fct_gd (fct_let fun _ => (mJ7 _ _ _))))))
noncomputable def gX12_going : Nat → (Int32 → Int32 → ea_H → Option (Int32 × ea_H)) × (Int32 → Int32 → ea_H → Option (Int32 × ea_H))
  | 0 => (fun _ _ _ => none, fun _ _ _ => none)
  | f + 1 => (BX12_going_0 (gX12_going f).2, BX12_going_7 (gX12_going f).2)
theorem mgX12_going : ∀ f : Nat, (∀ (x1 : Int32) (x2 : Int32) (h : ea_H), fle ((gX12_going f).1 x1 x2 h) ((gX12_going (f + 1)).1 x1 x2 h)) ∧ (∀ (x2 : Int32) (x3 : Int32) (h : ea_H), fle ((gX12_going f).2 x2 x3 h) ((gX12_going (f + 1)).2 x2 x3 h)) := by
  intro f
  induction f with
  | zero => exact ⟨fun _ _ _ => fle_none _, fun _ _ _ => fle_none _⟩
  | succ f ih => exact ⟨fun _ _ _ => lBX12_going_0 ih.2, fun _ _ _ => lBX12_going_7 ih.2⟩
noncomputable def qX12_going_0 (x1 : Int32) (x2 : Int32) (h : ea_H) : Option (Int32 × ea_H) := flim fun f => (gX12_going f).1 x1 x2 h
noncomputable def qX12_going_7 (x2 : Int32) (x3 : Int32) (h : ea_H) : Option (Int32 × ea_H) := flim fun f => (gX12_going f).2 x2 x3 h
theorem fqX12_going_0 (x1 : Int32) (x2 : Int32) (h : ea_H) : fct (qX12_going_0 x1 x2 h) fun f => (gX12_going f).1 x1 x2 h := flim_ct fun f => (mgX12_going f).1 x1 x2 h
theorem fqX12_going_7 (x2 : Int32) (x3 : Int32) (h : ea_H) : fct (qX12_going_7 x2 x3 h) fun f => (gX12_going f).2 x2 x3 h := flim_ct fun f => (mgX12_going f).2 x2 x3 h
/-- how a block opens -/
theorem uqX12_going_0 {x1 : Int32} {x2 : Int32} {h : ea_H} {P : Int32 × ea_H → Prop} (H : sat (BX12_going_0 qX12_going_7 x1 x2 h) P) : sat (qX12_going_0 x1 x2 h) P := by
  obtain ⟨x, e, hp⟩ := H
  obtain ⟨n, hn⟩ := nBX12_going_0 fqX12_going_7 x e
  exact ⟨x, flim_at (fun f => (mgX12_going f).1 x1 x2 h) (f := n + 1) (hn n (Nat.le_refl _)), hp⟩
/-- how a block opens -/
theorem uqX12_going_7 {x2 : Int32} {x3 : Int32} {h : ea_H} {P : Int32 × ea_H → Prop} (H : sat (BX12_going_7 qX12_going_7 x2 x3 h) P) : sat (qX12_going_7 x2 x3 h) P := by
  obtain ⟨x, e, hp⟩ := H
  obtain ⟨n, hn⟩ := nBX12_going_7 fqX12_going_7 x e
  exact ⟨x, flim_at (fun f => (mgX12_going f).2 x2 x3 h) (f := n + 1) (hn n (Nat.le_refl _)), hp⟩
theorem kgX12_going : ∀ f : Nat, (∀ (x1 : Int32) (x2 : Int32) (h : ea_H), kp (ea_core h) ((gX12_going f).1 x1 x2 h)) ∧ (∀ (x2 : Int32) (x3 : Int32) (h : ea_H), kp (ea_core h) ((gX12_going f).2 x2 x3 h)) := by
  intro f
  induction f with
  | zero => exact ⟨fun _ _ _ => kp_none _, fun _ _ _ => kp_none _⟩
  | succ f ih => exact ⟨fun _ _ _ => kBX12_going_0 ih.2, fun _ _ _ => kBX12_going_7 ih.2⟩
theorem tgX12_going {d : Nat} {h0 : ea_H} (hd : 1 ≤ d) : ∀ f : Nat, (∀ (x1 : Int32) (x2 : Int32) (h : ea_H) (r : Int32) (h' : ea_H), (gX12_going f).1 x1 x2 h = some (r, h') → ShM h → ea_W mX12_going d h0 (some (vI r)) h' 0 [(0, vR (some 326)), (1, vI x1), (2, vI x2)] [] h) ∧ (∀ (x2 : Int32) (x3 : Int32) (h : ea_H) (r : Int32) (h' : ea_H), (gX12_going f).2 x2 x3 h = some (r, h') → ShM h → ea_W mX12_going d h0 (some (vI r)) h' 7 [(0, vR (some 326)), (2, vI x2), (3, vI x3)] [] h) := by
  intro f
  induction f with
  | zero => exact ⟨fun _ _ _ _ _ E => no_some E, fun _ _ _ _ _ E => no_some E⟩
  | succ f ih => exact ⟨fun _ _ _ _ _ E hs => tBX12_going_0 hd ih.2 E hs, fun _ _ _ _ _ E hs => tBX12_going_7 hd ih.2 E hs⟩
noncomputable def qX12_going (x1 : Int32) (x2 : Int32) (h : ea_H) : Option (Int32 × ea_H) := qX12_going_0 x1 x2 h
theorem sX12_going {d : Nat} {x1 : Int32} {x2 : Int32} {h : ea_H} {r : Int32} {h' : ea_H} (hd : 1 ≤ d) (hs : ShM h) (K : qX12_going x1 x2 h = some (r, h')) : ea_Met mX12_going d [vR (some 326), vI x1, vI x2] h (some (vI r)) h' := by
  unfold qX12_going at K
  obtain ⟨n, hn⟩ := fqX12_going_0 x1 x2 h _ K
  have W := (tgX12_going (d := d) (h0 := h) hd n).1 x1 x2 h _ _ (hn n (Nat.le_refl _)) hs
  exact ea_enter rfl (Nat.le_of_ble_eq_true rfl) W
theorem kpX12_going (x1 : Int32) (x2 : Int32) (h : ea_H) : kp (ea_core h) (qX12_going x1 x2 h) := fun x e => by
  obtain ⟨n, hn⟩ := fqX12_going_0 x1 x2 h x e
  exact (kgX12_going n).1 x1 x2 h x (hn n (Nat.le_refl _))
