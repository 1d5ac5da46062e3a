/-! the law -/
def mL_law : ea_M := (yL_law, cL_law, 4, ret)
theorem dL_law_0 : decode cL_law 0 = .ok (.new 7, 3) := by decide +kernel
theorem dL_law_3 : decode cL_law 3 = .ok (.dup, 1) := by decide +kernel
theorem dL_law_4 : decode cL_law 4 = .ok (.invokespecial 9, 3) := by decide +kernel
theorem dL_law_7 : decode cL_law 7 = .ok (.astore_n 1, 1) := by decide +kernel
theorem dL_law_8 : decode cL_law 8 = .ok (.new 10, 3) := by decide +kernel
theorem dL_law_11 : decode cL_law 11 = .ok (.dup, 1) := by decide +kernel
theorem dL_law_12 : decode cL_law 12 = .ok (.invokespecial 12, 3) := by decide +kernel
theorem dL_law_15 : decode cL_law 15 = .ok (.astore_n 2, 1) := by decide +kernel
theorem dL_law_16 : decode cL_law 16 = .ok (.iconst 0, 1) := by decide +kernel
theorem dL_law_17 : decode cL_law 17 = .ok (.istore_n 3, 1) := by decide +kernel
theorem dL_law_18 : decode cL_law 18 = .ok (.iload_n 3, 1) := by decide +kernel
theorem dL_law_19 : decode cL_law 19 = .ok (.aload_n 0, 1) := by decide +kernel
theorem dL_law_20 : decode cL_law 20 = .ok (.arraylength, 1) := by decide +kernel
theorem dL_law_21 : decode cL_law 21 = .ok (.bipush 7, 2) := by decide +kernel
theorem dL_law_23 : decode cL_law 23 = .ok (.isub, 1) := by decide +kernel
theorem dL_law_24 : decode cL_law 24 = .ok (.if_icmp .gt 1556, 3) := by decide +kernel
theorem dL_law_27 : decode cL_law 27 = .ok (.aload_n 0, 1) := by decide +kernel
theorem dL_law_28 : decode cL_law 28 = .ok (.iload_n 3, 1) := by decide +kernel
theorem dL_law_29 : decode cL_law 29 = .ok (.iaload, 1) := by decide +kernel
theorem dL_law_30 : decode cL_law 30 = .ok (.bipush 63, 2) := by decide +kernel
theorem dL_law_32 : decode cL_law 32 = .ok (.iand, 1) := by decide +kernel
theorem dL_law_33 : decode cL_law 33 = .ok (.tableswitch 1541 0 37 #[167, 180, 223, 256, 269, 348, 391, 434, 477, 500, 523, 586, 609, 632, 655, 688, 763, 796, 829, 882, 925, 968, 1001, 1034, 1077, 1120, 1143, 1186, 1220, 1253, 1286, 1319, 1342, 1375, 1408, 1451, 1475, 1518], 167) := by decide +kernel
theorem dL_law_200 : decode cL_law 200 = .ok (.aload_n 1, 1) := by decide +kernel
theorem dL_law_201 : decode cL_law 201 = .ok (.invokevirtual 13, 3) := by decide +kernel
theorem dL_law_204 : decode cL_law 204 = .ok (.aload_n 2, 1) := by decide +kernel
theorem dL_law_205 : decode cL_law 205 = .ok (.invokevirtual 17, 3) := by decide +kernel
theorem dL_law_208 : decode cL_law 208 = .ok (.if_icmp .eq 1366, 3) := by decide +kernel
theorem dL_law_211 : decode cL_law 211 = .ok (.iconst 0, 1) := by decide +kernel
theorem dL_law_212 : decode cL_law 212 = .ok (.ireturn, 1) := by decide +kernel
theorem dL_law_213 : decode cL_law 213 = .ok (.aload_n 1, 1) := by decide +kernel
theorem dL_law_214 : decode cL_law 214 = .ok (.aload_n 0, 1) := by decide +kernel
theorem dL_law_215 : decode cL_law 215 = .ok (.iload_n 3, 1) := by decide +kernel
theorem dL_law_216 : decode cL_law 216 = .ok (.iconst 1, 1) := by decide +kernel
theorem dL_law_217 : decode cL_law 217 = .ok (.iadd, 1) := by decide +kernel
theorem dL_law_218 : decode cL_law 218 = .ok (.iaload, 1) := by decide +kernel
theorem dL_law_219 : decode cL_law 219 = .ok (.aload_n 0, 1) := by decide +kernel
theorem dL_law_220 : decode cL_law 220 = .ok (.iload_n 3, 1) := by decide +kernel
theorem dL_law_221 : decode cL_law 221 = .ok (.iconst 2, 1) := by decide +kernel
theorem dL_law_222 : decode cL_law 222 = .ok (.iadd, 1) := by decide +kernel
theorem dL_law_223 : decode cL_law 223 = .ok (.iaload, 1) := by decide +kernel
theorem dL_law_224 : decode cL_law 224 = .ok (.aload_n 0, 1) := by decide +kernel
theorem dL_law_225 : decode cL_law 225 = .ok (.iload_n 3, 1) := by decide +kernel
theorem dL_law_226 : decode cL_law 226 = .ok (.iconst 3, 1) := by decide +kernel
theorem dL_law_227 : decode cL_law 227 = .ok (.iadd, 1) := by decide +kernel
theorem dL_law_228 : decode cL_law 228 = .ok (.iaload, 1) := by decide +kernel
theorem dL_law_229 : decode cL_law 229 = .ok (.invokevirtual 18, 3) := by decide +kernel
theorem dL_law_232 : decode cL_law 232 = .ok (.aload_n 2, 1) := by decide +kernel
theorem dL_law_233 : decode cL_law 233 = .ok (.aload_n 0, 1) := by decide +kernel
theorem dL_law_234 : decode cL_law 234 = .ok (.iload_n 3, 1) := by decide +kernel
theorem dL_law_235 : decode cL_law 235 = .ok (.iconst 1, 1) := by decide +kernel
theorem dL_law_236 : decode cL_law 236 = .ok (.iadd, 1) := by decide +kernel
theorem dL_law_237 : decode cL_law 237 = .ok (.iaload, 1) := by decide +kernel
theorem dL_law_238 : decode cL_law 238 = .ok (.aload_n 0, 1) := by decide +kernel
theorem dL_law_239 : decode cL_law 239 = .ok (.iload_n 3, 1) := by decide +kernel
theorem dL_law_240 : decode cL_law 240 = .ok (.iconst 2, 1) := by decide +kernel
theorem dL_law_241 : decode cL_law 241 = .ok (.iadd, 1) := by decide +kernel
theorem dL_law_242 : decode cL_law 242 = .ok (.iaload, 1) := by decide +kernel
theorem dL_law_243 : decode cL_law 243 = .ok (.aload_n 0, 1) := by decide +kernel
theorem dL_law_244 : decode cL_law 244 = .ok (.iload_n 3, 1) := by decide +kernel
theorem dL_law_245 : decode cL_law 245 = .ok (.iconst 3, 1) := by decide +kernel
theorem dL_law_246 : decode cL_law 246 = .ok (.iadd, 1) := by decide +kernel
theorem dL_law_247 : decode cL_law 247 = .ok (.iaload, 1) := by decide +kernel
theorem dL_law_248 : decode cL_law 248 = .ok (.invokevirtual 22, 3) := by decide +kernel
theorem dL_law_251 : decode cL_law 251 = .ok (.if_icmp .eq 1323, 3) := by decide +kernel
theorem dL_law_254 : decode cL_law 254 = .ok (.iconst 0, 1) := by decide +kernel
theorem dL_law_255 : decode cL_law 255 = .ok (.ireturn, 1) := by decide +kernel
theorem dL_law_256 : decode cL_law 256 = .ok (.aload_n 1, 1) := by decide +kernel
theorem dL_law_257 : decode cL_law 257 = .ok (.aload_n 0, 1) := by decide +kernel
theorem dL_law_258 : decode cL_law 258 = .ok (.iload_n 3, 1) := by decide +kernel
theorem dL_law_259 : decode cL_law 259 = .ok (.iconst 1, 1) := by decide +kernel
theorem dL_law_260 : decode cL_law 260 = .ok (.iadd, 1) := by decide +kernel
theorem dL_law_261 : decode cL_law 261 = .ok (.iaload, 1) := by decide +kernel
theorem dL_law_262 : decode cL_law 262 = .ok (.aload_n 0, 1) := by decide +kernel
theorem dL_law_263 : decode cL_law 263 = .ok (.iload_n 3, 1) := by decide +kernel
theorem dL_law_264 : decode cL_law 264 = .ok (.iconst 2, 1) := by decide +kernel
theorem dL_law_265 : decode cL_law 265 = .ok (.iadd, 1) := by decide +kernel
theorem dL_law_266 : decode cL_law 266 = .ok (.iaload, 1) := by decide +kernel
theorem dL_law_267 : decode cL_law 267 = .ok (.invokevirtual 23, 3) := by decide +kernel
theorem dL_law_270 : decode cL_law 270 = .ok (.aload_n 2, 1) := by decide +kernel
theorem dL_law_271 : decode cL_law 271 = .ok (.aload_n 0, 1) := by decide +kernel
theorem dL_law_272 : decode cL_law 272 = .ok (.iload_n 3, 1) := by decide +kernel
theorem dL_law_273 : decode cL_law 273 = .ok (.iconst 1, 1) := by decide +kernel
theorem dL_law_274 : decode cL_law 274 = .ok (.iadd, 1) := by decide +kernel
theorem dL_law_275 : decode cL_law 275 = .ok (.iaload, 1) := by decide +kernel
theorem dL_law_276 : decode cL_law 276 = .ok (.aload_n 0, 1) := by decide +kernel
theorem dL_law_277 : decode cL_law 277 = .ok (.iload_n 3, 1) := by decide +kernel
theorem dL_law_278 : decode cL_law 278 = .ok (.iconst 2, 1) := by decide +kernel
theorem dL_law_279 : decode cL_law 279 = .ok (.iadd, 1) := by decide +kernel
theorem dL_law_280 : decode cL_law 280 = .ok (.iaload, 1) := by decide +kernel
theorem dL_law_281 : decode cL_law 281 = .ok (.invokevirtual 27, 3) := by decide +kernel
theorem dL_law_284 : decode cL_law 284 = .ok (.if_icmp .eq 1290, 3) := by decide +kernel
theorem dL_law_287 : decode cL_law 287 = .ok (.iconst 0, 1) := by decide +kernel
theorem dL_law_288 : decode cL_law 288 = .ok (.ireturn, 1) := by decide +kernel
theorem dL_law_289 : decode cL_law 289 = .ok (.aload_n 1, 1) := by decide +kernel
theorem dL_law_290 : decode cL_law 290 = .ok (.invokevirtual 28, 3) := by decide +kernel
theorem dL_law_293 : decode cL_law 293 = .ok (.aload_n 2, 1) := by decide +kernel
theorem dL_law_294 : decode cL_law 294 = .ok (.invokevirtual 31, 3) := by decide +kernel
theorem dL_law_297 : decode cL_law 297 = .ok (.if_icmp .eq 1277, 3) := by decide +kernel
theorem dL_law_300 : decode cL_law 300 = .ok (.iconst 0, 1) := by decide +kernel
theorem dL_law_301 : decode cL_law 301 = .ok (.ireturn, 1) := by decide +kernel
theorem dL_law_302 : decode cL_law 302 = .ok (.aload_n 1, 1) := by decide +kernel
theorem dL_law_303 : decode cL_law 303 = .ok (.aload_n 0, 1) := by decide +kernel
theorem dL_law_304 : decode cL_law 304 = .ok (.iload_n 3, 1) := by decide +kernel
theorem dL_law_305 : decode cL_law 305 = .ok (.iconst 1, 1) := by decide +kernel
theorem dL_law_306 : decode cL_law 306 = .ok (.iadd, 1) := by decide +kernel
theorem dL_law_307 : decode cL_law 307 = .ok (.iaload, 1) := by decide +kernel
theorem dL_law_308 : decode cL_law 308 = .ok (.aload_n 0, 1) := by decide +kernel
theorem dL_law_309 : decode cL_law 309 = .ok (.iload_n 3, 1) := by decide +kernel
theorem dL_law_310 : decode cL_law 310 = .ok (.iconst 2, 1) := by decide +kernel
theorem dL_law_311 : decode cL_law 311 = .ok (.iadd, 1) := by decide +kernel
theorem dL_law_312 : decode cL_law 312 = .ok (.iaload, 1) := by decide +kernel
theorem dL_law_313 : decode cL_law 313 = .ok (.aload_n 0, 1) := by decide +kernel
theorem dL_law_314 : decode cL_law 314 = .ok (.iload_n 3, 1) := by decide +kernel
theorem dL_law_315 : decode cL_law 315 = .ok (.iconst 3, 1) := by decide +kernel
theorem dL_law_316 : decode cL_law 316 = .ok (.iadd, 1) := by decide +kernel
theorem dL_law_317 : decode cL_law 317 = .ok (.iaload, 1) := by decide +kernel
theorem dL_law_318 : decode cL_law 318 = .ok (.aload_n 0, 1) := by decide +kernel
theorem dL_law_319 : decode cL_law 319 = .ok (.iload_n 3, 1) := by decide +kernel
theorem dL_law_320 : decode cL_law 320 = .ok (.iconst 4, 1) := by decide +kernel
theorem dL_law_321 : decode cL_law 321 = .ok (.iadd, 1) := by decide +kernel
theorem dL_law_322 : decode cL_law 322 = .ok (.iaload, 1) := by decide +kernel
theorem dL_law_323 : decode cL_law 323 = .ok (.aload_n 0, 1) := by decide +kernel
theorem dL_law_324 : decode cL_law 324 = .ok (.iload_n 3, 1) := by decide +kernel
theorem dL_law_325 : decode cL_law 325 = .ok (.iconst 5, 1) := by decide +kernel
theorem dL_law_326 : decode cL_law 326 = .ok (.iadd, 1) := by decide +kernel
theorem dL_law_327 : decode cL_law 327 = .ok (.iaload, 1) := by decide +kernel
theorem dL_law_328 : decode cL_law 328 = .ok (.ifCond .eq 7, 3) := by decide +kernel
theorem dL_law_331 : decode cL_law 331 = .ok (.iconst 1, 1) := by decide +kernel
theorem dL_law_332 : decode cL_law 332 = .ok (.goto 4, 3) := by decide +kernel
theorem dL_law_335 : decode cL_law 335 = .ok (.iconst 0, 1) := by decide +kernel
theorem dL_law_336 : decode cL_law 336 = .ok (.invokevirtual 32, 3) := by decide +kernel
theorem dL_law_339 : decode cL_law 339 = .ok (.aload_n 2, 1) := by decide +kernel
theorem dL_law_340 : decode cL_law 340 = .ok (.aload_n 0, 1) := by decide +kernel
theorem dL_law_341 : decode cL_law 341 = .ok (.iload_n 3, 1) := by decide +kernel
theorem dL_law_342 : decode cL_law 342 = .ok (.iconst 1, 1) := by decide +kernel
theorem dL_law_343 : decode cL_law 343 = .ok (.iadd, 1) := by decide +kernel
theorem dL_law_344 : decode cL_law 344 = .ok (.iaload, 1) := by decide +kernel
theorem dL_law_345 : decode cL_law 345 = .ok (.aload_n 0, 1) := by decide +kernel
theorem dL_law_346 : decode cL_law 346 = .ok (.iload_n 3, 1) := by decide +kernel
theorem dL_law_347 : decode cL_law 347 = .ok (.iconst 2, 1) := by decide +kernel
theorem dL_law_348 : decode cL_law 348 = .ok (.iadd, 1) := by decide +kernel
theorem dL_law_349 : decode cL_law 349 = .ok (.iaload, 1) := by decide +kernel
theorem dL_law_350 : decode cL_law 350 = .ok (.aload_n 0, 1) := by decide +kernel
theorem dL_law_351 : decode cL_law 351 = .ok (.iload_n 3, 1) := by decide +kernel
theorem dL_law_352 : decode cL_law 352 = .ok (.iconst 3, 1) := by decide +kernel
theorem dL_law_353 : decode cL_law 353 = .ok (.iadd, 1) := by decide +kernel
theorem dL_law_354 : decode cL_law 354 = .ok (.iaload, 1) := by decide +kernel
theorem dL_law_355 : decode cL_law 355 = .ok (.aload_n 0, 1) := by decide +kernel
theorem dL_law_356 : decode cL_law 356 = .ok (.iload_n 3, 1) := by decide +kernel
theorem dL_law_357 : decode cL_law 357 = .ok (.iconst 4, 1) := by decide +kernel
theorem dL_law_358 : decode cL_law 358 = .ok (.iadd, 1) := by decide +kernel
theorem dL_law_359 : decode cL_law 359 = .ok (.iaload, 1) := by decide +kernel
theorem dL_law_360 : decode cL_law 360 = .ok (.aload_n 0, 1) := by decide +kernel
theorem dL_law_361 : decode cL_law 361 = .ok (.iload_n 3, 1) := by decide +kernel
theorem dL_law_362 : decode cL_law 362 = .ok (.iconst 5, 1) := by decide +kernel
theorem dL_law_363 : decode cL_law 363 = .ok (.iadd, 1) := by decide +kernel
theorem dL_law_364 : decode cL_law 364 = .ok (.iaload, 1) := by decide +kernel
theorem dL_law_365 : decode cL_law 365 = .ok (.ifCond .eq 7, 3) := by decide +kernel
theorem dL_law_368 : decode cL_law 368 = .ok (.iconst 1, 1) := by decide +kernel
theorem dL_law_369 : decode cL_law 369 = .ok (.goto 4, 3) := by decide +kernel
theorem dL_law_372 : decode cL_law 372 = .ok (.iconst 0, 1) := by decide +kernel
theorem dL_law_373 : decode cL_law 373 = .ok (.invokevirtual 36, 3) := by decide +kernel
theorem dL_law_376 : decode cL_law 376 = .ok (.if_icmp .eq 1198, 3) := by decide +kernel
theorem dL_law_379 : decode cL_law 379 = .ok (.iconst 0, 1) := by decide +kernel
theorem dL_law_380 : decode cL_law 380 = .ok (.ireturn, 1) := by decide +kernel
theorem dL_law_381 : decode cL_law 381 = .ok (.aload_n 1, 1) := by decide +kernel
theorem dL_law_382 : decode cL_law 382 = .ok (.aload_n 0, 1) := by decide +kernel
theorem dL_law_383 : decode cL_law 383 = .ok (.iload_n 3, 1) := by decide +kernel
theorem dL_law_384 : decode cL_law 384 = .ok (.iconst 1, 1) := by decide +kernel
theorem dL_law_385 : decode cL_law 385 = .ok (.iadd, 1) := by decide +kernel
theorem dL_law_386 : decode cL_law 386 = .ok (.iaload, 1) := by decide +kernel
theorem dL_law_387 : decode cL_law 387 = .ok (.aload_n 0, 1) := by decide +kernel
theorem dL_law_388 : decode cL_law 388 = .ok (.iload_n 3, 1) := by decide +kernel
theorem dL_law_389 : decode cL_law 389 = .ok (.iconst 2, 1) := by decide +kernel
theorem dL_law_390 : decode cL_law 390 = .ok (.iadd, 1) := by decide +kernel
theorem dL_law_391 : decode cL_law 391 = .ok (.iaload, 1) := by decide +kernel
theorem dL_law_392 : decode cL_law 392 = .ok (.aload_n 0, 1) := by decide +kernel
theorem dL_law_393 : decode cL_law 393 = .ok (.iload_n 3, 1) := by decide +kernel
theorem dL_law_394 : decode cL_law 394 = .ok (.iconst 3, 1) := by decide +kernel
theorem dL_law_395 : decode cL_law 395 = .ok (.iadd, 1) := by decide +kernel
theorem dL_law_396 : decode cL_law 396 = .ok (.iaload, 1) := by decide +kernel
theorem dL_law_397 : decode cL_law 397 = .ok (.invokevirtual 37, 3) := by decide +kernel
theorem dL_law_400 : decode cL_law 400 = .ok (.aload_n 2, 1) := by decide +kernel
theorem dL_law_401 : decode cL_law 401 = .ok (.aload_n 0, 1) := by decide +kernel
theorem dL_law_402 : decode cL_law 402 = .ok (.iload_n 3, 1) := by decide +kernel
theorem dL_law_403 : decode cL_law 403 = .ok (.iconst 1, 1) := by decide +kernel
theorem dL_law_404 : decode cL_law 404 = .ok (.iadd, 1) := by decide +kernel
theorem dL_law_405 : decode cL_law 405 = .ok (.iaload, 1) := by decide +kernel
theorem dL_law_406 : decode cL_law 406 = .ok (.aload_n 0, 1) := by decide +kernel
theorem dL_law_407 : decode cL_law 407 = .ok (.iload_n 3, 1) := by decide +kernel
theorem dL_law_408 : decode cL_law 408 = .ok (.iconst 2, 1) := by decide +kernel
theorem dL_law_409 : decode cL_law 409 = .ok (.iadd, 1) := by decide +kernel
theorem dL_law_410 : decode cL_law 410 = .ok (.iaload, 1) := by decide +kernel
theorem dL_law_411 : decode cL_law 411 = .ok (.aload_n 0, 1) := by decide +kernel
theorem dL_law_412 : decode cL_law 412 = .ok (.iload_n 3, 1) := by decide +kernel
theorem dL_law_413 : decode cL_law 413 = .ok (.iconst 3, 1) := by decide +kernel
theorem dL_law_414 : decode cL_law 414 = .ok (.iadd, 1) := by decide +kernel
theorem dL_law_415 : decode cL_law 415 = .ok (.iaload, 1) := by decide +kernel
theorem dL_law_416 : decode cL_law 416 = .ok (.invokevirtual 41, 3) := by decide +kernel
theorem dL_law_419 : decode cL_law 419 = .ok (.if_icmp .eq 1155, 3) := by decide +kernel
theorem dL_law_422 : decode cL_law 422 = .ok (.iconst 0, 1) := by decide +kernel
theorem dL_law_423 : decode cL_law 423 = .ok (.ireturn, 1) := by decide +kernel
theorem dL_law_424 : decode cL_law 424 = .ok (.aload_n 1, 1) := by decide +kernel
theorem dL_law_425 : decode cL_law 425 = .ok (.aload_n 0, 1) := by decide +kernel
theorem dL_law_426 : decode cL_law 426 = .ok (.iload_n 3, 1) := by decide +kernel
theorem dL_law_427 : decode cL_law 427 = .ok (.iconst 1, 1) := by decide +kernel
theorem dL_law_428 : decode cL_law 428 = .ok (.iadd, 1) := by decide +kernel
theorem dL_law_429 : decode cL_law 429 = .ok (.iaload, 1) := by decide +kernel
theorem dL_law_430 : decode cL_law 430 = .ok (.aload_n 0, 1) := by decide +kernel
theorem dL_law_431 : decode cL_law 431 = .ok (.iload_n 3, 1) := by decide +kernel
theorem dL_law_432 : decode cL_law 432 = .ok (.iconst 2, 1) := by decide +kernel
theorem dL_law_433 : decode cL_law 433 = .ok (.iadd, 1) := by decide +kernel
theorem dL_law_434 : decode cL_law 434 = .ok (.iaload, 1) := by decide +kernel
theorem dL_law_435 : decode cL_law 435 = .ok (.aload_n 0, 1) := by decide +kernel
theorem dL_law_436 : decode cL_law 436 = .ok (.iload_n 3, 1) := by decide +kernel
theorem dL_law_437 : decode cL_law 437 = .ok (.iconst 3, 1) := by decide +kernel
theorem dL_law_438 : decode cL_law 438 = .ok (.iadd, 1) := by decide +kernel
theorem dL_law_439 : decode cL_law 439 = .ok (.iaload, 1) := by decide +kernel
theorem dL_law_440 : decode cL_law 440 = .ok (.invokevirtual 42, 3) := by decide +kernel
theorem dL_law_443 : decode cL_law 443 = .ok (.aload_n 2, 1) := by decide +kernel
theorem dL_law_444 : decode cL_law 444 = .ok (.aload_n 0, 1) := by decide +kernel
theorem dL_law_445 : decode cL_law 445 = .ok (.iload_n 3, 1) := by decide +kernel
theorem dL_law_446 : decode cL_law 446 = .ok (.iconst 1, 1) := by decide +kernel
theorem dL_law_447 : decode cL_law 447 = .ok (.iadd, 1) := by decide +kernel
theorem dL_law_448 : decode cL_law 448 = .ok (.iaload, 1) := by decide +kernel
theorem dL_law_449 : decode cL_law 449 = .ok (.aload_n 0, 1) := by decide +kernel
theorem dL_law_450 : decode cL_law 450 = .ok (.iload_n 3, 1) := by decide +kernel
theorem dL_law_451 : decode cL_law 451 = .ok (.iconst 2, 1) := by decide +kernel
theorem dL_law_452 : decode cL_law 452 = .ok (.iadd, 1) := by decide +kernel
theorem dL_law_453 : decode cL_law 453 = .ok (.iaload, 1) := by decide +kernel
theorem dL_law_454 : decode cL_law 454 = .ok (.aload_n 0, 1) := by decide +kernel
theorem dL_law_455 : decode cL_law 455 = .ok (.iload_n 3, 1) := by decide +kernel
theorem dL_law_456 : decode cL_law 456 = .ok (.iconst 3, 1) := by decide +kernel
theorem dL_law_457 : decode cL_law 457 = .ok (.iadd, 1) := by decide +kernel
theorem dL_law_458 : decode cL_law 458 = .ok (.iaload, 1) := by decide +kernel
theorem dL_law_459 : decode cL_law 459 = .ok (.invokevirtual 45, 3) := by decide +kernel
theorem dL_law_462 : decode cL_law 462 = .ok (.if_icmp .eq 1112, 3) := by decide +kernel
theorem dL_law_465 : decode cL_law 465 = .ok (.iconst 0, 1) := by decide +kernel
theorem dL_law_466 : decode cL_law 466 = .ok (.ireturn, 1) := by decide +kernel
theorem dL_law_467 : decode cL_law 467 = .ok (.aload_n 1, 1) := by decide +kernel
theorem dL_law_468 : decode cL_law 468 = .ok (.aload_n 0, 1) := by decide +kernel
theorem dL_law_469 : decode cL_law 469 = .ok (.iload_n 3, 1) := by decide +kernel
theorem dL_law_470 : decode cL_law 470 = .ok (.iconst 1, 1) := by decide +kernel
theorem dL_law_471 : decode cL_law 471 = .ok (.iadd, 1) := by decide +kernel
theorem dL_law_472 : decode cL_law 472 = .ok (.iaload, 1) := by decide +kernel
theorem dL_law_473 : decode cL_law 473 = .ok (.aload_n 0, 1) := by decide +kernel
theorem dL_law_474 : decode cL_law 474 = .ok (.iload_n 3, 1) := by decide +kernel
theorem dL_law_475 : decode cL_law 475 = .ok (.iconst 2, 1) := by decide +kernel
theorem dL_law_476 : decode cL_law 476 = .ok (.iadd, 1) := by decide +kernel
theorem dL_law_477 : decode cL_law 477 = .ok (.iaload, 1) := by decide +kernel
theorem dL_law_478 : decode cL_law 478 = .ok (.aload_n 0, 1) := by decide +kernel
theorem dL_law_479 : decode cL_law 479 = .ok (.iload_n 3, 1) := by decide +kernel
theorem dL_law_480 : decode cL_law 480 = .ok (.iconst 3, 1) := by decide +kernel
theorem dL_law_481 : decode cL_law 481 = .ok (.iadd, 1) := by decide +kernel
theorem dL_law_482 : decode cL_law 482 = .ok (.iaload, 1) := by decide +kernel
theorem dL_law_483 : decode cL_law 483 = .ok (.invokevirtual 46, 3) := by decide +kernel
theorem dL_law_486 : decode cL_law 486 = .ok (.aload_n 2, 1) := by decide +kernel
theorem dL_law_487 : decode cL_law 487 = .ok (.aload_n 0, 1) := by decide +kernel
theorem dL_law_488 : decode cL_law 488 = .ok (.iload_n 3, 1) := by decide +kernel
theorem dL_law_489 : decode cL_law 489 = .ok (.iconst 1, 1) := by decide +kernel
theorem dL_law_490 : decode cL_law 490 = .ok (.iadd, 1) := by decide +kernel
theorem dL_law_491 : decode cL_law 491 = .ok (.iaload, 1) := by decide +kernel
theorem dL_law_492 : decode cL_law 492 = .ok (.aload_n 0, 1) := by decide +kernel
theorem dL_law_493 : decode cL_law 493 = .ok (.iload_n 3, 1) := by decide +kernel
theorem dL_law_494 : decode cL_law 494 = .ok (.iconst 2, 1) := by decide +kernel
theorem dL_law_495 : decode cL_law 495 = .ok (.iadd, 1) := by decide +kernel
theorem dL_law_496 : decode cL_law 496 = .ok (.iaload, 1) := by decide +kernel
theorem dL_law_497 : decode cL_law 497 = .ok (.aload_n 0, 1) := by decide +kernel
theorem dL_law_498 : decode cL_law 498 = .ok (.iload_n 3, 1) := by decide +kernel
theorem dL_law_499 : decode cL_law 499 = .ok (.iconst 3, 1) := by decide +kernel
theorem dL_law_500 : decode cL_law 500 = .ok (.iadd, 1) := by decide +kernel
theorem dL_law_501 : decode cL_law 501 = .ok (.iaload, 1) := by decide +kernel
theorem dL_law_502 : decode cL_law 502 = .ok (.invokevirtual 49, 3) := by decide +kernel
theorem dL_law_505 : decode cL_law 505 = .ok (.if_icmp .eq 1069, 3) := by decide +kernel
theorem dL_law_508 : decode cL_law 508 = .ok (.iconst 0, 1) := by decide +kernel
theorem dL_law_509 : decode cL_law 509 = .ok (.ireturn, 1) := by decide +kernel
theorem dL_law_510 : decode cL_law 510 = .ok (.aload_n 1, 1) := by decide +kernel
theorem dL_law_511 : decode cL_law 511 = .ok (.aload_n 0, 1) := by decide +kernel
theorem dL_law_512 : decode cL_law 512 = .ok (.iload_n 3, 1) := by decide +kernel
theorem dL_law_513 : decode cL_law 513 = .ok (.iconst 1, 1) := by decide +kernel
theorem dL_law_514 : decode cL_law 514 = .ok (.iadd, 1) := by decide +kernel
theorem dL_law_515 : decode cL_law 515 = .ok (.iaload, 1) := by decide +kernel
theorem dL_law_516 : decode cL_law 516 = .ok (.invokevirtual 50, 3) := by decide +kernel
theorem dL_law_519 : decode cL_law 519 = .ok (.aload_n 2, 1) := by decide +kernel
theorem dL_law_520 : decode cL_law 520 = .ok (.aload_n 0, 1) := by decide +kernel
theorem dL_law_521 : decode cL_law 521 = .ok (.iload_n 3, 1) := by decide +kernel
theorem dL_law_522 : decode cL_law 522 = .ok (.iconst 1, 1) := by decide +kernel
theorem dL_law_523 : decode cL_law 523 = .ok (.iadd, 1) := by decide +kernel
theorem dL_law_524 : decode cL_law 524 = .ok (.iaload, 1) := by decide +kernel
theorem dL_law_525 : decode cL_law 525 = .ok (.invokevirtual 54, 3) := by decide +kernel
theorem dL_law_528 : decode cL_law 528 = .ok (.if_icmp .eq 1046, 3) := by decide +kernel
theorem dL_law_531 : decode cL_law 531 = .ok (.iconst 0, 1) := by decide +kernel
theorem dL_law_532 : decode cL_law 532 = .ok (.ireturn, 1) := by decide +kernel
theorem dL_law_533 : decode cL_law 533 = .ok (.aload_n 1, 1) := by decide +kernel
theorem dL_law_534 : decode cL_law 534 = .ok (.aload_n 0, 1) := by decide +kernel
theorem dL_law_535 : decode cL_law 535 = .ok (.iload_n 3, 1) := by decide +kernel
theorem dL_law_536 : decode cL_law 536 = .ok (.iconst 1, 1) := by decide +kernel
theorem dL_law_537 : decode cL_law 537 = .ok (.iadd, 1) := by decide +kernel
theorem dL_law_538 : decode cL_law 538 = .ok (.iaload, 1) := by decide +kernel
theorem dL_law_539 : decode cL_law 539 = .ok (.invokevirtual 55, 3) := by decide +kernel
theorem dL_law_542 : decode cL_law 542 = .ok (.aload_n 2, 1) := by decide +kernel
theorem dL_law_543 : decode cL_law 543 = .ok (.aload_n 0, 1) := by decide +kernel
theorem dL_law_544 : decode cL_law 544 = .ok (.iload_n 3, 1) := by decide +kernel
theorem dL_law_545 : decode cL_law 545 = .ok (.iconst 1, 1) := by decide +kernel
theorem dL_law_546 : decode cL_law 546 = .ok (.iadd, 1) := by decide +kernel
theorem dL_law_547 : decode cL_law 547 = .ok (.iaload, 1) := by decide +kernel
theorem dL_law_548 : decode cL_law 548 = .ok (.invokevirtual 58, 3) := by decide +kernel
theorem dL_law_551 : decode cL_law 551 = .ok (.if_icmp .eq 1023, 3) := by decide +kernel
theorem dL_law_554 : decode cL_law 554 = .ok (.iconst 0, 1) := by decide +kernel
theorem dL_law_555 : decode cL_law 555 = .ok (.ireturn, 1) := by decide +kernel
theorem dL_law_556 : decode cL_law 556 = .ok (.aload_n 1, 1) := by decide +kernel
theorem dL_law_557 : decode cL_law 557 = .ok (.aload_n 0, 1) := by decide +kernel
theorem dL_law_558 : decode cL_law 558 = .ok (.iload_n 3, 1) := by decide +kernel
theorem dL_law_559 : decode cL_law 559 = .ok (.iconst 1, 1) := by decide +kernel
theorem dL_law_560 : decode cL_law 560 = .ok (.iadd, 1) := by decide +kernel
theorem dL_law_561 : decode cL_law 561 = .ok (.iaload, 1) := by decide +kernel
theorem dL_law_562 : decode cL_law 562 = .ok (.aload_n 0, 1) := by decide +kernel
theorem dL_law_563 : decode cL_law 563 = .ok (.iload_n 3, 1) := by decide +kernel
theorem dL_law_564 : decode cL_law 564 = .ok (.iconst 2, 1) := by decide +kernel
theorem dL_law_565 : decode cL_law 565 = .ok (.iadd, 1) := by decide +kernel
theorem dL_law_566 : decode cL_law 566 = .ok (.iaload, 1) := by decide +kernel
theorem dL_law_567 : decode cL_law 567 = .ok (.aload_n 0, 1) := by decide +kernel
theorem dL_law_568 : decode cL_law 568 = .ok (.iload_n 3, 1) := by decide +kernel
theorem dL_law_569 : decode cL_law 569 = .ok (.iconst 3, 1) := by decide +kernel
theorem dL_law_570 : decode cL_law 570 = .ok (.iadd, 1) := by decide +kernel
theorem dL_law_571 : decode cL_law 571 = .ok (.iaload, 1) := by decide +kernel
theorem dL_law_572 : decode cL_law 572 = .ok (.aload_n 0, 1) := by decide +kernel
theorem dL_law_573 : decode cL_law 573 = .ok (.iload_n 3, 1) := by decide +kernel
theorem dL_law_574 : decode cL_law 574 = .ok (.iconst 4, 1) := by decide +kernel
theorem dL_law_575 : decode cL_law 575 = .ok (.iadd, 1) := by decide +kernel
theorem dL_law_576 : decode cL_law 576 = .ok (.iaload, 1) := by decide +kernel
theorem dL_law_577 : decode cL_law 577 = .ok (.aload_n 0, 1) := by decide +kernel
theorem dL_law_578 : decode cL_law 578 = .ok (.iload_n 3, 1) := by decide +kernel
theorem dL_law_579 : decode cL_law 579 = .ok (.iconst 5, 1) := by decide +kernel
theorem dL_law_580 : decode cL_law 580 = .ok (.iadd, 1) := by decide +kernel
theorem dL_law_581 : decode cL_law 581 = .ok (.iaload, 1) := by decide +kernel
theorem dL_law_582 : decode cL_law 582 = .ok (.invokevirtual 59, 3) := by decide +kernel
theorem dL_law_585 : decode cL_law 585 = .ok (.aload_n 2, 1) := by decide +kernel
theorem dL_law_586 : decode cL_law 586 = .ok (.aload_n 0, 1) := by decide +kernel
theorem dL_law_587 : decode cL_law 587 = .ok (.iload_n 3, 1) := by decide +kernel
theorem dL_law_588 : decode cL_law 588 = .ok (.iconst 1, 1) := by decide +kernel
theorem dL_law_589 : decode cL_law 589 = .ok (.iadd, 1) := by decide +kernel
theorem dL_law_590 : decode cL_law 590 = .ok (.iaload, 1) := by decide +kernel
theorem dL_law_591 : decode cL_law 591 = .ok (.aload_n 0, 1) := by decide +kernel
theorem dL_law_592 : decode cL_law 592 = .ok (.iload_n 3, 1) := by decide +kernel
theorem dL_law_593 : decode cL_law 593 = .ok (.iconst 2, 1) := by decide +kernel
theorem dL_law_594 : decode cL_law 594 = .ok (.iadd, 1) := by decide +kernel
theorem dL_law_595 : decode cL_law 595 = .ok (.iaload, 1) := by decide +kernel
theorem dL_law_596 : decode cL_law 596 = .ok (.aload_n 0, 1) := by decide +kernel
theorem dL_law_597 : decode cL_law 597 = .ok (.iload_n 3, 1) := by decide +kernel
theorem dL_law_598 : decode cL_law 598 = .ok (.iconst 3, 1) := by decide +kernel
theorem dL_law_599 : decode cL_law 599 = .ok (.iadd, 1) := by decide +kernel
theorem dL_law_600 : decode cL_law 600 = .ok (.iaload, 1) := by decide +kernel
theorem dL_law_601 : decode cL_law 601 = .ok (.aload_n 0, 1) := by decide +kernel
theorem dL_law_602 : decode cL_law 602 = .ok (.iload_n 3, 1) := by decide +kernel
theorem dL_law_603 : decode cL_law 603 = .ok (.iconst 4, 1) := by decide +kernel
theorem dL_law_604 : decode cL_law 604 = .ok (.iadd, 1) := by decide +kernel
theorem dL_law_605 : decode cL_law 605 = .ok (.iaload, 1) := by decide +kernel
theorem dL_law_606 : decode cL_law 606 = .ok (.aload_n 0, 1) := by decide +kernel
theorem dL_law_607 : decode cL_law 607 = .ok (.iload_n 3, 1) := by decide +kernel
theorem dL_law_608 : decode cL_law 608 = .ok (.iconst 5, 1) := by decide +kernel
theorem dL_law_609 : decode cL_law 609 = .ok (.iadd, 1) := by decide +kernel
theorem dL_law_610 : decode cL_law 610 = .ok (.iaload, 1) := by decide +kernel
theorem dL_law_611 : decode cL_law 611 = .ok (.invokevirtual 63, 3) := by decide +kernel
theorem dL_law_614 : decode cL_law 614 = .ok (.if_icmp .eq 960, 3) := by decide +kernel
theorem dL_law_617 : decode cL_law 617 = .ok (.iconst 0, 1) := by decide +kernel
theorem dL_law_618 : decode cL_law 618 = .ok (.ireturn, 1) := by decide +kernel
theorem dL_law_619 : decode cL_law 619 = .ok (.aload_n 1, 1) := by decide +kernel
theorem dL_law_620 : decode cL_law 620 = .ok (.aload_n 0, 1) := by decide +kernel
theorem dL_law_621 : decode cL_law 621 = .ok (.iload_n 3, 1) := by decide +kernel
theorem dL_law_622 : decode cL_law 622 = .ok (.iconst 1, 1) := by decide +kernel
theorem dL_law_623 : decode cL_law 623 = .ok (.iadd, 1) := by decide +kernel
theorem dL_law_624 : decode cL_law 624 = .ok (.iaload, 1) := by decide +kernel
theorem dL_law_625 : decode cL_law 625 = .ok (.invokevirtual 64, 3) := by decide +kernel
theorem dL_law_628 : decode cL_law 628 = .ok (.aload_n 2, 1) := by decide +kernel
theorem dL_law_629 : decode cL_law 629 = .ok (.aload_n 0, 1) := by decide +kernel
theorem dL_law_630 : decode cL_law 630 = .ok (.iload_n 3, 1) := by decide +kernel
theorem dL_law_631 : decode cL_law 631 = .ok (.iconst 1, 1) := by decide +kernel
theorem dL_law_632 : decode cL_law 632 = .ok (.iadd, 1) := by decide +kernel
theorem dL_law_633 : decode cL_law 633 = .ok (.iaload, 1) := by decide +kernel
theorem dL_law_634 : decode cL_law 634 = .ok (.invokevirtual 68, 3) := by decide +kernel
theorem dL_law_637 : decode cL_law 637 = .ok (.if_icmp .eq 937, 3) := by decide +kernel
theorem dL_law_640 : decode cL_law 640 = .ok (.iconst 0, 1) := by decide +kernel
theorem dL_law_641 : decode cL_law 641 = .ok (.ireturn, 1) := by decide +kernel
theorem dL_law_642 : decode cL_law 642 = .ok (.aload_n 1, 1) := by decide +kernel
theorem dL_law_643 : decode cL_law 643 = .ok (.aload_n 0, 1) := by decide +kernel
theorem dL_law_644 : decode cL_law 644 = .ok (.iload_n 3, 1) := by decide +kernel
theorem dL_law_645 : decode cL_law 645 = .ok (.iconst 1, 1) := by decide +kernel
theorem dL_law_646 : decode cL_law 646 = .ok (.iadd, 1) := by decide +kernel
theorem dL_law_647 : decode cL_law 647 = .ok (.iaload, 1) := by decide +kernel
theorem dL_law_648 : decode cL_law 648 = .ok (.invokevirtual 69, 3) := by decide +kernel
theorem dL_law_651 : decode cL_law 651 = .ok (.aload_n 2, 1) := by decide +kernel
theorem dL_law_652 : decode cL_law 652 = .ok (.aload_n 0, 1) := by decide +kernel
theorem dL_law_653 : decode cL_law 653 = .ok (.iload_n 3, 1) := by decide +kernel
theorem dL_law_654 : decode cL_law 654 = .ok (.iconst 1, 1) := by decide +kernel
theorem dL_law_655 : decode cL_law 655 = .ok (.iadd, 1) := by decide +kernel
theorem dL_law_656 : decode cL_law 656 = .ok (.iaload, 1) := by decide +kernel
theorem dL_law_657 : decode cL_law 657 = .ok (.invokevirtual 72, 3) := by decide +kernel
theorem dL_law_660 : decode cL_law 660 = .ok (.if_icmp .eq 914, 3) := by decide +kernel
theorem dL_law_663 : decode cL_law 663 = .ok (.iconst 0, 1) := by decide +kernel
theorem dL_law_664 : decode cL_law 664 = .ok (.ireturn, 1) := by decide +kernel
theorem dL_law_665 : decode cL_law 665 = .ok (.aload_n 1, 1) := by decide +kernel
theorem dL_law_666 : decode cL_law 666 = .ok (.aload_n 0, 1) := by decide +kernel
theorem dL_law_667 : decode cL_law 667 = .ok (.iload_n 3, 1) := by decide +kernel
theorem dL_law_668 : decode cL_law 668 = .ok (.iconst 1, 1) := by decide +kernel
theorem dL_law_669 : decode cL_law 669 = .ok (.iadd, 1) := by decide +kernel
theorem dL_law_670 : decode cL_law 670 = .ok (.iaload, 1) := by decide +kernel
theorem dL_law_671 : decode cL_law 671 = .ok (.invokevirtual 73, 3) := by decide +kernel
theorem dL_law_674 : decode cL_law 674 = .ok (.aload_n 2, 1) := by decide +kernel
theorem dL_law_675 : decode cL_law 675 = .ok (.aload_n 0, 1) := by decide +kernel
theorem dL_law_676 : decode cL_law 676 = .ok (.iload_n 3, 1) := by decide +kernel
theorem dL_law_677 : decode cL_law 677 = .ok (.iconst 1, 1) := by decide +kernel
theorem dL_law_678 : decode cL_law 678 = .ok (.iadd, 1) := by decide +kernel
theorem dL_law_679 : decode cL_law 679 = .ok (.iaload, 1) := by decide +kernel
theorem dL_law_680 : decode cL_law 680 = .ok (.invokevirtual 76, 3) := by decide +kernel
theorem dL_law_683 : decode cL_law 683 = .ok (.if_icmp .eq 891, 3) := by decide +kernel
theorem dL_law_686 : decode cL_law 686 = .ok (.iconst 0, 1) := by decide +kernel
theorem dL_law_687 : decode cL_law 687 = .ok (.ireturn, 1) := by decide +kernel
theorem dL_law_688 : decode cL_law 688 = .ok (.aload_n 1, 1) := by decide +kernel
theorem dL_law_689 : decode cL_law 689 = .ok (.aload_n 0, 1) := by decide +kernel
theorem dL_law_690 : decode cL_law 690 = .ok (.iload_n 3, 1) := by decide +kernel
theorem dL_law_691 : decode cL_law 691 = .ok (.iconst 1, 1) := by decide +kernel
theorem dL_law_692 : decode cL_law 692 = .ok (.iadd, 1) := by decide +kernel
theorem dL_law_693 : decode cL_law 693 = .ok (.iaload, 1) := by decide +kernel
theorem dL_law_694 : decode cL_law 694 = .ok (.aload_n 0, 1) := by decide +kernel
theorem dL_law_695 : decode cL_law 695 = .ok (.iload_n 3, 1) := by decide +kernel
theorem dL_law_696 : decode cL_law 696 = .ok (.iconst 2, 1) := by decide +kernel
theorem dL_law_697 : decode cL_law 697 = .ok (.iadd, 1) := by decide +kernel
theorem dL_law_698 : decode cL_law 698 = .ok (.iaload, 1) := by decide +kernel
theorem dL_law_699 : decode cL_law 699 = .ok (.invokevirtual 77, 3) := by decide +kernel
theorem dL_law_702 : decode cL_law 702 = .ok (.aload_n 2, 1) := by decide +kernel
theorem dL_law_703 : decode cL_law 703 = .ok (.aload_n 0, 1) := by decide +kernel
theorem dL_law_704 : decode cL_law 704 = .ok (.iload_n 3, 1) := by decide +kernel
theorem dL_law_705 : decode cL_law 705 = .ok (.iconst 1, 1) := by decide +kernel
theorem dL_law_706 : decode cL_law 706 = .ok (.iadd, 1) := by decide +kernel
theorem dL_law_707 : decode cL_law 707 = .ok (.iaload, 1) := by decide +kernel
theorem dL_law_708 : decode cL_law 708 = .ok (.aload_n 0, 1) := by decide +kernel
theorem dL_law_709 : decode cL_law 709 = .ok (.iload_n 3, 1) := by decide +kernel
theorem dL_law_710 : decode cL_law 710 = .ok (.iconst 2, 1) := by decide +kernel
theorem dL_law_711 : decode cL_law 711 = .ok (.iadd, 1) := by decide +kernel
theorem dL_law_712 : decode cL_law 712 = .ok (.iaload, 1) := by decide +kernel
theorem dL_law_713 : decode cL_law 713 = .ok (.invokevirtual 80, 3) := by decide +kernel
theorem dL_law_716 : decode cL_law 716 = .ok (.if_icmp .eq 858, 3) := by decide +kernel
theorem dL_law_719 : decode cL_law 719 = .ok (.iconst 0, 1) := by decide +kernel
theorem dL_law_720 : decode cL_law 720 = .ok (.ireturn, 1) := by decide +kernel
theorem dL_law_721 : decode cL_law 721 = .ok (.aload_n 1, 1) := by decide +kernel
theorem dL_law_722 : decode cL_law 722 = .ok (.aload_n 0, 1) := by decide +kernel
theorem dL_law_723 : decode cL_law 723 = .ok (.iload_n 3, 1) := by decide +kernel
theorem dL_law_724 : decode cL_law 724 = .ok (.iconst 1, 1) := by decide +kernel
theorem dL_law_725 : decode cL_law 725 = .ok (.iadd, 1) := by decide +kernel
theorem dL_law_726 : decode cL_law 726 = .ok (.iaload, 1) := by decide +kernel
theorem dL_law_727 : decode cL_law 727 = .ok (.aload_n 0, 1) := by decide +kernel
theorem dL_law_728 : decode cL_law 728 = .ok (.iload_n 3, 1) := by decide +kernel
theorem dL_law_729 : decode cL_law 729 = .ok (.iconst 2, 1) := by decide +kernel
theorem dL_law_730 : decode cL_law 730 = .ok (.iadd, 1) := by decide +kernel
theorem dL_law_731 : decode cL_law 731 = .ok (.iaload, 1) := by decide +kernel
theorem dL_law_732 : decode cL_law 732 = .ok (.aload_n 0, 1) := by decide +kernel
theorem dL_law_733 : decode cL_law 733 = .ok (.iload_n 3, 1) := by decide +kernel
theorem dL_law_734 : decode cL_law 734 = .ok (.iconst 3, 1) := by decide +kernel
theorem dL_law_735 : decode cL_law 735 = .ok (.iadd, 1) := by decide +kernel
theorem dL_law_736 : decode cL_law 736 = .ok (.iaload, 1) := by decide +kernel
theorem dL_law_737 : decode cL_law 737 = .ok (.aload_n 0, 1) := by decide +kernel
theorem dL_law_738 : decode cL_law 738 = .ok (.iload_n 3, 1) := by decide +kernel
theorem dL_law_739 : decode cL_law 739 = .ok (.iconst 4, 1) := by decide +kernel
theorem dL_law_740 : decode cL_law 740 = .ok (.iadd, 1) := by decide +kernel
theorem dL_law_741 : decode cL_law 741 = .ok (.iaload, 1) := by decide +kernel
theorem dL_law_742 : decode cL_law 742 = .ok (.aload_n 0, 1) := by decide +kernel
theorem dL_law_743 : decode cL_law 743 = .ok (.iload_n 3, 1) := by decide +kernel
theorem dL_law_744 : decode cL_law 744 = .ok (.iconst 5, 1) := by decide +kernel
theorem dL_law_745 : decode cL_law 745 = .ok (.iadd, 1) := by decide +kernel
theorem dL_law_746 : decode cL_law 746 = .ok (.iaload, 1) := by decide +kernel
theorem dL_law_747 : decode cL_law 747 = .ok (.aload_n 0, 1) := by decide +kernel
theorem dL_law_748 : decode cL_law 748 = .ok (.iload_n 3, 1) := by decide +kernel
theorem dL_law_749 : decode cL_law 749 = .ok (.bipush 6, 2) := by decide +kernel
theorem dL_law_751 : decode cL_law 751 = .ok (.iadd, 1) := by decide +kernel
theorem dL_law_752 : decode cL_law 752 = .ok (.iaload, 1) := by decide +kernel
theorem dL_law_753 : decode cL_law 753 = .ok (.invokevirtual 81, 3) := by decide +kernel
theorem dL_law_756 : decode cL_law 756 = .ok (.aload_n 2, 1) := by decide +kernel
theorem dL_law_757 : decode cL_law 757 = .ok (.aload_n 0, 1) := by decide +kernel
theorem dL_law_758 : decode cL_law 758 = .ok (.iload_n 3, 1) := by decide +kernel
theorem dL_law_759 : decode cL_law 759 = .ok (.iconst 1, 1) := by decide +kernel
theorem dL_law_760 : decode cL_law 760 = .ok (.iadd, 1) := by decide +kernel
theorem dL_law_761 : decode cL_law 761 = .ok (.iaload, 1) := by decide +kernel
theorem dL_law_762 : decode cL_law 762 = .ok (.aload_n 0, 1) := by decide +kernel
theorem dL_law_763 : decode cL_law 763 = .ok (.iload_n 3, 1) := by decide +kernel
theorem dL_law_764 : decode cL_law 764 = .ok (.iconst 2, 1) := by decide +kernel
theorem dL_law_765 : decode cL_law 765 = .ok (.iadd, 1) := by decide +kernel
theorem dL_law_766 : decode cL_law 766 = .ok (.iaload, 1) := by decide +kernel
theorem dL_law_767 : decode cL_law 767 = .ok (.aload_n 0, 1) := by decide +kernel
theorem dL_law_768 : decode cL_law 768 = .ok (.iload_n 3, 1) := by decide +kernel
theorem dL_law_769 : decode cL_law 769 = .ok (.iconst 3, 1) := by decide +kernel
theorem dL_law_770 : decode cL_law 770 = .ok (.iadd, 1) := by decide +kernel
theorem dL_law_771 : decode cL_law 771 = .ok (.iaload, 1) := by decide +kernel
theorem dL_law_772 : decode cL_law 772 = .ok (.aload_n 0, 1) := by decide +kernel
theorem dL_law_773 : decode cL_law 773 = .ok (.iload_n 3, 1) := by decide +kernel
theorem dL_law_774 : decode cL_law 774 = .ok (.iconst 4, 1) := by decide +kernel
theorem dL_law_775 : decode cL_law 775 = .ok (.iadd, 1) := by decide +kernel
theorem dL_law_776 : decode cL_law 776 = .ok (.iaload, 1) := by decide +kernel
theorem dL_law_777 : decode cL_law 777 = .ok (.aload_n 0, 1) := by decide +kernel
theorem dL_law_778 : decode cL_law 778 = .ok (.iload_n 3, 1) := by decide +kernel
theorem dL_law_779 : decode cL_law 779 = .ok (.iconst 5, 1) := by decide +kernel
theorem dL_law_780 : decode cL_law 780 = .ok (.iadd, 1) := by decide +kernel
theorem dL_law_781 : decode cL_law 781 = .ok (.iaload, 1) := by decide +kernel
theorem dL_law_782 : decode cL_law 782 = .ok (.aload_n 0, 1) := by decide +kernel
theorem dL_law_783 : decode cL_law 783 = .ok (.iload_n 3, 1) := by decide +kernel
theorem dL_law_784 : decode cL_law 784 = .ok (.bipush 6, 2) := by decide +kernel
theorem dL_law_786 : decode cL_law 786 = .ok (.iadd, 1) := by decide +kernel
theorem dL_law_787 : decode cL_law 787 = .ok (.iaload, 1) := by decide +kernel
theorem dL_law_788 : decode cL_law 788 = .ok (.invokevirtual 85, 3) := by decide +kernel
theorem dL_law_791 : decode cL_law 791 = .ok (.if_icmp .eq 783, 3) := by decide +kernel
theorem dL_law_794 : decode cL_law 794 = .ok (.iconst 0, 1) := by decide +kernel
theorem dL_law_795 : decode cL_law 795 = .ok (.ireturn, 1) := by decide +kernel
theorem dL_law_796 : decode cL_law 796 = .ok (.aload_n 1, 1) := by decide +kernel
theorem dL_law_797 : decode cL_law 797 = .ok (.aload_n 0, 1) := by decide +kernel
theorem dL_law_798 : decode cL_law 798 = .ok (.iload_n 3, 1) := by decide +kernel
theorem dL_law_799 : decode cL_law 799 = .ok (.iconst 1, 1) := by decide +kernel
theorem dL_law_800 : decode cL_law 800 = .ok (.iadd, 1) := by decide +kernel
theorem dL_law_801 : decode cL_law 801 = .ok (.iaload, 1) := by decide +kernel
theorem dL_law_802 : decode cL_law 802 = .ok (.aload_n 0, 1) := by decide +kernel
theorem dL_law_803 : decode cL_law 803 = .ok (.iload_n 3, 1) := by decide +kernel
theorem dL_law_804 : decode cL_law 804 = .ok (.iconst 2, 1) := by decide +kernel
theorem dL_law_805 : decode cL_law 805 = .ok (.iadd, 1) := by decide +kernel
theorem dL_law_806 : decode cL_law 806 = .ok (.iaload, 1) := by decide +kernel
theorem dL_law_807 : decode cL_law 807 = .ok (.invokevirtual 86, 3) := by decide +kernel
theorem dL_law_810 : decode cL_law 810 = .ok (.aload_n 2, 1) := by decide +kernel
theorem dL_law_811 : decode cL_law 811 = .ok (.aload_n 0, 1) := by decide +kernel
theorem dL_law_812 : decode cL_law 812 = .ok (.iload_n 3, 1) := by decide +kernel
theorem dL_law_813 : decode cL_law 813 = .ok (.iconst 1, 1) := by decide +kernel
theorem dL_law_814 : decode cL_law 814 = .ok (.iadd, 1) := by decide +kernel
theorem dL_law_815 : decode cL_law 815 = .ok (.iaload, 1) := by decide +kernel
theorem dL_law_816 : decode cL_law 816 = .ok (.aload_n 0, 1) := by decide +kernel
theorem dL_law_817 : decode cL_law 817 = .ok (.iload_n 3, 1) := by decide +kernel
theorem dL_law_818 : decode cL_law 818 = .ok (.iconst 2, 1) := by decide +kernel
theorem dL_law_819 : decode cL_law 819 = .ok (.iadd, 1) := by decide +kernel
theorem dL_law_820 : decode cL_law 820 = .ok (.iaload, 1) := by decide +kernel
theorem dL_law_821 : decode cL_law 821 = .ok (.invokevirtual 89, 3) := by decide +kernel
theorem dL_law_824 : decode cL_law 824 = .ok (.if_icmp .eq 750, 3) := by decide +kernel
theorem dL_law_827 : decode cL_law 827 = .ok (.iconst 0, 1) := by decide +kernel
theorem dL_law_828 : decode cL_law 828 = .ok (.ireturn, 1) := by decide +kernel
theorem dL_law_829 : decode cL_law 829 = .ok (.aload_n 1, 1) := by decide +kernel
theorem dL_law_830 : decode cL_law 830 = .ok (.aload_n 0, 1) := by decide +kernel
theorem dL_law_831 : decode cL_law 831 = .ok (.iload_n 3, 1) := by decide +kernel
theorem dL_law_832 : decode cL_law 832 = .ok (.iconst 1, 1) := by decide +kernel
theorem dL_law_833 : decode cL_law 833 = .ok (.iadd, 1) := by decide +kernel
theorem dL_law_834 : decode cL_law 834 = .ok (.iaload, 1) := by decide +kernel
theorem dL_law_835 : decode cL_law 835 = .ok (.aload_n 0, 1) := by decide +kernel
theorem dL_law_836 : decode cL_law 836 = .ok (.iload_n 3, 1) := by decide +kernel
theorem dL_law_837 : decode cL_law 837 = .ok (.iconst 2, 1) := by decide +kernel
theorem dL_law_838 : decode cL_law 838 = .ok (.iadd, 1) := by decide +kernel
theorem dL_law_839 : decode cL_law 839 = .ok (.iaload, 1) := by decide +kernel
theorem dL_law_840 : decode cL_law 840 = .ok (.invokevirtual 90, 3) := by decide +kernel
theorem dL_law_843 : decode cL_law 843 = .ok (.aload_n 2, 1) := by decide +kernel
theorem dL_law_844 : decode cL_law 844 = .ok (.aload_n 0, 1) := by decide +kernel
theorem dL_law_845 : decode cL_law 845 = .ok (.iload_n 3, 1) := by decide +kernel
theorem dL_law_846 : decode cL_law 846 = .ok (.iconst 1, 1) := by decide +kernel
theorem dL_law_847 : decode cL_law 847 = .ok (.iadd, 1) := by decide +kernel
theorem dL_law_848 : decode cL_law 848 = .ok (.iaload, 1) := by decide +kernel
theorem dL_law_849 : decode cL_law 849 = .ok (.aload_n 0, 1) := by decide +kernel
theorem dL_law_850 : decode cL_law 850 = .ok (.iload_n 3, 1) := by decide +kernel
theorem dL_law_851 : decode cL_law 851 = .ok (.iconst 2, 1) := by decide +kernel
theorem dL_law_852 : decode cL_law 852 = .ok (.iadd, 1) := by decide +kernel
theorem dL_law_853 : decode cL_law 853 = .ok (.iaload, 1) := by decide +kernel
theorem dL_law_854 : decode cL_law 854 = .ok (.invokevirtual 93, 3) := by decide +kernel
theorem dL_law_857 : decode cL_law 857 = .ok (.if_icmp .eq 717, 3) := by decide +kernel
theorem dL_law_860 : decode cL_law 860 = .ok (.iconst 0, 1) := by decide +kernel
theorem dL_law_861 : decode cL_law 861 = .ok (.ireturn, 1) := by decide +kernel
theorem dL_law_862 : decode cL_law 862 = .ok (.aload_n 1, 1) := by decide +kernel
theorem dL_law_863 : decode cL_law 863 = .ok (.aload_n 0, 1) := by decide +kernel
theorem dL_law_864 : decode cL_law 864 = .ok (.iload_n 3, 1) := by decide +kernel
theorem dL_law_865 : decode cL_law 865 = .ok (.iconst 1, 1) := by decide +kernel
theorem dL_law_866 : decode cL_law 866 = .ok (.iadd, 1) := by decide +kernel
theorem dL_law_867 : decode cL_law 867 = .ok (.iaload, 1) := by decide +kernel
theorem dL_law_868 : decode cL_law 868 = .ok (.aload_n 0, 1) := by decide +kernel
theorem dL_law_869 : decode cL_law 869 = .ok (.iload_n 3, 1) := by decide +kernel
theorem dL_law_870 : decode cL_law 870 = .ok (.iconst 2, 1) := by decide +kernel
theorem dL_law_871 : decode cL_law 871 = .ok (.iadd, 1) := by decide +kernel
theorem dL_law_872 : decode cL_law 872 = .ok (.iaload, 1) := by decide +kernel
theorem dL_law_873 : decode cL_law 873 = .ok (.aload_n 0, 1) := by decide +kernel
theorem dL_law_874 : decode cL_law 874 = .ok (.iload_n 3, 1) := by decide +kernel
theorem dL_law_875 : decode cL_law 875 = .ok (.iconst 3, 1) := by decide +kernel
theorem dL_law_876 : decode cL_law 876 = .ok (.iadd, 1) := by decide +kernel
theorem dL_law_877 : decode cL_law 877 = .ok (.iaload, 1) := by decide +kernel
theorem dL_law_878 : decode cL_law 878 = .ok (.aload_n 0, 1) := by decide +kernel
theorem dL_law_879 : decode cL_law 879 = .ok (.iload_n 3, 1) := by decide +kernel
theorem dL_law_880 : decode cL_law 880 = .ok (.iconst 4, 1) := by decide +kernel
theorem dL_law_881 : decode cL_law 881 = .ok (.iadd, 1) := by decide +kernel
theorem dL_law_882 : decode cL_law 882 = .ok (.iaload, 1) := by decide +kernel
theorem dL_law_883 : decode cL_law 883 = .ok (.invokevirtual 94, 3) := by decide +kernel
theorem dL_law_886 : decode cL_law 886 = .ok (.aload_n 2, 1) := by decide +kernel
theorem dL_law_887 : decode cL_law 887 = .ok (.aload_n 0, 1) := by decide +kernel
theorem dL_law_888 : decode cL_law 888 = .ok (.iload_n 3, 1) := by decide +kernel
theorem dL_law_889 : decode cL_law 889 = .ok (.iconst 1, 1) := by decide +kernel
theorem dL_law_890 : decode cL_law 890 = .ok (.iadd, 1) := by decide +kernel
theorem dL_law_891 : decode cL_law 891 = .ok (.iaload, 1) := by decide +kernel
theorem dL_law_892 : decode cL_law 892 = .ok (.aload_n 0, 1) := by decide +kernel
theorem dL_law_893 : decode cL_law 893 = .ok (.iload_n 3, 1) := by decide +kernel
theorem dL_law_894 : decode cL_law 894 = .ok (.iconst 2, 1) := by decide +kernel
theorem dL_law_895 : decode cL_law 895 = .ok (.iadd, 1) := by decide +kernel
theorem dL_law_896 : decode cL_law 896 = .ok (.iaload, 1) := by decide +kernel
theorem dL_law_897 : decode cL_law 897 = .ok (.aload_n 0, 1) := by decide +kernel
theorem dL_law_898 : decode cL_law 898 = .ok (.iload_n 3, 1) := by decide +kernel
theorem dL_law_899 : decode cL_law 899 = .ok (.iconst 3, 1) := by decide +kernel
theorem dL_law_900 : decode cL_law 900 = .ok (.iadd, 1) := by decide +kernel
theorem dL_law_901 : decode cL_law 901 = .ok (.iaload, 1) := by decide +kernel
theorem dL_law_902 : decode cL_law 902 = .ok (.aload_n 0, 1) := by decide +kernel
theorem dL_law_903 : decode cL_law 903 = .ok (.iload_n 3, 1) := by decide +kernel
theorem dL_law_904 : decode cL_law 904 = .ok (.iconst 4, 1) := by decide +kernel
theorem dL_law_905 : decode cL_law 905 = .ok (.iadd, 1) := by decide +kernel
theorem dL_law_906 : decode cL_law 906 = .ok (.iaload, 1) := by decide +kernel
theorem dL_law_907 : decode cL_law 907 = .ok (.invokevirtual 98, 3) := by decide +kernel
theorem dL_law_910 : decode cL_law 910 = .ok (.if_icmp .eq 664, 3) := by decide +kernel
theorem dL_law_913 : decode cL_law 913 = .ok (.iconst 0, 1) := by decide +kernel
theorem dL_law_914 : decode cL_law 914 = .ok (.ireturn, 1) := by decide +kernel
theorem dL_law_915 : decode cL_law 915 = .ok (.aload_n 1, 1) := by decide +kernel
theorem dL_law_916 : decode cL_law 916 = .ok (.aload_n 0, 1) := by decide +kernel
theorem dL_law_917 : decode cL_law 917 = .ok (.iload_n 3, 1) := by decide +kernel
theorem dL_law_918 : decode cL_law 918 = .ok (.iconst 1, 1) := by decide +kernel
theorem dL_law_919 : decode cL_law 919 = .ok (.iadd, 1) := by decide +kernel
theorem dL_law_920 : decode cL_law 920 = .ok (.iaload, 1) := by decide +kernel
theorem dL_law_921 : decode cL_law 921 = .ok (.aload_n 0, 1) := by decide +kernel
theorem dL_law_922 : decode cL_law 922 = .ok (.iload_n 3, 1) := by decide +kernel
theorem dL_law_923 : decode cL_law 923 = .ok (.iconst 2, 1) := by decide +kernel
theorem dL_law_924 : decode cL_law 924 = .ok (.iadd, 1) := by decide +kernel
theorem dL_law_925 : decode cL_law 925 = .ok (.iaload, 1) := by decide +kernel
theorem dL_law_926 : decode cL_law 926 = .ok (.aload_n 0, 1) := by decide +kernel
theorem dL_law_927 : decode cL_law 927 = .ok (.iload_n 3, 1) := by decide +kernel
theorem dL_law_928 : decode cL_law 928 = .ok (.iconst 3, 1) := by decide +kernel
theorem dL_law_929 : decode cL_law 929 = .ok (.iadd, 1) := by decide +kernel
theorem dL_law_930 : decode cL_law 930 = .ok (.iaload, 1) := by decide +kernel
theorem dL_law_931 : decode cL_law 931 = .ok (.invokevirtual 99, 3) := by decide +kernel
theorem dL_law_934 : decode cL_law 934 = .ok (.aload_n 2, 1) := by decide +kernel
theorem dL_law_935 : decode cL_law 935 = .ok (.aload_n 0, 1) := by decide +kernel
theorem dL_law_936 : decode cL_law 936 = .ok (.iload_n 3, 1) := by decide +kernel
theorem dL_law_937 : decode cL_law 937 = .ok (.iconst 1, 1) := by decide +kernel
theorem dL_law_938 : decode cL_law 938 = .ok (.iadd, 1) := by decide +kernel
theorem dL_law_939 : decode cL_law 939 = .ok (.iaload, 1) := by decide +kernel
theorem dL_law_940 : decode cL_law 940 = .ok (.aload_n 0, 1) := by decide +kernel
theorem dL_law_941 : decode cL_law 941 = .ok (.iload_n 3, 1) := by decide +kernel
theorem dL_law_942 : decode cL_law 942 = .ok (.iconst 2, 1) := by decide +kernel
theorem dL_law_943 : decode cL_law 943 = .ok (.iadd, 1) := by decide +kernel
theorem dL_law_944 : decode cL_law 944 = .ok (.iaload, 1) := by decide +kernel
theorem dL_law_945 : decode cL_law 945 = .ok (.aload_n 0, 1) := by decide +kernel
theorem dL_law_946 : decode cL_law 946 = .ok (.iload_n 3, 1) := by decide +kernel
theorem dL_law_947 : decode cL_law 947 = .ok (.iconst 3, 1) := by decide +kernel
theorem dL_law_948 : decode cL_law 948 = .ok (.iadd, 1) := by decide +kernel
theorem dL_law_949 : decode cL_law 949 = .ok (.iaload, 1) := by decide +kernel
theorem dL_law_950 : decode cL_law 950 = .ok (.invokevirtual 102, 3) := by decide +kernel
theorem dL_law_953 : decode cL_law 953 = .ok (.if_icmp .eq 621, 3) := by decide +kernel
theorem dL_law_956 : decode cL_law 956 = .ok (.iconst 0, 1) := by decide +kernel
theorem dL_law_957 : decode cL_law 957 = .ok (.ireturn, 1) := by decide +kernel
theorem dL_law_958 : decode cL_law 958 = .ok (.aload_n 1, 1) := by decide +kernel
theorem dL_law_959 : decode cL_law 959 = .ok (.aload_n 0, 1) := by decide +kernel
theorem dL_law_960 : decode cL_law 960 = .ok (.iload_n 3, 1) := by decide +kernel
theorem dL_law_961 : decode cL_law 961 = .ok (.iconst 1, 1) := by decide +kernel
theorem dL_law_962 : decode cL_law 962 = .ok (.iadd, 1) := by decide +kernel
theorem dL_law_963 : decode cL_law 963 = .ok (.iaload, 1) := by decide +kernel
theorem dL_law_964 : decode cL_law 964 = .ok (.aload_n 0, 1) := by decide +kernel
theorem dL_law_965 : decode cL_law 965 = .ok (.iload_n 3, 1) := by decide +kernel
theorem dL_law_966 : decode cL_law 966 = .ok (.iconst 2, 1) := by decide +kernel
theorem dL_law_967 : decode cL_law 967 = .ok (.iadd, 1) := by decide +kernel
theorem dL_law_968 : decode cL_law 968 = .ok (.iaload, 1) := by decide +kernel
theorem dL_law_969 : decode cL_law 969 = .ok (.aload_n 0, 1) := by decide +kernel
theorem dL_law_970 : decode cL_law 970 = .ok (.iload_n 3, 1) := by decide +kernel
theorem dL_law_971 : decode cL_law 971 = .ok (.iconst 3, 1) := by decide +kernel
theorem dL_law_972 : decode cL_law 972 = .ok (.iadd, 1) := by decide +kernel
theorem dL_law_973 : decode cL_law 973 = .ok (.iaload, 1) := by decide +kernel
theorem dL_law_974 : decode cL_law 974 = .ok (.invokevirtual 103, 3) := by decide +kernel
theorem dL_law_977 : decode cL_law 977 = .ok (.aload_n 2, 1) := by decide +kernel
theorem dL_law_978 : decode cL_law 978 = .ok (.aload_n 0, 1) := by decide +kernel
theorem dL_law_979 : decode cL_law 979 = .ok (.iload_n 3, 1) := by decide +kernel
theorem dL_law_980 : decode cL_law 980 = .ok (.iconst 1, 1) := by decide +kernel
theorem dL_law_981 : decode cL_law 981 = .ok (.iadd, 1) := by decide +kernel
theorem dL_law_982 : decode cL_law 982 = .ok (.iaload, 1) := by decide +kernel
theorem dL_law_983 : decode cL_law 983 = .ok (.aload_n 0, 1) := by decide +kernel
theorem dL_law_984 : decode cL_law 984 = .ok (.iload_n 3, 1) := by decide +kernel
theorem dL_law_985 : decode cL_law 985 = .ok (.iconst 2, 1) := by decide +kernel
theorem dL_law_986 : decode cL_law 986 = .ok (.iadd, 1) := by decide +kernel
theorem dL_law_987 : decode cL_law 987 = .ok (.iaload, 1) := by decide +kernel
theorem dL_law_988 : decode cL_law 988 = .ok (.aload_n 0, 1) := by decide +kernel
theorem dL_law_989 : decode cL_law 989 = .ok (.iload_n 3, 1) := by decide +kernel
theorem dL_law_990 : decode cL_law 990 = .ok (.iconst 3, 1) := by decide +kernel
theorem dL_law_991 : decode cL_law 991 = .ok (.iadd, 1) := by decide +kernel
theorem dL_law_992 : decode cL_law 992 = .ok (.iaload, 1) := by decide +kernel
theorem dL_law_993 : decode cL_law 993 = .ok (.invokevirtual 106, 3) := by decide +kernel
theorem dL_law_996 : decode cL_law 996 = .ok (.if_icmp .eq 578, 3) := by decide +kernel
theorem dL_law_999 : decode cL_law 999 = .ok (.iconst 0, 1) := by decide +kernel
theorem dL_law_1000 : decode cL_law 1000 = .ok (.ireturn, 1) := by decide +kernel
theorem dL_law_1001 : decode cL_law 1001 = .ok (.aload_n 1, 1) := by decide +kernel
theorem dL_law_1002 : decode cL_law 1002 = .ok (.aload_n 0, 1) := by decide +kernel
theorem dL_law_1003 : decode cL_law 1003 = .ok (.iload_n 3, 1) := by decide +kernel
theorem dL_law_1004 : decode cL_law 1004 = .ok (.iconst 1, 1) := by decide +kernel
theorem dL_law_1005 : decode cL_law 1005 = .ok (.iadd, 1) := by decide +kernel
theorem dL_law_1006 : decode cL_law 1006 = .ok (.iaload, 1) := by decide +kernel
theorem dL_law_1007 : decode cL_law 1007 = .ok (.aload_n 0, 1) := by decide +kernel
theorem dL_law_1008 : decode cL_law 1008 = .ok (.iload_n 3, 1) := by decide +kernel
theorem dL_law_1009 : decode cL_law 1009 = .ok (.iconst 2, 1) := by decide +kernel
theorem dL_law_1010 : decode cL_law 1010 = .ok (.iadd, 1) := by decide +kernel
theorem dL_law_1011 : decode cL_law 1011 = .ok (.iaload, 1) := by decide +kernel
theorem dL_law_1012 : decode cL_law 1012 = .ok (.invokevirtual 107, 3) := by decide +kernel
theorem dL_law_1015 : decode cL_law 1015 = .ok (.aload_n 2, 1) := by decide +kernel
theorem dL_law_1016 : decode cL_law 1016 = .ok (.aload_n 0, 1) := by decide +kernel
theorem dL_law_1017 : decode cL_law 1017 = .ok (.iload_n 3, 1) := by decide +kernel
theorem dL_law_1018 : decode cL_law 1018 = .ok (.iconst 1, 1) := by decide +kernel
theorem dL_law_1019 : decode cL_law 1019 = .ok (.iadd, 1) := by decide +kernel
theorem dL_law_1020 : decode cL_law 1020 = .ok (.iaload, 1) := by decide +kernel
theorem dL_law_1021 : decode cL_law 1021 = .ok (.aload_n 0, 1) := by decide +kernel
theorem dL_law_1022 : decode cL_law 1022 = .ok (.iload_n 3, 1) := by decide +kernel
theorem dL_law_1023 : decode cL_law 1023 = .ok (.iconst 2, 1) := by decide +kernel
theorem dL_law_1024 : decode cL_law 1024 = .ok (.iadd, 1) := by decide +kernel
theorem dL_law_1025 : decode cL_law 1025 = .ok (.iaload, 1) := by decide +kernel
theorem dL_law_1026 : decode cL_law 1026 = .ok (.invokevirtual 110, 3) := by decide +kernel
theorem dL_law_1029 : decode cL_law 1029 = .ok (.if_icmp .eq 545, 3) := by decide +kernel
theorem dL_law_1032 : decode cL_law 1032 = .ok (.iconst 0, 1) := by decide +kernel
theorem dL_law_1033 : decode cL_law 1033 = .ok (.ireturn, 1) := by decide +kernel
theorem dL_law_1034 : decode cL_law 1034 = .ok (.aload_n 1, 1) := by decide +kernel
theorem dL_law_1035 : decode cL_law 1035 = .ok (.aload_n 0, 1) := by decide +kernel
theorem dL_law_1036 : decode cL_law 1036 = .ok (.iload_n 3, 1) := by decide +kernel
theorem dL_law_1037 : decode cL_law 1037 = .ok (.iconst 1, 1) := by decide +kernel
theorem dL_law_1038 : decode cL_law 1038 = .ok (.iadd, 1) := by decide +kernel
theorem dL_law_1039 : decode cL_law 1039 = .ok (.iaload, 1) := by decide +kernel
theorem dL_law_1040 : decode cL_law 1040 = .ok (.aload_n 0, 1) := by decide +kernel
theorem dL_law_1041 : decode cL_law 1041 = .ok (.iload_n 3, 1) := by decide +kernel
theorem dL_law_1042 : decode cL_law 1042 = .ok (.iconst 2, 1) := by decide +kernel
theorem dL_law_1043 : decode cL_law 1043 = .ok (.iadd, 1) := by decide +kernel
theorem dL_law_1044 : decode cL_law 1044 = .ok (.iaload, 1) := by decide +kernel
theorem dL_law_1045 : decode cL_law 1045 = .ok (.invokevirtual 111, 3) := by decide +kernel
theorem dL_law_1048 : decode cL_law 1048 = .ok (.aload_n 2, 1) := by decide +kernel
theorem dL_law_1049 : decode cL_law 1049 = .ok (.aload_n 0, 1) := by decide +kernel
theorem dL_law_1050 : decode cL_law 1050 = .ok (.iload_n 3, 1) := by decide +kernel
theorem dL_law_1051 : decode cL_law 1051 = .ok (.iconst 1, 1) := by decide +kernel
theorem dL_law_1052 : decode cL_law 1052 = .ok (.iadd, 1) := by decide +kernel
theorem dL_law_1053 : decode cL_law 1053 = .ok (.iaload, 1) := by decide +kernel
theorem dL_law_1054 : decode cL_law 1054 = .ok (.aload_n 0, 1) := by decide +kernel
theorem dL_law_1055 : decode cL_law 1055 = .ok (.iload_n 3, 1) := by decide +kernel
theorem dL_law_1056 : decode cL_law 1056 = .ok (.iconst 2, 1) := by decide +kernel
theorem dL_law_1057 : decode cL_law 1057 = .ok (.iadd, 1) := by decide +kernel
theorem dL_law_1058 : decode cL_law 1058 = .ok (.iaload, 1) := by decide +kernel
theorem dL_law_1059 : decode cL_law 1059 = .ok (.invokevirtual 115, 3) := by decide +kernel
theorem dL_law_1062 : decode cL_law 1062 = .ok (.if_icmp .eq 512, 3) := by decide +kernel
theorem dL_law_1065 : decode cL_law 1065 = .ok (.iconst 0, 1) := by decide +kernel
theorem dL_law_1066 : decode cL_law 1066 = .ok (.ireturn, 1) := by decide +kernel
theorem dL_law_1067 : decode cL_law 1067 = .ok (.aload_n 1, 1) := by decide +kernel
theorem dL_law_1068 : decode cL_law 1068 = .ok (.aload_n 0, 1) := by decide +kernel
theorem dL_law_1069 : decode cL_law 1069 = .ok (.iload_n 3, 1) := by decide +kernel
theorem dL_law_1070 : decode cL_law 1070 = .ok (.iconst 1, 1) := by decide +kernel
theorem dL_law_1071 : decode cL_law 1071 = .ok (.iadd, 1) := by decide +kernel
theorem dL_law_1072 : decode cL_law 1072 = .ok (.iaload, 1) := by decide +kernel
theorem dL_law_1073 : decode cL_law 1073 = .ok (.aload_n 0, 1) := by decide +kernel
theorem dL_law_1074 : decode cL_law 1074 = .ok (.iload_n 3, 1) := by decide +kernel
theorem dL_law_1075 : decode cL_law 1075 = .ok (.iconst 2, 1) := by decide +kernel
theorem dL_law_1076 : decode cL_law 1076 = .ok (.iadd, 1) := by decide +kernel
theorem dL_law_1077 : decode cL_law 1077 = .ok (.iaload, 1) := by decide +kernel
theorem dL_law_1078 : decode cL_law 1078 = .ok (.aload_n 0, 1) := by decide +kernel
theorem dL_law_1079 : decode cL_law 1079 = .ok (.iload_n 3, 1) := by decide +kernel
theorem dL_law_1080 : decode cL_law 1080 = .ok (.iconst 3, 1) := by decide +kernel
theorem dL_law_1081 : decode cL_law 1081 = .ok (.iadd, 1) := by decide +kernel
theorem dL_law_1082 : decode cL_law 1082 = .ok (.iaload, 1) := by decide +kernel
theorem dL_law_1083 : decode cL_law 1083 = .ok (.invokevirtual 116, 3) := by decide +kernel
theorem dL_law_1086 : decode cL_law 1086 = .ok (.aload_n 2, 1) := by decide +kernel
theorem dL_law_1087 : decode cL_law 1087 = .ok (.aload_n 0, 1) := by decide +kernel
theorem dL_law_1088 : decode cL_law 1088 = .ok (.iload_n 3, 1) := by decide +kernel
theorem dL_law_1089 : decode cL_law 1089 = .ok (.iconst 1, 1) := by decide +kernel
theorem dL_law_1090 : decode cL_law 1090 = .ok (.iadd, 1) := by decide +kernel
theorem dL_law_1091 : decode cL_law 1091 = .ok (.iaload, 1) := by decide +kernel
theorem dL_law_1092 : decode cL_law 1092 = .ok (.aload_n 0, 1) := by decide +kernel
theorem dL_law_1093 : decode cL_law 1093 = .ok (.iload_n 3, 1) := by decide +kernel
theorem dL_law_1094 : decode cL_law 1094 = .ok (.iconst 2, 1) := by decide +kernel
theorem dL_law_1095 : decode cL_law 1095 = .ok (.iadd, 1) := by decide +kernel
theorem dL_law_1096 : decode cL_law 1096 = .ok (.iaload, 1) := by decide +kernel
theorem dL_law_1097 : decode cL_law 1097 = .ok (.aload_n 0, 1) := by decide +kernel
theorem dL_law_1098 : decode cL_law 1098 = .ok (.iload_n 3, 1) := by decide +kernel
theorem dL_law_1099 : decode cL_law 1099 = .ok (.iconst 3, 1) := by decide +kernel
theorem dL_law_1100 : decode cL_law 1100 = .ok (.iadd, 1) := by decide +kernel
theorem dL_law_1101 : decode cL_law 1101 = .ok (.iaload, 1) := by decide +kernel
theorem dL_law_1102 : decode cL_law 1102 = .ok (.invokevirtual 119, 3) := by decide +kernel
theorem dL_law_1105 : decode cL_law 1105 = .ok (.if_icmp .eq 469, 3) := by decide +kernel
theorem dL_law_1108 : decode cL_law 1108 = .ok (.iconst 0, 1) := by decide +kernel
theorem dL_law_1109 : decode cL_law 1109 = .ok (.ireturn, 1) := by decide +kernel
theorem dL_law_1110 : decode cL_law 1110 = .ok (.aload_n 1, 1) := by decide +kernel
theorem dL_law_1111 : decode cL_law 1111 = .ok (.aload_n 0, 1) := by decide +kernel
theorem dL_law_1112 : decode cL_law 1112 = .ok (.iload_n 3, 1) := by decide +kernel
theorem dL_law_1113 : decode cL_law 1113 = .ok (.iconst 1, 1) := by decide +kernel
theorem dL_law_1114 : decode cL_law 1114 = .ok (.iadd, 1) := by decide +kernel
theorem dL_law_1115 : decode cL_law 1115 = .ok (.iaload, 1) := by decide +kernel
theorem dL_law_1116 : decode cL_law 1116 = .ok (.aload_n 0, 1) := by decide +kernel
theorem dL_law_1117 : decode cL_law 1117 = .ok (.iload_n 3, 1) := by decide +kernel
theorem dL_law_1118 : decode cL_law 1118 = .ok (.iconst 2, 1) := by decide +kernel
theorem dL_law_1119 : decode cL_law 1119 = .ok (.iadd, 1) := by decide +kernel
theorem dL_law_1120 : decode cL_law 1120 = .ok (.iaload, 1) := by decide +kernel
theorem dL_law_1121 : decode cL_law 1121 = .ok (.aload_n 0, 1) := by decide +kernel
theorem dL_law_1122 : decode cL_law 1122 = .ok (.iload_n 3, 1) := by decide +kernel
theorem dL_law_1123 : decode cL_law 1123 = .ok (.iconst 3, 1) := by decide +kernel
theorem dL_law_1124 : decode cL_law 1124 = .ok (.iadd, 1) := by decide +kernel
theorem dL_law_1125 : decode cL_law 1125 = .ok (.iaload, 1) := by decide +kernel
theorem dL_law_1126 : decode cL_law 1126 = .ok (.invokevirtual 120, 3) := by decide +kernel
theorem dL_law_1129 : decode cL_law 1129 = .ok (.aload_n 2, 1) := by decide +kernel
theorem dL_law_1130 : decode cL_law 1130 = .ok (.aload_n 0, 1) := by decide +kernel
theorem dL_law_1131 : decode cL_law 1131 = .ok (.iload_n 3, 1) := by decide +kernel
theorem dL_law_1132 : decode cL_law 1132 = .ok (.iconst 1, 1) := by decide +kernel
theorem dL_law_1133 : decode cL_law 1133 = .ok (.iadd, 1) := by decide +kernel
theorem dL_law_1134 : decode cL_law 1134 = .ok (.iaload, 1) := by decide +kernel
theorem dL_law_1135 : decode cL_law 1135 = .ok (.aload_n 0, 1) := by decide +kernel
theorem dL_law_1136 : decode cL_law 1136 = .ok (.iload_n 3, 1) := by decide +kernel
theorem dL_law_1137 : decode cL_law 1137 = .ok (.iconst 2, 1) := by decide +kernel
theorem dL_law_1138 : decode cL_law 1138 = .ok (.iadd, 1) := by decide +kernel
theorem dL_law_1139 : decode cL_law 1139 = .ok (.iaload, 1) := by decide +kernel
theorem dL_law_1140 : decode cL_law 1140 = .ok (.aload_n 0, 1) := by decide +kernel
theorem dL_law_1141 : decode cL_law 1141 = .ok (.iload_n 3, 1) := by decide +kernel
theorem dL_law_1142 : decode cL_law 1142 = .ok (.iconst 3, 1) := by decide +kernel
theorem dL_law_1143 : decode cL_law 1143 = .ok (.iadd, 1) := by decide +kernel
theorem dL_law_1144 : decode cL_law 1144 = .ok (.iaload, 1) := by decide +kernel
theorem dL_law_1145 : decode cL_law 1145 = .ok (.invokevirtual 123, 3) := by decide +kernel
theorem dL_law_1148 : decode cL_law 1148 = .ok (.if_icmp .eq 426, 3) := by decide +kernel
theorem dL_law_1151 : decode cL_law 1151 = .ok (.iconst 0, 1) := by decide +kernel
theorem dL_law_1152 : decode cL_law 1152 = .ok (.ireturn, 1) := by decide +kernel
theorem dL_law_1153 : decode cL_law 1153 = .ok (.aload_n 1, 1) := by decide +kernel
theorem dL_law_1154 : decode cL_law 1154 = .ok (.aload_n 0, 1) := by decide +kernel
theorem dL_law_1155 : decode cL_law 1155 = .ok (.iload_n 3, 1) := by decide +kernel
theorem dL_law_1156 : decode cL_law 1156 = .ok (.iconst 1, 1) := by decide +kernel
theorem dL_law_1157 : decode cL_law 1157 = .ok (.iadd, 1) := by decide +kernel
theorem dL_law_1158 : decode cL_law 1158 = .ok (.iaload, 1) := by decide +kernel
theorem dL_law_1159 : decode cL_law 1159 = .ok (.invokevirtual 124, 3) := by decide +kernel
theorem dL_law_1162 : decode cL_law 1162 = .ok (.aload_n 2, 1) := by decide +kernel
theorem dL_law_1163 : decode cL_law 1163 = .ok (.aload_n 0, 1) := by decide +kernel
theorem dL_law_1164 : decode cL_law 1164 = .ok (.iload_n 3, 1) := by decide +kernel
theorem dL_law_1165 : decode cL_law 1165 = .ok (.iconst 1, 1) := by decide +kernel
theorem dL_law_1166 : decode cL_law 1166 = .ok (.iadd, 1) := by decide +kernel
theorem dL_law_1167 : decode cL_law 1167 = .ok (.iaload, 1) := by decide +kernel
theorem dL_law_1168 : decode cL_law 1168 = .ok (.invokevirtual 127, 3) := by decide +kernel
theorem dL_law_1171 : decode cL_law 1171 = .ok (.if_icmp .eq 403, 3) := by decide +kernel
theorem dL_law_1174 : decode cL_law 1174 = .ok (.iconst 0, 1) := by decide +kernel
theorem dL_law_1175 : decode cL_law 1175 = .ok (.ireturn, 1) := by decide +kernel
theorem dL_law_1176 : decode cL_law 1176 = .ok (.aload_n 1, 1) := by decide +kernel
theorem dL_law_1177 : decode cL_law 1177 = .ok (.aload_n 0, 1) := by decide +kernel
theorem dL_law_1178 : decode cL_law 1178 = .ok (.iload_n 3, 1) := by decide +kernel
theorem dL_law_1179 : decode cL_law 1179 = .ok (.iconst 1, 1) := by decide +kernel
theorem dL_law_1180 : decode cL_law 1180 = .ok (.iadd, 1) := by decide +kernel
theorem dL_law_1181 : decode cL_law 1181 = .ok (.iaload, 1) := by decide +kernel
theorem dL_law_1182 : decode cL_law 1182 = .ok (.aload_n 0, 1) := by decide +kernel
theorem dL_law_1183 : decode cL_law 1183 = .ok (.iload_n 3, 1) := by decide +kernel
theorem dL_law_1184 : decode cL_law 1184 = .ok (.iconst 2, 1) := by decide +kernel
theorem dL_law_1185 : decode cL_law 1185 = .ok (.iadd, 1) := by decide +kernel
theorem dL_law_1186 : decode cL_law 1186 = .ok (.iaload, 1) := by decide +kernel
theorem dL_law_1187 : decode cL_law 1187 = .ok (.aload_n 0, 1) := by decide +kernel
theorem dL_law_1188 : decode cL_law 1188 = .ok (.iload_n 3, 1) := by decide +kernel
theorem dL_law_1189 : decode cL_law 1189 = .ok (.iconst 3, 1) := by decide +kernel
theorem dL_law_1190 : decode cL_law 1190 = .ok (.iadd, 1) := by decide +kernel
theorem dL_law_1191 : decode cL_law 1191 = .ok (.iaload, 1) := by decide +kernel
theorem dL_law_1192 : decode cL_law 1192 = .ok (.invokevirtual 128, 3) := by decide +kernel
theorem dL_law_1195 : decode cL_law 1195 = .ok (.aload_n 2, 1) := by decide +kernel
theorem dL_law_1196 : decode cL_law 1196 = .ok (.aload_n 0, 1) := by decide +kernel
theorem dL_law_1197 : decode cL_law 1197 = .ok (.iload_n 3, 1) := by decide +kernel
theorem dL_law_1198 : decode cL_law 1198 = .ok (.iconst 1, 1) := by decide +kernel
theorem dL_law_1199 : decode cL_law 1199 = .ok (.iadd, 1) := by decide +kernel
theorem dL_law_1200 : decode cL_law 1200 = .ok (.iaload, 1) := by decide +kernel
theorem dL_law_1201 : decode cL_law 1201 = .ok (.aload_n 0, 1) := by decide +kernel
theorem dL_law_1202 : decode cL_law 1202 = .ok (.iload_n 3, 1) := by decide +kernel
theorem dL_law_1203 : decode cL_law 1203 = .ok (.iconst 2, 1) := by decide +kernel
theorem dL_law_1204 : decode cL_law 1204 = .ok (.iadd, 1) := by decide +kernel
theorem dL_law_1205 : decode cL_law 1205 = .ok (.iaload, 1) := by decide +kernel
theorem dL_law_1206 : decode cL_law 1206 = .ok (.aload_n 0, 1) := by decide +kernel
theorem dL_law_1207 : decode cL_law 1207 = .ok (.iload_n 3, 1) := by decide +kernel
theorem dL_law_1208 : decode cL_law 1208 = .ok (.iconst 3, 1) := by decide +kernel
theorem dL_law_1209 : decode cL_law 1209 = .ok (.iadd, 1) := by decide +kernel
theorem dL_law_1210 : decode cL_law 1210 = .ok (.iaload, 1) := by decide +kernel
theorem dL_law_1211 : decode cL_law 1211 = .ok (.invokevirtual 131, 3) := by decide +kernel
theorem dL_law_1214 : decode cL_law 1214 = .ok (.if_icmp .eq 360, 3) := by decide +kernel
theorem dL_law_1217 : decode cL_law 1217 = .ok (.iconst 0, 1) := by decide +kernel
theorem dL_law_1218 : decode cL_law 1218 = .ok (.ireturn, 1) := by decide +kernel
theorem dL_law_1219 : decode cL_law 1219 = .ok (.aload_n 1, 1) := by decide +kernel
theorem dL_law_1220 : decode cL_law 1220 = .ok (.aload_n 0, 1) := by decide +kernel
theorem dL_law_1221 : decode cL_law 1221 = .ok (.iload_n 3, 1) := by decide +kernel
theorem dL_law_1222 : decode cL_law 1222 = .ok (.iconst 1, 1) := by decide +kernel
theorem dL_law_1223 : decode cL_law 1223 = .ok (.iadd, 1) := by decide +kernel
theorem dL_law_1224 : decode cL_law 1224 = .ok (.iaload, 1) := by decide +kernel
theorem dL_law_1225 : decode cL_law 1225 = .ok (.aload_n 0, 1) := by decide +kernel
theorem dL_law_1226 : decode cL_law 1226 = .ok (.iload_n 3, 1) := by decide +kernel
theorem dL_law_1227 : decode cL_law 1227 = .ok (.iconst 2, 1) := by decide +kernel
theorem dL_law_1228 : decode cL_law 1228 = .ok (.iadd, 1) := by decide +kernel
theorem dL_law_1229 : decode cL_law 1229 = .ok (.iaload, 1) := by decide +kernel
theorem dL_law_1230 : decode cL_law 1230 = .ok (.invokevirtual 132, 3) := by decide +kernel
theorem dL_law_1233 : decode cL_law 1233 = .ok (.aload_n 2, 1) := by decide +kernel
theorem dL_law_1234 : decode cL_law 1234 = .ok (.aload_n 0, 1) := by decide +kernel
theorem dL_law_1235 : decode cL_law 1235 = .ok (.iload_n 3, 1) := by decide +kernel
theorem dL_law_1236 : decode cL_law 1236 = .ok (.iconst 1, 1) := by decide +kernel
theorem dL_law_1237 : decode cL_law 1237 = .ok (.iadd, 1) := by decide +kernel
theorem dL_law_1238 : decode cL_law 1238 = .ok (.iaload, 1) := by decide +kernel
theorem dL_law_1239 : decode cL_law 1239 = .ok (.aload_n 0, 1) := by decide +kernel
theorem dL_law_1240 : decode cL_law 1240 = .ok (.iload_n 3, 1) := by decide +kernel
theorem dL_law_1241 : decode cL_law 1241 = .ok (.iconst 2, 1) := by decide +kernel
theorem dL_law_1242 : decode cL_law 1242 = .ok (.iadd, 1) := by decide +kernel
theorem dL_law_1243 : decode cL_law 1243 = .ok (.iaload, 1) := by decide +kernel
theorem dL_law_1244 : decode cL_law 1244 = .ok (.invokevirtual 136, 3) := by decide +kernel
theorem dL_law_1247 : decode cL_law 1247 = .ok (.lcmp, 1) := by decide +kernel
theorem dL_law_1248 : decode cL_law 1248 = .ok (.ifCond .eq 326, 3) := by decide +kernel
theorem dL_law_1251 : decode cL_law 1251 = .ok (.iconst 0, 1) := by decide +kernel
theorem dL_law_1252 : decode cL_law 1252 = .ok (.ireturn, 1) := by decide +kernel
theorem dL_law_1253 : decode cL_law 1253 = .ok (.aload_n 1, 1) := by decide +kernel
theorem dL_law_1254 : decode cL_law 1254 = .ok (.aload_n 0, 1) := by decide +kernel
theorem dL_law_1255 : decode cL_law 1255 = .ok (.iload_n 3, 1) := by decide +kernel
theorem dL_law_1256 : decode cL_law 1256 = .ok (.iconst 1, 1) := by decide +kernel
theorem dL_law_1257 : decode cL_law 1257 = .ok (.iadd, 1) := by decide +kernel
theorem dL_law_1258 : decode cL_law 1258 = .ok (.iaload, 1) := by decide +kernel
theorem dL_law_1259 : decode cL_law 1259 = .ok (.aload_n 0, 1) := by decide +kernel
theorem dL_law_1260 : decode cL_law 1260 = .ok (.iload_n 3, 1) := by decide +kernel
theorem dL_law_1261 : decode cL_law 1261 = .ok (.iconst 2, 1) := by decide +kernel
theorem dL_law_1262 : decode cL_law 1262 = .ok (.iadd, 1) := by decide +kernel
theorem dL_law_1263 : decode cL_law 1263 = .ok (.iaload, 1) := by decide +kernel
theorem dL_law_1264 : decode cL_law 1264 = .ok (.invokevirtual 137, 3) := by decide +kernel
theorem dL_law_1267 : decode cL_law 1267 = .ok (.aload_n 2, 1) := by decide +kernel
theorem dL_law_1268 : decode cL_law 1268 = .ok (.aload_n 0, 1) := by decide +kernel
theorem dL_law_1269 : decode cL_law 1269 = .ok (.iload_n 3, 1) := by decide +kernel
theorem dL_law_1270 : decode cL_law 1270 = .ok (.iconst 1, 1) := by decide +kernel
theorem dL_law_1271 : decode cL_law 1271 = .ok (.iadd, 1) := by decide +kernel
theorem dL_law_1272 : decode cL_law 1272 = .ok (.iaload, 1) := by decide +kernel
theorem dL_law_1273 : decode cL_law 1273 = .ok (.aload_n 0, 1) := by decide +kernel
theorem dL_law_1274 : decode cL_law 1274 = .ok (.iload_n 3, 1) := by decide +kernel
theorem dL_law_1275 : decode cL_law 1275 = .ok (.iconst 2, 1) := by decide +kernel
theorem dL_law_1276 : decode cL_law 1276 = .ok (.iadd, 1) := by decide +kernel
theorem dL_law_1277 : decode cL_law 1277 = .ok (.iaload, 1) := by decide +kernel
theorem dL_law_1278 : decode cL_law 1278 = .ok (.invokevirtual 140, 3) := by decide +kernel
theorem dL_law_1281 : decode cL_law 1281 = .ok (.if_icmp .eq 293, 3) := by decide +kernel
theorem dL_law_1284 : decode cL_law 1284 = .ok (.iconst 0, 1) := by decide +kernel
theorem dL_law_1285 : decode cL_law 1285 = .ok (.ireturn, 1) := by decide +kernel
theorem dL_law_1286 : decode cL_law 1286 = .ok (.aload_n 1, 1) := by decide +kernel
theorem dL_law_1287 : decode cL_law 1287 = .ok (.aload_n 0, 1) := by decide +kernel
theorem dL_law_1288 : decode cL_law 1288 = .ok (.iload_n 3, 1) := by decide +kernel
theorem dL_law_1289 : decode cL_law 1289 = .ok (.iconst 1, 1) := by decide +kernel
theorem dL_law_1290 : decode cL_law 1290 = .ok (.iadd, 1) := by decide +kernel
theorem dL_law_1291 : decode cL_law 1291 = .ok (.iaload, 1) := by decide +kernel
theorem dL_law_1292 : decode cL_law 1292 = .ok (.aload_n 0, 1) := by decide +kernel
theorem dL_law_1293 : decode cL_law 1293 = .ok (.iload_n 3, 1) := by decide +kernel
theorem dL_law_1294 : decode cL_law 1294 = .ok (.iconst 2, 1) := by decide +kernel
theorem dL_law_1295 : decode cL_law 1295 = .ok (.iadd, 1) := by decide +kernel
theorem dL_law_1296 : decode cL_law 1296 = .ok (.iaload, 1) := by decide +kernel
theorem dL_law_1297 : decode cL_law 1297 = .ok (.invokevirtual 141, 3) := by decide +kernel
theorem dL_law_1300 : decode cL_law 1300 = .ok (.aload_n 2, 1) := by decide +kernel
theorem dL_law_1301 : decode cL_law 1301 = .ok (.aload_n 0, 1) := by decide +kernel
theorem dL_law_1302 : decode cL_law 1302 = .ok (.iload_n 3, 1) := by decide +kernel
theorem dL_law_1303 : decode cL_law 1303 = .ok (.iconst 1, 1) := by decide +kernel
theorem dL_law_1304 : decode cL_law 1304 = .ok (.iadd, 1) := by decide +kernel
theorem dL_law_1305 : decode cL_law 1305 = .ok (.iaload, 1) := by decide +kernel
theorem dL_law_1306 : decode cL_law 1306 = .ok (.aload_n 0, 1) := by decide +kernel
theorem dL_law_1307 : decode cL_law 1307 = .ok (.iload_n 3, 1) := by decide +kernel
theorem dL_law_1308 : decode cL_law 1308 = .ok (.iconst 2, 1) := by decide +kernel
theorem dL_law_1309 : decode cL_law 1309 = .ok (.iadd, 1) := by decide +kernel
theorem dL_law_1310 : decode cL_law 1310 = .ok (.iaload, 1) := by decide +kernel
theorem dL_law_1311 : decode cL_law 1311 = .ok (.invokevirtual 144, 3) := by decide +kernel
theorem dL_law_1314 : decode cL_law 1314 = .ok (.if_icmp .eq 260, 3) := by decide +kernel
theorem dL_law_1317 : decode cL_law 1317 = .ok (.iconst 0, 1) := by decide +kernel
theorem dL_law_1318 : decode cL_law 1318 = .ok (.ireturn, 1) := by decide +kernel
theorem dL_law_1319 : decode cL_law 1319 = .ok (.aload_n 1, 1) := by decide +kernel
theorem dL_law_1320 : decode cL_law 1320 = .ok (.aload_n 0, 1) := by decide +kernel
theorem dL_law_1321 : decode cL_law 1321 = .ok (.iload_n 3, 1) := by decide +kernel
theorem dL_law_1322 : decode cL_law 1322 = .ok (.iconst 1, 1) := by decide +kernel
theorem dL_law_1323 : decode cL_law 1323 = .ok (.iadd, 1) := by decide +kernel
theorem dL_law_1324 : decode cL_law 1324 = .ok (.iaload, 1) := by decide +kernel
theorem dL_law_1325 : decode cL_law 1325 = .ok (.aload_n 0, 1) := by decide +kernel
theorem dL_law_1326 : decode cL_law 1326 = .ok (.iload_n 3, 1) := by decide +kernel
theorem dL_law_1327 : decode cL_law 1327 = .ok (.iconst 2, 1) := by decide +kernel
theorem dL_law_1328 : decode cL_law 1328 = .ok (.iadd, 1) := by decide +kernel
theorem dL_law_1329 : decode cL_law 1329 = .ok (.iaload, 1) := by decide +kernel
theorem dL_law_1330 : decode cL_law 1330 = .ok (.invokevirtual 145, 3) := by decide +kernel
theorem dL_law_1333 : decode cL_law 1333 = .ok (.aload_n 2, 1) := by decide +kernel
theorem dL_law_1334 : decode cL_law 1334 = .ok (.aload_n 0, 1) := by decide +kernel
theorem dL_law_1335 : decode cL_law 1335 = .ok (.iload_n 3, 1) := by decide +kernel
theorem dL_law_1336 : decode cL_law 1336 = .ok (.iconst 1, 1) := by decide +kernel
theorem dL_law_1337 : decode cL_law 1337 = .ok (.iadd, 1) := by decide +kernel
theorem dL_law_1338 : decode cL_law 1338 = .ok (.iaload, 1) := by decide +kernel
theorem dL_law_1339 : decode cL_law 1339 = .ok (.aload_n 0, 1) := by decide +kernel
theorem dL_law_1340 : decode cL_law 1340 = .ok (.iload_n 3, 1) := by decide +kernel
theorem dL_law_1341 : decode cL_law 1341 = .ok (.iconst 2, 1) := by decide +kernel
theorem dL_law_1342 : decode cL_law 1342 = .ok (.iadd, 1) := by decide +kernel
theorem dL_law_1343 : decode cL_law 1343 = .ok (.iaload, 1) := by decide +kernel
theorem dL_law_1344 : decode cL_law 1344 = .ok (.invokevirtual 148, 3) := by decide +kernel
theorem dL_law_1347 : decode cL_law 1347 = .ok (.if_icmp .eq 227, 3) := by decide +kernel
theorem dL_law_1350 : decode cL_law 1350 = .ok (.iconst 0, 1) := by decide +kernel
theorem dL_law_1351 : decode cL_law 1351 = .ok (.ireturn, 1) := by decide +kernel
theorem dL_law_1352 : decode cL_law 1352 = .ok (.aload_n 1, 1) := by decide +kernel
theorem dL_law_1353 : decode cL_law 1353 = .ok (.aload_n 0, 1) := by decide +kernel
theorem dL_law_1354 : decode cL_law 1354 = .ok (.iload_n 3, 1) := by decide +kernel
theorem dL_law_1355 : decode cL_law 1355 = .ok (.iconst 1, 1) := by decide +kernel
theorem dL_law_1356 : decode cL_law 1356 = .ok (.iadd, 1) := by decide +kernel
theorem dL_law_1357 : decode cL_law 1357 = .ok (.iaload, 1) := by decide +kernel
theorem dL_law_1358 : decode cL_law 1358 = .ok (.invokevirtual 149, 3) := by decide +kernel
theorem dL_law_1361 : decode cL_law 1361 = .ok (.aload_n 2, 1) := by decide +kernel
theorem dL_law_1362 : decode cL_law 1362 = .ok (.aload_n 0, 1) := by decide +kernel
theorem dL_law_1363 : decode cL_law 1363 = .ok (.iload_n 3, 1) := by decide +kernel
theorem dL_law_1364 : decode cL_law 1364 = .ok (.iconst 1, 1) := by decide +kernel
theorem dL_law_1365 : decode cL_law 1365 = .ok (.iadd, 1) := by decide +kernel
theorem dL_law_1366 : decode cL_law 1366 = .ok (.iaload, 1) := by decide +kernel
theorem dL_law_1367 : decode cL_law 1367 = .ok (.invokevirtual 152, 3) := by decide +kernel
theorem dL_law_1370 : decode cL_law 1370 = .ok (.if_icmp .eq 204, 3) := by decide +kernel
theorem dL_law_1373 : decode cL_law 1373 = .ok (.iconst 0, 1) := by decide +kernel
theorem dL_law_1374 : decode cL_law 1374 = .ok (.ireturn, 1) := by decide +kernel
theorem dL_law_1375 : decode cL_law 1375 = .ok (.aload_n 1, 1) := by decide +kernel
theorem dL_law_1376 : decode cL_law 1376 = .ok (.aload_n 0, 1) := by decide +kernel
theorem dL_law_1377 : decode cL_law 1377 = .ok (.iload_n 3, 1) := by decide +kernel
theorem dL_law_1378 : decode cL_law 1378 = .ok (.iconst 1, 1) := by decide +kernel
theorem dL_law_1379 : decode cL_law 1379 = .ok (.iadd, 1) := by decide +kernel
theorem dL_law_1380 : decode cL_law 1380 = .ok (.iaload, 1) := by decide +kernel
theorem dL_law_1381 : decode cL_law 1381 = .ok (.aload_n 0, 1) := by decide +kernel
theorem dL_law_1382 : decode cL_law 1382 = .ok (.iload_n 3, 1) := by decide +kernel
theorem dL_law_1383 : decode cL_law 1383 = .ok (.iconst 2, 1) := by decide +kernel
theorem dL_law_1384 : decode cL_law 1384 = .ok (.iadd, 1) := by decide +kernel
theorem dL_law_1385 : decode cL_law 1385 = .ok (.iaload, 1) := by decide +kernel
theorem dL_law_1386 : decode cL_law 1386 = .ok (.invokevirtual 153, 3) := by decide +kernel
theorem dL_law_1389 : decode cL_law 1389 = .ok (.aload_n 2, 1) := by decide +kernel
theorem dL_law_1390 : decode cL_law 1390 = .ok (.aload_n 0, 1) := by decide +kernel
theorem dL_law_1391 : decode cL_law 1391 = .ok (.iload_n 3, 1) := by decide +kernel
theorem dL_law_1392 : decode cL_law 1392 = .ok (.iconst 1, 1) := by decide +kernel
theorem dL_law_1393 : decode cL_law 1393 = .ok (.iadd, 1) := by decide +kernel
theorem dL_law_1394 : decode cL_law 1394 = .ok (.iaload, 1) := by decide +kernel
theorem dL_law_1395 : decode cL_law 1395 = .ok (.aload_n 0, 1) := by decide +kernel
theorem dL_law_1396 : decode cL_law 1396 = .ok (.iload_n 3, 1) := by decide +kernel
theorem dL_law_1397 : decode cL_law 1397 = .ok (.iconst 2, 1) := by decide +kernel
theorem dL_law_1398 : decode cL_law 1398 = .ok (.iadd, 1) := by decide +kernel
theorem dL_law_1399 : decode cL_law 1399 = .ok (.iaload, 1) := by decide +kernel
theorem dL_law_1400 : decode cL_law 1400 = .ok (.invokevirtual 156, 3) := by decide +kernel
theorem dL_law_1403 : decode cL_law 1403 = .ok (.if_icmp .eq 171, 3) := by decide +kernel
theorem dL_law_1406 : decode cL_law 1406 = .ok (.iconst 0, 1) := by decide +kernel
theorem dL_law_1407 : decode cL_law 1407 = .ok (.ireturn, 1) := by decide +kernel
theorem dL_law_1408 : decode cL_law 1408 = .ok (.aload_n 1, 1) := by decide +kernel
theorem dL_law_1409 : decode cL_law 1409 = .ok (.aload_n 0, 1) := by decide +kernel
theorem dL_law_1410 : decode cL_law 1410 = .ok (.iload_n 3, 1) := by decide +kernel
theorem dL_law_1411 : decode cL_law 1411 = .ok (.iconst 1, 1) := by decide +kernel
theorem dL_law_1412 : decode cL_law 1412 = .ok (.iadd, 1) := by decide +kernel
theorem dL_law_1413 : decode cL_law 1413 = .ok (.iaload, 1) := by decide +kernel
theorem dL_law_1414 : decode cL_law 1414 = .ok (.aload_n 0, 1) := by decide +kernel
theorem dL_law_1415 : decode cL_law 1415 = .ok (.iload_n 3, 1) := by decide +kernel
theorem dL_law_1416 : decode cL_law 1416 = .ok (.iconst 2, 1) := by decide +kernel
theorem dL_law_1417 : decode cL_law 1417 = .ok (.iadd, 1) := by decide +kernel
theorem dL_law_1418 : decode cL_law 1418 = .ok (.iaload, 1) := by decide +kernel
theorem dL_law_1419 : decode cL_law 1419 = .ok (.invokevirtual 157, 3) := by decide +kernel
theorem dL_law_1422 : decode cL_law 1422 = .ok (.aload_n 2, 1) := by decide +kernel
theorem dL_law_1423 : decode cL_law 1423 = .ok (.aload_n 0, 1) := by decide +kernel
theorem dL_law_1424 : decode cL_law 1424 = .ok (.iload_n 3, 1) := by decide +kernel
theorem dL_law_1425 : decode cL_law 1425 = .ok (.iconst 1, 1) := by decide +kernel
theorem dL_law_1426 : decode cL_law 1426 = .ok (.iadd, 1) := by decide +kernel
theorem dL_law_1427 : decode cL_law 1427 = .ok (.iaload, 1) := by decide +kernel
theorem dL_law_1428 : decode cL_law 1428 = .ok (.aload_n 0, 1) := by decide +kernel
theorem dL_law_1429 : decode cL_law 1429 = .ok (.iload_n 3, 1) := by decide +kernel
theorem dL_law_1430 : decode cL_law 1430 = .ok (.iconst 2, 1) := by decide +kernel
theorem dL_law_1431 : decode cL_law 1431 = .ok (.iadd, 1) := by decide +kernel
theorem dL_law_1432 : decode cL_law 1432 = .ok (.iaload, 1) := by decide +kernel
theorem dL_law_1433 : decode cL_law 1433 = .ok (.invokevirtual 160, 3) := by decide +kernel
theorem dL_law_1436 : decode cL_law 1436 = .ok (.if_icmp .eq 138, 3) := by decide +kernel
theorem dL_law_1439 : decode cL_law 1439 = .ok (.iconst 0, 1) := by decide +kernel
theorem dL_law_1440 : decode cL_law 1440 = .ok (.ireturn, 1) := by decide +kernel
theorem dL_law_1441 : decode cL_law 1441 = .ok (.aload_n 1, 1) := by decide +kernel
theorem dL_law_1442 : decode cL_law 1442 = .ok (.aload_n 0, 1) := by decide +kernel
theorem dL_law_1443 : decode cL_law 1443 = .ok (.iload_n 3, 1) := by decide +kernel
theorem dL_law_1444 : decode cL_law 1444 = .ok (.iconst 1, 1) := by decide +kernel
theorem dL_law_1445 : decode cL_law 1445 = .ok (.iadd, 1) := by decide +kernel
theorem dL_law_1446 : decode cL_law 1446 = .ok (.iaload, 1) := by decide +kernel
theorem dL_law_1447 : decode cL_law 1447 = .ok (.aload_n 0, 1) := by decide +kernel
theorem dL_law_1448 : decode cL_law 1448 = .ok (.iload_n 3, 1) := by decide +kernel
theorem dL_law_1449 : decode cL_law 1449 = .ok (.iconst 2, 1) := by decide +kernel
theorem dL_law_1450 : decode cL_law 1450 = .ok (.iadd, 1) := by decide +kernel
theorem dL_law_1451 : decode cL_law 1451 = .ok (.iaload, 1) := by decide +kernel
theorem dL_law_1452 : decode cL_law 1452 = .ok (.aload_n 0, 1) := by decide +kernel
theorem dL_law_1453 : decode cL_law 1453 = .ok (.iload_n 3, 1) := by decide +kernel
theorem dL_law_1454 : decode cL_law 1454 = .ok (.iconst 3, 1) := by decide +kernel
theorem dL_law_1455 : decode cL_law 1455 = .ok (.iadd, 1) := by decide +kernel
theorem dL_law_1456 : decode cL_law 1456 = .ok (.iaload, 1) := by decide +kernel
theorem dL_law_1457 : decode cL_law 1457 = .ok (.invokevirtual 161, 3) := by decide +kernel
theorem dL_law_1460 : decode cL_law 1460 = .ok (.aload_n 2, 1) := by decide +kernel
theorem dL_law_1461 : decode cL_law 1461 = .ok (.aload_n 0, 1) := by decide +kernel
theorem dL_law_1462 : decode cL_law 1462 = .ok (.iload_n 3, 1) := by decide +kernel
theorem dL_law_1463 : decode cL_law 1463 = .ok (.iconst 1, 1) := by decide +kernel
theorem dL_law_1464 : decode cL_law 1464 = .ok (.iadd, 1) := by decide +kernel
theorem dL_law_1465 : decode cL_law 1465 = .ok (.iaload, 1) := by decide +kernel
theorem dL_law_1466 : decode cL_law 1466 = .ok (.aload_n 0, 1) := by decide +kernel
theorem dL_law_1467 : decode cL_law 1467 = .ok (.iload_n 3, 1) := by decide +kernel
theorem dL_law_1468 : decode cL_law 1468 = .ok (.iconst 2, 1) := by decide +kernel
theorem dL_law_1469 : decode cL_law 1469 = .ok (.iadd, 1) := by decide +kernel
theorem dL_law_1470 : decode cL_law 1470 = .ok (.iaload, 1) := by decide +kernel
theorem dL_law_1471 : decode cL_law 1471 = .ok (.aload_n 0, 1) := by decide +kernel
theorem dL_law_1472 : decode cL_law 1472 = .ok (.iload_n 3, 1) := by decide +kernel
theorem dL_law_1473 : decode cL_law 1473 = .ok (.iconst 3, 1) := by decide +kernel
theorem dL_law_1474 : decode cL_law 1474 = .ok (.iadd, 1) := by decide +kernel
theorem dL_law_1475 : decode cL_law 1475 = .ok (.iaload, 1) := by decide +kernel
theorem dL_law_1476 : decode cL_law 1476 = .ok (.invokevirtual 164, 3) := by decide +kernel
theorem dL_law_1479 : decode cL_law 1479 = .ok (.if_icmp .eq 95, 3) := by decide +kernel
theorem dL_law_1482 : decode cL_law 1482 = .ok (.iconst 0, 1) := by decide +kernel
theorem dL_law_1483 : decode cL_law 1483 = .ok (.ireturn, 1) := by decide +kernel
theorem dL_law_1484 : decode cL_law 1484 = .ok (.aload_n 1, 1) := by decide +kernel
theorem dL_law_1485 : decode cL_law 1485 = .ok (.aload_n 0, 1) := by decide +kernel
theorem dL_law_1486 : decode cL_law 1486 = .ok (.iload_n 3, 1) := by decide +kernel
theorem dL_law_1487 : decode cL_law 1487 = .ok (.iconst 1, 1) := by decide +kernel
theorem dL_law_1488 : decode cL_law 1488 = .ok (.iadd, 1) := by decide +kernel
theorem dL_law_1489 : decode cL_law 1489 = .ok (.iaload, 1) := by decide +kernel
theorem dL_law_1490 : decode cL_law 1490 = .ok (.invokevirtual 165, 3) := by decide +kernel
theorem dL_law_1493 : decode cL_law 1493 = .ok (.aload_n 2, 1) := by decide +kernel
theorem dL_law_1494 : decode cL_law 1494 = .ok (.aload_n 0, 1) := by decide +kernel
theorem dL_law_1495 : decode cL_law 1495 = .ok (.iload_n 3, 1) := by decide +kernel
theorem dL_law_1496 : decode cL_law 1496 = .ok (.iconst 1, 1) := by decide +kernel
theorem dL_law_1497 : decode cL_law 1497 = .ok (.iadd, 1) := by decide +kernel
theorem dL_law_1498 : decode cL_law 1498 = .ok (.iaload, 1) := by decide +kernel
theorem dL_law_1499 : decode cL_law 1499 = .ok (.invokevirtual 169, 3) := by decide +kernel
theorem dL_law_1502 : decode cL_law 1502 = .ok (.lcmp, 1) := by decide +kernel
theorem dL_law_1503 : decode cL_law 1503 = .ok (.ifCond .eq 71, 3) := by decide +kernel
theorem dL_law_1506 : decode cL_law 1506 = .ok (.iconst 0, 1) := by decide +kernel
theorem dL_law_1507 : decode cL_law 1507 = .ok (.ireturn, 1) := by decide +kernel
theorem dL_law_1508 : decode cL_law 1508 = .ok (.aload_n 1, 1) := by decide +kernel
theorem dL_law_1509 : decode cL_law 1509 = .ok (.aload_n 0, 1) := by decide +kernel
theorem dL_law_1510 : decode cL_law 1510 = .ok (.iload_n 3, 1) := by decide +kernel
theorem dL_law_1511 : decode cL_law 1511 = .ok (.iconst 1, 1) := by decide +kernel
theorem dL_law_1512 : decode cL_law 1512 = .ok (.iadd, 1) := by decide +kernel
theorem dL_law_1513 : decode cL_law 1513 = .ok (.iaload, 1) := by decide +kernel
theorem dL_law_1514 : decode cL_law 1514 = .ok (.aload_n 0, 1) := by decide +kernel
theorem dL_law_1515 : decode cL_law 1515 = .ok (.iload_n 3, 1) := by decide +kernel
theorem dL_law_1516 : decode cL_law 1516 = .ok (.iconst 2, 1) := by decide +kernel
theorem dL_law_1517 : decode cL_law 1517 = .ok (.iadd, 1) := by decide +kernel
theorem dL_law_1518 : decode cL_law 1518 = .ok (.iaload, 1) := by decide +kernel
theorem dL_law_1519 : decode cL_law 1519 = .ok (.aload_n 0, 1) := by decide +kernel
theorem dL_law_1520 : decode cL_law 1520 = .ok (.iload_n 3, 1) := by decide +kernel
theorem dL_law_1521 : decode cL_law 1521 = .ok (.iconst 3, 1) := by decide +kernel
theorem dL_law_1522 : decode cL_law 1522 = .ok (.iadd, 1) := by decide +kernel
theorem dL_law_1523 : decode cL_law 1523 = .ok (.iaload, 1) := by decide +kernel
theorem dL_law_1524 : decode cL_law 1524 = .ok (.invokevirtual 170, 3) := by decide +kernel
theorem dL_law_1527 : decode cL_law 1527 = .ok (.aload_n 2, 1) := by decide +kernel
theorem dL_law_1528 : decode cL_law 1528 = .ok (.aload_n 0, 1) := by decide +kernel
theorem dL_law_1529 : decode cL_law 1529 = .ok (.iload_n 3, 1) := by decide +kernel
theorem dL_law_1530 : decode cL_law 1530 = .ok (.iconst 1, 1) := by decide +kernel
theorem dL_law_1531 : decode cL_law 1531 = .ok (.iadd, 1) := by decide +kernel
theorem dL_law_1532 : decode cL_law 1532 = .ok (.iaload, 1) := by decide +kernel
theorem dL_law_1533 : decode cL_law 1533 = .ok (.aload_n 0, 1) := by decide +kernel
theorem dL_law_1534 : decode cL_law 1534 = .ok (.iload_n 3, 1) := by decide +kernel
theorem dL_law_1535 : decode cL_law 1535 = .ok (.iconst 2, 1) := by decide +kernel
theorem dL_law_1536 : decode cL_law 1536 = .ok (.iadd, 1) := by decide +kernel
theorem dL_law_1537 : decode cL_law 1537 = .ok (.iaload, 1) := by decide +kernel
theorem dL_law_1538 : decode cL_law 1538 = .ok (.aload_n 0, 1) := by decide +kernel
theorem dL_law_1539 : decode cL_law 1539 = .ok (.iload_n 3, 1) := by decide +kernel
theorem dL_law_1540 : decode cL_law 1540 = .ok (.iconst 3, 1) := by decide +kernel
theorem dL_law_1541 : decode cL_law 1541 = .ok (.iadd, 1) := by decide +kernel
theorem dL_law_1542 : decode cL_law 1542 = .ok (.iaload, 1) := by decide +kernel
theorem dL_law_1543 : decode cL_law 1543 = .ok (.invokevirtual 173, 3) := by decide +kernel
theorem dL_law_1546 : decode cL_law 1546 = .ok (.if_icmp .eq 28, 3) := by decide +kernel
theorem dL_law_1549 : decode cL_law 1549 = .ok (.iconst 0, 1) := by decide +kernel
theorem dL_law_1550 : decode cL_law 1550 = .ok (.ireturn, 1) := by decide +kernel
theorem dL_law_1551 : decode cL_law 1551 = .ok (.aload_n 1, 1) := by decide +kernel
theorem dL_law_1552 : decode cL_law 1552 = .ok (.aload_n 0, 1) := by decide +kernel
theorem dL_law_1553 : decode cL_law 1553 = .ok (.iload_n 3, 1) := by decide +kernel
theorem dL_law_1554 : decode cL_law 1554 = .ok (.iconst 1, 1) := by decide +kernel
theorem dL_law_1555 : decode cL_law 1555 = .ok (.iadd, 1) := by decide +kernel
theorem dL_law_1556 : decode cL_law 1556 = .ok (.iaload, 1) := by decide +kernel
theorem dL_law_1557 : decode cL_law 1557 = .ok (.invokevirtual 174, 3) := by decide +kernel
theorem dL_law_1560 : decode cL_law 1560 = .ok (.aload_n 2, 1) := by decide +kernel
theorem dL_law_1561 : decode cL_law 1561 = .ok (.aload_n 0, 1) := by decide +kernel
theorem dL_law_1562 : decode cL_law 1562 = .ok (.iload_n 3, 1) := by decide +kernel
theorem dL_law_1563 : decode cL_law 1563 = .ok (.iconst 1, 1) := by decide +kernel
theorem dL_law_1564 : decode cL_law 1564 = .ok (.iadd, 1) := by decide +kernel
theorem dL_law_1565 : decode cL_law 1565 = .ok (.iaload, 1) := by decide +kernel
theorem dL_law_1566 : decode cL_law 1566 = .ok (.invokevirtual 177, 3) := by decide +kernel
theorem dL_law_1569 : decode cL_law 1569 = .ok (.if_icmp .eq 5, 3) := by decide +kernel
theorem dL_law_1572 : decode cL_law 1572 = .ok (.iconst 0, 1) := by decide +kernel
theorem dL_law_1573 : decode cL_law 1573 = .ok (.ireturn, 1) := by decide +kernel
theorem dL_law_1574 : decode cL_law 1574 = .ok (.iinc 3 7, 3) := by decide +kernel
theorem dL_law_1577 : decode cL_law 1577 = .ok (.goto (-1559), 3) := by decide +kernel
theorem dL_law_1580 : decode cL_law 1580 = .ok (.iconst 1, 1) := by decide +kernel
theorem dL_law_1581 : decode cL_law 1581 = .ok (.ireturn, 1) := by decide +kernel
set_option maxRecDepth 100000 in
set_option maxHeartbeats 0 in
theorem bL_law_0 {d : Nat} {h0 hE h : ea_H} {rv : Option ea_V}  (H : ∀ h1, h1 = ea_new h 11 0 16 → ∃ (d3 : Nat) (h4 : ea_H), ea_Met mX11_init d3 [vR (some (ea_n h))] h1 none h4 ∧ d3 + 1 ≤ d ∧ ∀ h7, h7 = ea_new h4 12 0 118 → ∃ (d9 : Nat) (h10 : ea_H), ea_Met mX12_init d9 [vR (some (ea_n h4))] h7 none h10 ∧ d9 + 1 ≤ d ∧ ea_W mL_law d h0 rv hE 18 [(0, vO 0), (1, vR (some (ea_n h))), (2, vR (some (ea_n h4))), (3, vI 0)] [] h10) : ea_W mL_law d h0 rv hE 0 [(0, vO 0)] [] h := by
  refine ea_newO (pc := 0) dL_law_0 ec_11 ew_128 ew_129 ew_108 ?_
  obtain ⟨h1, E2⟩ : ∃ z, z = ea_new h 11 0 16 := ⟨_, rfl⟩
  have H := H h1 E2
  refine ea_nm E2 ?_
  refine ea_dup (pc := 3) dL_law_3 rfl ?_
  obtain ⟨d3, h4, m5, q6, H⟩ := H
  refine ea_callI (pc := 4) (As := []) (st := [vR (some (ea_n h))]) dL_law_4 kX11_init m5 q6 rfl (Nat.le_of_ble_eq_true rfl) ew_130 ew_131 rfl rfl ?_
  refine ea_astore_n (pc := 7) (lv' := [(0, vO 0), (1, vR (some (ea_n h)))]) dL_law_7 rfl (Nat.le_of_ble_eq_true rfl) [1, 0] rfl ?_
  refine ea_newO (pc := 8) dL_law_8 ec_12 ew_1338 ew_1339 ew_120 ?_
  obtain ⟨h7, E8⟩ : ∃ z, z = ea_new h4 12 0 118 := ⟨_, rfl⟩
  have H := H h7 E8
  refine ea_nm E8 ?_
  refine ea_dup (pc := 11) dL_law_11 rfl ?_
  obtain ⟨d9, h10, m11, q12, H⟩ := H
  refine ea_callI (pc := 12) (As := []) (st := [vR (some (ea_n h4))]) dL_law_12 kX12_init m11 q12 rfl (Nat.le_of_ble_eq_true rfl) ew_1340 ew_1341 rfl rfl ?_
  refine ea_astore_n (pc := 15) (lv' := [(0, vO 0), (1, vR (some (ea_n h))), (2, vR (some (ea_n h4)))]) dL_law_15 rfl (Nat.le_of_ble_eq_true rfl) [1, 2, 0] rfl ?_
  refine ea_iconst (pc := 16) dL_law_16 (v := 0) rfl ?_
  refine ea_istore_n (pc := 17) (lv' := [(0, vO 0), (1, vR (some (ea_n h))), (2, vR (some (ea_n h4))), (3, vI 0)]) dL_law_17 rfl (Nat.le_of_ble_eq_true rfl) [1, 2, 3, 0] rfl ?_
  exact H
set_option maxRecDepth 100000 in
set_option maxHeartbeats 0 in
theorem bL_law_18 {d : Nat} {h0 hE h : ea_H} {rv : Option ea_V} {r1 : Option Nat} {r2 : Option Nat} {x3 : Int32} (H : (((Int32.ofNat (ea_q h).1) - (7 : Int32)) < x3 → rv = some (vI 1) ∧ hE = h) ∧ (¬ ((Int32.ofNat (ea_q h).1) - (7 : Int32)) < x3 → vp_in x3 (ea_q h).1 ∧ (Int32.toInt (((ea_q h).2 (Int32.toNatClampNeg x3)) &&& (63 : Int32)) = 0 → ∃ a8, r1 = some a8 ∧ a8 < ea_n h ∧ ea_c h a8 = 11 ∧ ∃ (d2 : Nat) (xc10 : Int32) (h3 : ea_H), ea_Met mX11_town d2 [vR (some a8)] h (some (vI xc10)) h3 ∧ d2 + 1 ≤ d ∧ ∃ a17, r2 = some a17 ∧ a17 < ea_n h3 ∧ ea_c h3 a17 = 12 ∧ ∃ (d11 : Nat) (xc19 : Int32) (h12 : ea_H), ea_Met mX12_town d11 [vR (some a17)] h3 (some (vI xc19)) h12 ∧ d11 + 1 ≤ d ∧ (xc10 = xc19 → ea_W mL_law d h0 rv hE 18 [(0, vO 0), (1, vR r1), (2, vR r2), (3, vI (x3 + 7))] [] h12) ∧ (¬ xc10 = xc19 → rv = some (vI 0) ∧ hE = h12)) ∧ (Int32.toInt (((ea_q h).2 (Int32.toNatClampNeg x3)) &&& (63 : Int32)) = 1 → vp_in (x3 + (1 : Int32)) (ea_q h).1 ∧ vp_in (x3 + (2 : Int32)) (ea_q h).1 ∧ vp_in (x3 + (3 : Int32)) (ea_q h).1 ∧ ∃ a30, r1 = some a30 ∧ a30 < ea_n h ∧ ea_c h a30 = 11 ∧ ∃ (d24 : Nat) (xc32 : Int32) (h25 : ea_H), ea_Met mX11_road d24 [vR (some a30), vI ((ea_q h).2 (Int32.toNatClampNeg (x3 + (1 : Int32)))), vI ((ea_q h).2 (Int32.toNatClampNeg (x3 + (2 : Int32)))), vI ((ea_q h).2 (Int32.toNatClampNeg (x3 + (3 : Int32))))] h (some (vI xc32)) h25 ∧ d24 + 1 ≤ d ∧ vp_in (x3 + (1 : Int32)) (ea_q h25).1 ∧ vp_in (x3 + (2 : Int32)) (ea_q h25).1 ∧ vp_in (x3 + (3 : Int32)) (ea_q h25).1 ∧ ∃ a42, r2 = some a42 ∧ a42 < ea_n h25 ∧ ea_c h25 a42 = 12 ∧ ∃ (d36 : Nat) (xc44 : Int32) (h37 : ea_H), ea_Met mX12_road d36 [vR (some a42), vI ((ea_q h25).2 (Int32.toNatClampNeg (x3 + (1 : Int32)))), vI ((ea_q h25).2 (Int32.toNatClampNeg (x3 + (2 : Int32)))), vI ((ea_q h25).2 (Int32.toNatClampNeg (x3 + (3 : Int32))))] h25 (some (vI xc44)) h37 ∧ d36 + 1 ≤ d ∧ (xc32 = xc44 → ea_W mL_law d h0 rv hE 18 [(0, vO 0), (1, vR r1), (2, vR r2), (3, vI (x3 + 7))] [] h37) ∧ (¬ xc32 = xc44 → rv = some (vI 0) ∧ hE = h37)) ∧ (Int32.toInt (((ea_q h).2 (Int32.toNatClampNeg x3)) &&& (63 : Int32)) = 2 → vp_in (x3 + (1 : Int32)) (ea_q h).1 ∧ vp_in (x3 + (2 : Int32)) (ea_q h).1 ∧ ∃ a54, r1 = some a54 ∧ a54 < ea_n h ∧ ea_c h a54 = 11 ∧ ∃ (d48 : Nat) (xc56 : Int32) (h49 : ea_H), ea_Met mX11_miles d48 [vR (some a54), vI ((ea_q h).2 (Int32.toNatClampNeg (x3 + (1 : Int32)))), vI ((ea_q h).2 (Int32.toNatClampNeg (x3 + (2 : Int32))))] h (some (vI xc56)) h49 ∧ d48 + 1 ≤ d ∧ vp_in (x3 + (1 : Int32)) (ea_q h49).1 ∧ vp_in (x3 + (2 : Int32)) (ea_q h49).1 ∧ ∃ a65, r2 = some a65 ∧ a65 < ea_n h49 ∧ ea_c h49 a65 = 12 ∧ ∃ (d59 : Nat) (xc67 : Int32) (h60 : ea_H), ea_Met mX12_miles d59 [vR (some a65), vI ((ea_q h49).2 (Int32.toNatClampNeg (x3 + (1 : Int32)))), vI ((ea_q h49).2 (Int32.toNatClampNeg (x3 + (2 : Int32))))] h49 (some (vI xc67)) h60 ∧ d59 + 1 ≤ d ∧ (xc56 = xc67 → ea_W mL_law d h0 rv hE 18 [(0, vO 0), (1, vR r1), (2, vR r2), (3, vI (x3 + 7))] [] h60) ∧ (¬ xc56 = xc67 → rv = some (vI 0) ∧ hE = h60)) ∧ (Int32.toInt (((ea_q h).2 (Int32.toNatClampNeg x3)) &&& (63 : Int32)) = 3 → ∃ a75, r1 = some a75 ∧ a75 < ea_n h ∧ ea_c h a75 = 11 ∧ ∃ (d69 : Nat) (xc77 : Int32) (h70 : ea_H), ea_Met mX11_train d69 [vR (some a75)] h (some (vI xc77)) h70 ∧ d69 + 1 ≤ d ∧ ∃ a84, r2 = some a84 ∧ a84 < ea_n h70 ∧ ea_c h70 a84 = 12 ∧ ∃ (d78 : Nat) (xc86 : Int32) (h79 : ea_H), ea_Met mX12_train d78 [vR (some a84)] h70 (some (vI xc86)) h79 ∧ d78 + 1 ≤ d ∧ (xc77 = xc86 → ea_W mL_law d h0 rv hE 18 [(0, vO 0), (1, vR r1), (2, vR r2), (3, vI (x3 + 7))] [] h79) ∧ (¬ xc77 = xc86 → rv = some (vI 0) ∧ hE = h79)) ∧ (Int32.toInt (((ea_q h).2 (Int32.toNatClampNeg x3)) &&& (63 : Int32)) = 4 → vp_in (x3 + (1 : Int32)) (ea_q h).1 ∧ vp_in (x3 + (2 : Int32)) (ea_q h).1 ∧ vp_in (x3 + (3 : Int32)) (ea_q h).1 ∧ vp_in (x3 + (4 : Int32)) (ea_q h).1 ∧ vp_in (x3 + (5 : Int32)) (ea_q h).1 ∧ (((ea_q h).2 (Int32.toNatClampNeg (x3 + (5 : Int32)))) = (0 : Int32) → ea_W mL_law d h0 rv hE 336 [(0, vO 0), (1, vR r1), (2, vR r2), (3, vI x3)] [vI 0, vI ((ea_q h).2 (Int32.toNatClampNeg (x3 + (4 : Int32)))), vI ((ea_q h).2 (Int32.toNatClampNeg (x3 + (3 : Int32)))), vI ((ea_q h).2 (Int32.toNatClampNeg (x3 + (2 : Int32)))), vI ((ea_q h).2 (Int32.toNatClampNeg (x3 + (1 : Int32)))), vR r1] h) ∧ (¬ ((ea_q h).2 (Int32.toNatClampNeg (x3 + (5 : Int32)))) = (0 : Int32) → ea_W mL_law d h0 rv hE 336 [(0, vO 0), (1, vR r1), (2, vR r2), (3, vI x3)] [vI 1, vI ((ea_q h).2 (Int32.toNatClampNeg (x3 + (4 : Int32)))), vI ((ea_q h).2 (Int32.toNatClampNeg (x3 + (3 : Int32)))), vI ((ea_q h).2 (Int32.toNatClampNeg (x3 + (2 : Int32)))), vI ((ea_q h).2 (Int32.toNatClampNeg (x3 + (1 : Int32)))), vR r1] h)) ∧ (Int32.toInt (((ea_q h).2 (Int32.toNatClampNeg x3)) &&& (63 : Int32)) = 5 → vp_in (x3 + (1 : Int32)) (ea_q h).1 ∧ vp_in (x3 + (2 : Int32)) (ea_q h).1 ∧ vp_in (x3 + (3 : Int32)) (ea_q h).1 ∧ ∃ a103, r1 = some a103 ∧ a103 < ea_n h ∧ ea_c h a103 = 11 ∧ ∃ (d97 : Nat) (xc105 : Int32) (h98 : ea_H), ea_Met mX11_stopOf d97 [vR (some a103), vI ((ea_q h).2 (Int32.toNatClampNeg (x3 + (1 : Int32)))), vI ((ea_q h).2 (Int32.toNatClampNeg (x3 + (2 : Int32)))), vI ((ea_q h).2 (Int32.toNatClampNeg (x3 + (3 : Int32))))] h (some (vI xc105)) h98 ∧ d97 + 1 ≤ d ∧ vp_in (x3 + (1 : Int32)) (ea_q h98).1 ∧ vp_in (x3 + (2 : Int32)) (ea_q h98).1 ∧ vp_in (x3 + (3 : Int32)) (ea_q h98).1 ∧ ∃ a115, r2 = some a115 ∧ a115 < ea_n h98 ∧ ea_c h98 a115 = 12 ∧ ∃ (d109 : Nat) (xc117 : Int32) (h110 : ea_H), ea_Met mX12_stopOf d109 [vR (some a115), vI ((ea_q h98).2 (Int32.toNatClampNeg (x3 + (1 : Int32)))), vI ((ea_q h98).2 (Int32.toNatClampNeg (x3 + (2 : Int32)))), vI ((ea_q h98).2 (Int32.toNatClampNeg (x3 + (3 : Int32))))] h98 (some (vI xc117)) h110 ∧ d109 + 1 ≤ d ∧ (xc105 = xc117 → ea_W mL_law d h0 rv hE 18 [(0, vO 0), (1, vR r1), (2, vR r2), (3, vI (x3 + 7))] [] h110) ∧ (¬ xc105 = xc117 → rv = some (vI 0) ∧ hE = h110)) ∧ (Int32.toInt (((ea_q h).2 (Int32.toNatClampNeg x3)) &&& (63 : Int32)) = 6 → vp_in (x3 + (1 : Int32)) (ea_q h).1 ∧ vp_in (x3 + (2 : Int32)) (ea_q h).1 ∧ vp_in (x3 + (3 : Int32)) (ea_q h).1 ∧ ∃ a128, r1 = some a128 ∧ a128 < ea_n h ∧ ea_c h a128 = 11 ∧ ∃ (d122 : Nat) (xc130 : Int32) (h123 : ea_H), ea_Met mX11_late d122 [vR (some a128), vI ((ea_q h).2 (Int32.toNatClampNeg (x3 + (1 : Int32)))), vI ((ea_q h).2 (Int32.toNatClampNeg (x3 + (2 : Int32)))), vI ((ea_q h).2 (Int32.toNatClampNeg (x3 + (3 : Int32))))] h (some (vI xc130)) h123 ∧ d122 + 1 ≤ d ∧ vp_in (x3 + (1 : Int32)) (ea_q h123).1 ∧ vp_in (x3 + (2 : Int32)) (ea_q h123).1 ∧ vp_in (x3 + (3 : Int32)) (ea_q h123).1 ∧ ∃ a140, r2 = some a140 ∧ a140 < ea_n h123 ∧ ea_c h123 a140 = 12 ∧ ∃ (d134 : Nat) (xc142 : Int32) (h135 : ea_H), ea_Met mX12_late d134 [vR (some a140), vI ((ea_q h123).2 (Int32.toNatClampNeg (x3 + (1 : Int32)))), vI ((ea_q h123).2 (Int32.toNatClampNeg (x3 + (2 : Int32)))), vI ((ea_q h123).2 (Int32.toNatClampNeg (x3 + (3 : Int32))))] h123 (some (vI xc142)) h135 ∧ d134 + 1 ≤ d ∧ (xc130 = xc142 → ea_W mL_law d h0 rv hE 18 [(0, vO 0), (1, vR r1), (2, vR r2), (3, vI (x3 + 7))] [] h135) ∧ (¬ xc130 = xc142 → rv = some (vI 0) ∧ hE = h135)) ∧ (Int32.toInt (((ea_q h).2 (Int32.toNatClampNeg x3)) &&& (63 : Int32)) = 7 → vp_in (x3 + (1 : Int32)) (ea_q h).1 ∧ vp_in (x3 + (2 : Int32)) (ea_q h).1 ∧ vp_in (x3 + (3 : Int32)) (ea_q h).1 ∧ ∃ a153, r1 = some a153 ∧ a153 < ea_n h ∧ ea_c h a153 = 11 ∧ ∃ (d147 : Nat) (xc155 : Int32) (h148 : ea_H), ea_Met mX11_miss d147 [vR (some a153), vI ((ea_q h).2 (Int32.toNatClampNeg (x3 + (1 : Int32)))), vI ((ea_q h).2 (Int32.toNatClampNeg (x3 + (2 : Int32)))), vI ((ea_q h).2 (Int32.toNatClampNeg (x3 + (3 : Int32))))] h (some (vI xc155)) h148 ∧ d147 + 1 ≤ d ∧ vp_in (x3 + (1 : Int32)) (ea_q h148).1 ∧ vp_in (x3 + (2 : Int32)) (ea_q h148).1 ∧ vp_in (x3 + (3 : Int32)) (ea_q h148).1 ∧ ∃ a165, r2 = some a165 ∧ a165 < ea_n h148 ∧ ea_c h148 a165 = 12 ∧ ∃ (d159 : Nat) (xc167 : Int32) (h160 : ea_H), ea_Met mX12_miss d159 [vR (some a165), vI ((ea_q h148).2 (Int32.toNatClampNeg (x3 + (1 : Int32)))), vI ((ea_q h148).2 (Int32.toNatClampNeg (x3 + (2 : Int32)))), vI ((ea_q h148).2 (Int32.toNatClampNeg (x3 + (3 : Int32))))] h148 (some (vI xc167)) h160 ∧ d159 + 1 ≤ d ∧ (xc155 = xc167 → ea_W mL_law d h0 rv hE 18 [(0, vO 0), (1, vR r1), (2, vR r2), (3, vI (x3 + 7))] [] h160) ∧ (¬ xc155 = xc167 → rv = some (vI 0) ∧ hE = h160)) ∧ (Int32.toInt (((ea_q h).2 (Int32.toNatClampNeg x3)) &&& (63 : Int32)) = 8 → vp_in (x3 + (1 : Int32)) (ea_q h).1 ∧ ∃ a176, r1 = some a176 ∧ a176 < ea_n h ∧ ea_c h a176 = 11 ∧ ∃ (d170 : Nat) (xc178 : Int32) (h171 : ea_H), ea_Met mX11_minutes d170 [vR (some a176), vI ((ea_q h).2 (Int32.toNatClampNeg (x3 + (1 : Int32))))] h (some (vI xc178)) h171 ∧ d170 + 1 ≤ d ∧ vp_in (x3 + (1 : Int32)) (ea_q h171).1 ∧ ∃ a186, r2 = some a186 ∧ a186 < ea_n h171 ∧ ea_c h171 a186 = 12 ∧ ∃ (d180 : Nat) (xc188 : Int32) (h181 : ea_H), ea_Met mX12_minutes d180 [vR (some a186), vI ((ea_q h171).2 (Int32.toNatClampNeg (x3 + (1 : Int32))))] h171 (some (vI xc188)) h181 ∧ d180 + 1 ≤ d ∧ (xc178 = xc188 → ea_W mL_law d h0 rv hE 18 [(0, vO 0), (1, vR r1), (2, vR r2), (3, vI (x3 + 7))] [] h181) ∧ (¬ xc178 = xc188 → rv = some (vI 0) ∧ hE = h181)) ∧ (Int32.toInt (((ea_q h).2 (Int32.toNatClampNeg x3)) &&& (63 : Int32)) = 9 → vp_in (x3 + (1 : Int32)) (ea_q h).1 ∧ ∃ a197, r1 = some a197 ∧ a197 < ea_n h ∧ ea_c h a197 = 11 ∧ ∃ (d191 : Nat) (xc199 : Int32) (h192 : ea_H), ea_Met mX11_look d191 [vR (some a197), vI ((ea_q h).2 (Int32.toNatClampNeg (x3 + (1 : Int32))))] h (some (vI xc199)) h192 ∧ d191 + 1 ≤ d ∧ vp_in (x3 + (1 : Int32)) (ea_q h192).1 ∧ ∃ a207, r2 = some a207 ∧ a207 < ea_n h192 ∧ ea_c h192 a207 = 12 ∧ ∃ (d201 : Nat) (xc209 : Int32) (h202 : ea_H), ea_Met mX12_look d201 [vR (some a207), vI ((ea_q h192).2 (Int32.toNatClampNeg (x3 + (1 : Int32))))] h192 (some (vI xc209)) h202 ∧ d201 + 1 ≤ d ∧ (xc199 = xc209 → ea_W mL_law d h0 rv hE 18 [(0, vO 0), (1, vR r1), (2, vR r2), (3, vI (x3 + 7))] [] h202) ∧ (¬ xc199 = xc209 → rv = some (vI 0) ∧ hE = h202)) ∧ (Int32.toInt (((ea_q h).2 (Int32.toNatClampNeg x3)) &&& (63 : Int32)) = 10 → vp_in (x3 + (1 : Int32)) (ea_q h).1 ∧ vp_in (x3 + (2 : Int32)) (ea_q h).1 ∧ vp_in (x3 + (3 : Int32)) (ea_q h).1 ∧ vp_in (x3 + (4 : Int32)) (ea_q h).1 ∧ vp_in (x3 + (5 : Int32)) (ea_q h).1 ∧ ∃ a222, r1 = some a222 ∧ a222 < ea_n h ∧ ea_c h a222 = 11 ∧ ∃ (d216 : Nat) (xc224 : Int32) (h217 : ea_H), ea_Met mX11_feed d216 [vR (some a222), vI ((ea_q h).2 (Int32.toNatClampNeg (x3 + (1 : Int32)))), vI ((ea_q h).2 (Int32.toNatClampNeg (x3 + (2 : Int32)))), vI ((ea_q h).2 (Int32.toNatClampNeg (x3 + (3 : Int32)))), vI ((ea_q h).2 (Int32.toNatClampNeg (x3 + (4 : Int32)))), vI ((ea_q h).2 (Int32.toNatClampNeg (x3 + (5 : Int32))))] h (some (vI xc224)) h217 ∧ d216 + 1 ≤ d ∧ vp_in (x3 + (1 : Int32)) (ea_q h217).1 ∧ vp_in (x3 + (2 : Int32)) (ea_q h217).1 ∧ vp_in (x3 + (3 : Int32)) (ea_q h217).1 ∧ vp_in (x3 + (4 : Int32)) (ea_q h217).1 ∧ vp_in (x3 + (5 : Int32)) (ea_q h217).1 ∧ ∃ a236, r2 = some a236 ∧ a236 < ea_n h217 ∧ ea_c h217 a236 = 12 ∧ ∃ (d230 : Nat) (xc238 : Int32) (h231 : ea_H), ea_Met mX12_feed d230 [vR (some a236), vI ((ea_q h217).2 (Int32.toNatClampNeg (x3 + (1 : Int32)))), vI ((ea_q h217).2 (Int32.toNatClampNeg (x3 + (2 : Int32)))), vI ((ea_q h217).2 (Int32.toNatClampNeg (x3 + (3 : Int32)))), vI ((ea_q h217).2 (Int32.toNatClampNeg (x3 + (4 : Int32)))), vI ((ea_q h217).2 (Int32.toNatClampNeg (x3 + (5 : Int32))))] h217 (some (vI xc238)) h231 ∧ d230 + 1 ≤ d ∧ (xc224 = xc238 → ea_W mL_law d h0 rv hE 18 [(0, vO 0), (1, vR r1), (2, vR r2), (3, vI (x3 + 7))] [] h231) ∧ (¬ xc224 = xc238 → rv = some (vI 0) ∧ hE = h231)) ∧ (Int32.toInt (((ea_q h).2 (Int32.toNatClampNeg x3)) &&& (63 : Int32)) = 11 → vp_in (x3 + (1 : Int32)) (ea_q h).1 ∧ ∃ a247, r1 = some a247 ∧ a247 < ea_n h ∧ ea_c h a247 = 11 ∧ ∃ (d241 : Nat) (xc249 : Int32) (h242 : ea_H), ea_Met mX11_end d241 [vR (some a247), vI ((ea_q h).2 (Int32.toNatClampNeg (x3 + (1 : Int32))))] h (some (vI xc249)) h242 ∧ d241 + 1 ≤ d ∧ vp_in (x3 + (1 : Int32)) (ea_q h242).1 ∧ ∃ a257, r2 = some a257 ∧ a257 < ea_n h242 ∧ ea_c h242 a257 = 12 ∧ ∃ (d251 : Nat) (xc259 : Int32) (h252 : ea_H), ea_Met mX12_end d251 [vR (some a257), vI ((ea_q h242).2 (Int32.toNatClampNeg (x3 + (1 : Int32))))] h242 (some (vI xc259)) h252 ∧ d251 + 1 ≤ d ∧ (xc249 = xc259 → ea_W mL_law d h0 rv hE 18 [(0, vO 0), (1, vR r1), (2, vR r2), (3, vI (x3 + 7))] [] h252) ∧ (¬ xc249 = xc259 → rv = some (vI 0) ∧ hE = h252)) ∧ (Int32.toInt (((ea_q h).2 (Int32.toNatClampNeg x3)) &&& (63 : Int32)) = 12 → vp_in (x3 + (1 : Int32)) (ea_q h).1 ∧ ∃ a268, r1 = some a268 ∧ a268 < ea_n h ∧ ea_c h a268 = 11 ∧ ∃ (d262 : Nat) (xc270 : Int32) (h263 : ea_H), ea_Met mX11_act d262 [vR (some a268), vI ((ea_q h).2 (Int32.toNatClampNeg (x3 + (1 : Int32))))] h (some (vI xc270)) h263 ∧ d262 + 1 ≤ d ∧ vp_in (x3 + (1 : Int32)) (ea_q h263).1 ∧ ∃ a278, r2 = some a278 ∧ a278 < ea_n h263 ∧ ea_c h263 a278 = 12 ∧ ∃ (d272 : Nat) (xc280 : Int32) (h273 : ea_H), ea_Met mX12_act d272 [vR (some a278), vI ((ea_q h263).2 (Int32.toNatClampNeg (x3 + (1 : Int32))))] h263 (some (vI xc280)) h273 ∧ d272 + 1 ≤ d ∧ (xc270 = xc280 → ea_W mL_law d h0 rv hE 18 [(0, vO 0), (1, vR r1), (2, vR r2), (3, vI (x3 + 7))] [] h273) ∧ (¬ xc270 = xc280 → rv = some (vI 0) ∧ hE = h273)) ∧ (Int32.toInt (((ea_q h).2 (Int32.toNatClampNeg x3)) &&& (63 : Int32)) = 13 → vp_in (x3 + (1 : Int32)) (ea_q h).1 ∧ ∃ a289, r1 = some a289 ∧ a289 < ea_n h ∧ ea_c h a289 = 11 ∧ ∃ (d283 : Nat) (xc291 : Int32) (h284 : ea_H), ea_Met mX11_fault d283 [vR (some a289), vI ((ea_q h).2 (Int32.toNatClampNeg (x3 + (1 : Int32))))] h (some (vI xc291)) h284 ∧ d283 + 1 ≤ d ∧ vp_in (x3 + (1 : Int32)) (ea_q h284).1 ∧ ∃ a299, r2 = some a299 ∧ a299 < ea_n h284 ∧ ea_c h284 a299 = 12 ∧ ∃ (d293 : Nat) (xc301 : Int32) (h294 : ea_H), ea_Met mX12_fault d293 [vR (some a299), vI ((ea_q h284).2 (Int32.toNatClampNeg (x3 + (1 : Int32))))] h284 (some (vI xc301)) h294 ∧ d293 + 1 ≤ d ∧ (xc291 = xc301 → ea_W mL_law d h0 rv hE 18 [(0, vO 0), (1, vR r1), (2, vR r2), (3, vI (x3 + 7))] [] h294) ∧ (¬ xc291 = xc301 → rv = some (vI 0) ∧ hE = h294)) ∧ (Int32.toInt (((ea_q h).2 (Int32.toNatClampNeg x3)) &&& (63 : Int32)) = 14 → vp_in (x3 + (1 : Int32)) (ea_q h).1 ∧ vp_in (x3 + (2 : Int32)) (ea_q h).1 ∧ ∃ a311, r1 = some a311 ∧ a311 < ea_n h ∧ ea_c h a311 = 11 ∧ ∃ (d305 : Nat) (xc313 : Int32) (h306 : ea_H), ea_Met mX11_inForce d305 [vR (some a311), vI ((ea_q h).2 (Int32.toNatClampNeg (x3 + (1 : Int32)))), vI ((ea_q h).2 (Int32.toNatClampNeg (x3 + (2 : Int32))))] h (some (vI xc313)) h306 ∧ d305 + 1 ≤ d ∧ vp_in (x3 + (1 : Int32)) (ea_q h306).1 ∧ vp_in (x3 + (2 : Int32)) (ea_q h306).1 ∧ ∃ a322, r2 = some a322 ∧ a322 < ea_n h306 ∧ ea_c h306 a322 = 12 ∧ ∃ (d316 : Nat) (xc324 : Int32) (h317 : ea_H), ea_Met mX12_inForce d316 [vR (some a322), vI ((ea_q h306).2 (Int32.toNatClampNeg (x3 + (1 : Int32)))), vI ((ea_q h306).2 (Int32.toNatClampNeg (x3 + (2 : Int32))))] h306 (some (vI xc324)) h317 ∧ d316 + 1 ≤ d ∧ (xc313 = xc324 → ea_W mL_law d h0 rv hE 18 [(0, vO 0), (1, vR r1), (2, vR r2), (3, vI (x3 + 7))] [] h317) ∧ (¬ xc313 = xc324 → rv = some (vI 0) ∧ hE = h317)) ∧ (Int32.toInt (((ea_q h).2 (Int32.toNatClampNeg x3)) &&& (63 : Int32)) = 15 → vp_in (x3 + (1 : Int32)) (ea_q h).1 ∧ vp_in (x3 + (2 : Int32)) (ea_q h).1 ∧ vp_in (x3 + (3 : Int32)) (ea_q h).1 ∧ vp_in (x3 + (4 : Int32)) (ea_q h).1 ∧ vp_in (x3 + (5 : Int32)) (ea_q h).1 ∧ vp_in (x3 + (6 : Int32)) (ea_q h).1 ∧ ∃ a338, r1 = some a338 ∧ a338 < ea_n h ∧ ea_c h a338 = 11 ∧ ∃ (d332 : Nat) (xc340 : Int32) (h333 : ea_H), ea_Met mX11_post d332 [vR (some a338), vI ((ea_q h).2 (Int32.toNatClampNeg (x3 + (1 : Int32)))), vI ((ea_q h).2 (Int32.toNatClampNeg (x3 + (2 : Int32)))), vI ((ea_q h).2 (Int32.toNatClampNeg (x3 + (3 : Int32)))), vI ((ea_q h).2 (Int32.toNatClampNeg (x3 + (4 : Int32)))), vI ((ea_q h).2 (Int32.toNatClampNeg (x3 + (5 : Int32)))), vI ((ea_q h).2 (Int32.toNatClampNeg (x3 + (6 : Int32))))] h (some (vI xc340)) h333 ∧ d332 + 1 ≤ d ∧ vp_in (x3 + (1 : Int32)) (ea_q h333).1 ∧ vp_in (x3 + (2 : Int32)) (ea_q h333).1 ∧ vp_in (x3 + (3 : Int32)) (ea_q h333).1 ∧ vp_in (x3 + (4 : Int32)) (ea_q h333).1 ∧ vp_in (x3 + (5 : Int32)) (ea_q h333).1 ∧ vp_in (x3 + (6 : Int32)) (ea_q h333).1 ∧ ∃ a353, r2 = some a353 ∧ a353 < ea_n h333 ∧ ea_c h333 a353 = 12 ∧ ∃ (d347 : Nat) (xc355 : Int32) (h348 : ea_H), ea_Met mX12_post d347 [vR (some a353), vI ((ea_q h333).2 (Int32.toNatClampNeg (x3 + (1 : Int32)))), vI ((ea_q h333).2 (Int32.toNatClampNeg (x3 + (2 : Int32)))), vI ((ea_q h333).2 (Int32.toNatClampNeg (x3 + (3 : Int32)))), vI ((ea_q h333).2 (Int32.toNatClampNeg (x3 + (4 : Int32)))), vI ((ea_q h333).2 (Int32.toNatClampNeg (x3 + (5 : Int32)))), vI ((ea_q h333).2 (Int32.toNatClampNeg (x3 + (6 : Int32))))] h333 (some (vI xc355)) h348 ∧ d347 + 1 ≤ d ∧ (xc340 = xc355 → ea_W mL_law d h0 rv hE 18 [(0, vO 0), (1, vR r1), (2, vR r2), (3, vI (x3 + 7))] [] h348) ∧ (¬ xc340 = xc355 → rv = some (vI 0) ∧ hE = h348)) ∧ (Int32.toInt (((ea_q h).2 (Int32.toNatClampNeg x3)) &&& (63 : Int32)) = 16 → vp_in (x3 + (1 : Int32)) (ea_q h).1 ∧ vp_in (x3 + (2 : Int32)) (ea_q h).1 ∧ ∃ a365, r1 = some a365 ∧ a365 < ea_n h ∧ ea_c h a365 = 11 ∧ ∃ (d359 : Nat) (xc367 : Int32) (h360 : ea_H), ea_Met mX11_of d359 [vR (some a365), vI ((ea_q h).2 (Int32.toNatClampNeg (x3 + (1 : Int32)))), vI ((ea_q h).2 (Int32.toNatClampNeg (x3 + (2 : Int32))))] h (some (vI xc367)) h360 ∧ d359 + 1 ≤ d ∧ vp_in (x3 + (1 : Int32)) (ea_q h360).1 ∧ vp_in (x3 + (2 : Int32)) (ea_q h360).1 ∧ ∃ a376, r2 = some a376 ∧ a376 < ea_n h360 ∧ ea_c h360 a376 = 12 ∧ ∃ (d370 : Nat) (xc378 : Int32) (h371 : ea_H), ea_Met mX12_of d370 [vR (some a376), vI ((ea_q h360).2 (Int32.toNatClampNeg (x3 + (1 : Int32)))), vI ((ea_q h360).2 (Int32.toNatClampNeg (x3 + (2 : Int32))))] h360 (some (vI xc378)) h371 ∧ d370 + 1 ≤ d ∧ (xc367 = xc378 → ea_W mL_law d h0 rv hE 18 [(0, vO 0), (1, vR r1), (2, vR r2), (3, vI (x3 + 7))] [] h371) ∧ (¬ xc367 = xc378 → rv = some (vI 0) ∧ hE = h371)) ∧ (Int32.toInt (((ea_q h).2 (Int32.toNatClampNeg x3)) &&& (63 : Int32)) = 17 → vp_in (x3 + (1 : Int32)) (ea_q h).1 ∧ vp_in (x3 + (2 : Int32)) (ea_q h).1 ∧ ∃ a388, r1 = some a388 ∧ a388 < ea_n h ∧ ea_c h a388 = 11 ∧ ∃ (d382 : Nat) (xc390 : Int32) (h383 : ea_H), ea_Met mX11_charge d382 [vR (some a388), vI ((ea_q h).2 (Int32.toNatClampNeg (x3 + (1 : Int32)))), vI ((ea_q h).2 (Int32.toNatClampNeg (x3 + (2 : Int32))))] h (some (vI xc390)) h383 ∧ d382 + 1 ≤ d ∧ vp_in (x3 + (1 : Int32)) (ea_q h383).1 ∧ vp_in (x3 + (2 : Int32)) (ea_q h383).1 ∧ ∃ a399, r2 = some a399 ∧ a399 < ea_n h383 ∧ ea_c h383 a399 = 12 ∧ ∃ (d393 : Nat) (xc401 : Int32) (h394 : ea_H), ea_Met mX12_charge d393 [vR (some a399), vI ((ea_q h383).2 (Int32.toNatClampNeg (x3 + (1 : Int32)))), vI ((ea_q h383).2 (Int32.toNatClampNeg (x3 + (2 : Int32))))] h383 (some (vI xc401)) h394 ∧ d393 + 1 ≤ d ∧ (xc390 = xc401 → ea_W mL_law d h0 rv hE 18 [(0, vO 0), (1, vR r1), (2, vR r2), (3, vI (x3 + 7))] [] h394) ∧ (¬ xc390 = xc401 → rv = some (vI 0) ∧ hE = h394)) ∧ (Int32.toInt (((ea_q h).2 (Int32.toNatClampNeg x3)) &&& (63 : Int32)) = 18 → vp_in (x3 + (1 : Int32)) (ea_q h).1 ∧ vp_in (x3 + (2 : Int32)) (ea_q h).1 ∧ vp_in (x3 + (3 : Int32)) (ea_q h).1 ∧ vp_in (x3 + (4 : Int32)) (ea_q h).1 ∧ ∃ a413, r1 = some a413 ∧ a413 < ea_n h ∧ ea_c h a413 = 11 ∧ ∃ (d407 : Nat) (xc415 : Int32) (h408 : ea_H), ea_Met mX11_way d407 [vR (some a413), vI ((ea_q h).2 (Int32.toNatClampNeg (x3 + (1 : Int32)))), vI ((ea_q h).2 (Int32.toNatClampNeg (x3 + (2 : Int32)))), vI ((ea_q h).2 (Int32.toNatClampNeg (x3 + (3 : Int32)))), vI ((ea_q h).2 (Int32.toNatClampNeg (x3 + (4 : Int32))))] h (some (vI xc415)) h408 ∧ d407 + 1 ≤ d ∧ vp_in (x3 + (1 : Int32)) (ea_q h408).1 ∧ vp_in (x3 + (2 : Int32)) (ea_q h408).1 ∧ vp_in (x3 + (3 : Int32)) (ea_q h408).1 ∧ vp_in (x3 + (4 : Int32)) (ea_q h408).1 ∧ ∃ a426, r2 = some a426 ∧ a426 < ea_n h408 ∧ ea_c h408 a426 = 12 ∧ ∃ (d420 : Nat) (xc428 : Int32) (h421 : ea_H), ea_Met mX12_way d420 [vR (some a426), vI ((ea_q h408).2 (Int32.toNatClampNeg (x3 + (1 : Int32)))), vI ((ea_q h408).2 (Int32.toNatClampNeg (x3 + (2 : Int32)))), vI ((ea_q h408).2 (Int32.toNatClampNeg (x3 + (3 : Int32)))), vI ((ea_q h408).2 (Int32.toNatClampNeg (x3 + (4 : Int32))))] h408 (some (vI xc428)) h421 ∧ d420 + 1 ≤ d ∧ (xc415 = xc428 → ea_W mL_law d h0 rv hE 18 [(0, vO 0), (1, vR r1), (2, vR r2), (3, vI (x3 + 7))] [] h421) ∧ (¬ xc415 = xc428 → rv = some (vI 0) ∧ hE = h421)) ∧ (Int32.toInt (((ea_q h).2 (Int32.toNatClampNeg x3)) &&& (63 : Int32)) = 19 → vp_in (x3 + (1 : Int32)) (ea_q h).1 ∧ vp_in (x3 + (2 : Int32)) (ea_q h).1 ∧ vp_in (x3 + (3 : Int32)) (ea_q h).1 ∧ ∃ a439, r1 = some a439 ∧ a439 < ea_n h ∧ ea_c h a439 = 11 ∧ ∃ (d433 : Nat) (xc441 : Int32) (h434 : ea_H), ea_Met mX11_lead d433 [vR (some a439), vI ((ea_q h).2 (Int32.toNatClampNeg (x3 + (1 : Int32)))), vI ((ea_q h).2 (Int32.toNatClampNeg (x3 + (2 : Int32)))), vI ((ea_q h).2 (Int32.toNatClampNeg (x3 + (3 : Int32))))] h (some (vI xc441)) h434 ∧ d433 + 1 ≤ d ∧ vp_in (x3 + (1 : Int32)) (ea_q h434).1 ∧ vp_in (x3 + (2 : Int32)) (ea_q h434).1 ∧ vp_in (x3 + (3 : Int32)) (ea_q h434).1 ∧ ∃ a451, r2 = some a451 ∧ a451 < ea_n h434 ∧ ea_c h434 a451 = 12 ∧ ∃ (d445 : Nat) (xc453 : Int32) (h446 : ea_H), ea_Met mX12_lead d445 [vR (some a451), vI ((ea_q h434).2 (Int32.toNatClampNeg (x3 + (1 : Int32)))), vI ((ea_q h434).2 (Int32.toNatClampNeg (x3 + (2 : Int32)))), vI ((ea_q h434).2 (Int32.toNatClampNeg (x3 + (3 : Int32))))] h434 (some (vI xc453)) h446 ∧ d445 + 1 ≤ d ∧ (xc441 = xc453 → ea_W mL_law d h0 rv hE 18 [(0, vO 0), (1, vR r1), (2, vR r2), (3, vI (x3 + 7))] [] h446) ∧ (¬ xc441 = xc453 → rv = some (vI 0) ∧ hE = h446)) ∧ (Int32.toInt (((ea_q h).2 (Int32.toNatClampNeg x3)) &&& (63 : Int32)) = 20 → vp_in (x3 + (1 : Int32)) (ea_q h).1 ∧ vp_in (x3 + (2 : Int32)) (ea_q h).1 ∧ vp_in (x3 + (3 : Int32)) (ea_q h).1 ∧ ∃ a464, r1 = some a464 ∧ a464 < ea_n h ∧ ea_c h a464 = 11 ∧ ∃ (d458 : Nat) (xc466 : Int32) (h459 : ea_H), ea_Met mX11_where d458 [vR (some a464), vI ((ea_q h).2 (Int32.toNatClampNeg (x3 + (1 : Int32)))), vI ((ea_q h).2 (Int32.toNatClampNeg (x3 + (2 : Int32)))), vI ((ea_q h).2 (Int32.toNatClampNeg (x3 + (3 : Int32))))] h (some (vI xc466)) h459 ∧ d458 + 1 ≤ d ∧ vp_in (x3 + (1 : Int32)) (ea_q h459).1 ∧ vp_in (x3 + (2 : Int32)) (ea_q h459).1 ∧ vp_in (x3 + (3 : Int32)) (ea_q h459).1 ∧ ∃ a476, r2 = some a476 ∧ a476 < ea_n h459 ∧ ea_c h459 a476 = 12 ∧ ∃ (d470 : Nat) (xc478 : Int32) (h471 : ea_H), ea_Met mX12_where d470 [vR (some a476), vI ((ea_q h459).2 (Int32.toNatClampNeg (x3 + (1 : Int32)))), vI ((ea_q h459).2 (Int32.toNatClampNeg (x3 + (2 : Int32)))), vI ((ea_q h459).2 (Int32.toNatClampNeg (x3 + (3 : Int32))))] h459 (some (vI xc478)) h471 ∧ d470 + 1 ≤ d ∧ (xc466 = xc478 → ea_W mL_law d h0 rv hE 18 [(0, vO 0), (1, vR r1), (2, vR r2), (3, vI (x3 + 7))] [] h471) ∧ (¬ xc466 = xc478 → rv = some (vI 0) ∧ hE = h471)) ∧ (Int32.toInt (((ea_q h).2 (Int32.toNatClampNeg x3)) &&& (63 : Int32)) = 21 → vp_in (x3 + (1 : Int32)) (ea_q h).1 ∧ vp_in (x3 + (2 : Int32)) (ea_q h).1 ∧ ∃ a488, r1 = some a488 ∧ a488 < ea_n h ∧ ea_c h a488 = 11 ∧ ∃ (d482 : Nat) (xc490 : Int32) (h483 : ea_H), ea_Met mX11_sorter d482 [vR (some a488), vI ((ea_q h).2 (Int32.toNatClampNeg (x3 + (1 : Int32)))), vI ((ea_q h).2 (Int32.toNatClampNeg (x3 + (2 : Int32))))] h (some (vI xc490)) h483 ∧ d482 + 1 ≤ d ∧ vp_in (x3 + (1 : Int32)) (ea_q h483).1 ∧ vp_in (x3 + (2 : Int32)) (ea_q h483).1 ∧ ∃ a499, r2 = some a499 ∧ a499 < ea_n h483 ∧ ea_c h483 a499 = 12 ∧ ∃ (d493 : Nat) (xc501 : Int32) (h494 : ea_H), ea_Met mX12_sorter d493 [vR (some a499), vI ((ea_q h483).2 (Int32.toNatClampNeg (x3 + (1 : Int32)))), vI ((ea_q h483).2 (Int32.toNatClampNeg (x3 + (2 : Int32))))] h483 (some (vI xc501)) h494 ∧ d493 + 1 ≤ d ∧ (xc490 = xc501 → ea_W mL_law d h0 rv hE 18 [(0, vO 0), (1, vR r1), (2, vR r2), (3, vI (x3 + 7))] [] h494) ∧ (¬ xc490 = xc501 → rv = some (vI 0) ∧ hE = h494)) ∧ (Int32.toInt (((ea_q h).2 (Int32.toNatClampNeg x3)) &&& (63 : Int32)) = 22 → vp_in (x3 + (1 : Int32)) (ea_q h).1 ∧ vp_in (x3 + (2 : Int32)) (ea_q h).1 ∧ ∃ a511, r1 = some a511 ∧ a511 < ea_n h ∧ ea_c h a511 = 11 ∧ ∃ (d505 : Nat) (xc513 : Int32) (h506 : ea_H), ea_Met mX11_seat d505 [vR (some a511), vI ((ea_q h).2 (Int32.toNatClampNeg (x3 + (1 : Int32)))), vI ((ea_q h).2 (Int32.toNatClampNeg (x3 + (2 : Int32))))] h (some (vI xc513)) h506 ∧ d505 + 1 ≤ d ∧ vp_in (x3 + (1 : Int32)) (ea_q h506).1 ∧ vp_in (x3 + (2 : Int32)) (ea_q h506).1 ∧ ∃ a522, r2 = some a522 ∧ a522 < ea_n h506 ∧ ea_c h506 a522 = 12 ∧ ∃ (d516 : Nat) (xc524 : Int32) (h517 : ea_H), ea_Met mX12_seat d516 [vR (some a522), vI ((ea_q h506).2 (Int32.toNatClampNeg (x3 + (1 : Int32)))), vI ((ea_q h506).2 (Int32.toNatClampNeg (x3 + (2 : Int32))))] h506 (some (vI xc524)) h517 ∧ d516 + 1 ≤ d ∧ (xc513 = xc524 → ea_W mL_law d h0 rv hE 18 [(0, vO 0), (1, vR r1), (2, vR r2), (3, vI (x3 + 7))] [] h517) ∧ (¬ xc513 = xc524 → rv = some (vI 0) ∧ hE = h517)) ∧ (Int32.toInt (((ea_q h).2 (Int32.toNatClampNeg x3)) &&& (63 : Int32)) = 23 → vp_in (x3 + (1 : Int32)) (ea_q h).1 ∧ vp_in (x3 + (2 : Int32)) (ea_q h).1 ∧ vp_in (x3 + (3 : Int32)) (ea_q h).1 ∧ ∃ a535, r1 = some a535 ∧ a535 < ea_n h ∧ ea_c h a535 = 11 ∧ ∃ (d529 : Nat) (xc537 : Int32) (h530 : ea_H), ea_Met mX11_run d529 [vR (some a535), vI ((ea_q h).2 (Int32.toNatClampNeg (x3 + (1 : Int32)))), vI ((ea_q h).2 (Int32.toNatClampNeg (x3 + (2 : Int32)))), vI ((ea_q h).2 (Int32.toNatClampNeg (x3 + (3 : Int32))))] h (some (vI xc537)) h530 ∧ d529 + 1 ≤ d ∧ vp_in (x3 + (1 : Int32)) (ea_q h530).1 ∧ vp_in (x3 + (2 : Int32)) (ea_q h530).1 ∧ vp_in (x3 + (3 : Int32)) (ea_q h530).1 ∧ ∃ a547, r2 = some a547 ∧ a547 < ea_n h530 ∧ ea_c h530 a547 = 12 ∧ ∃ (d541 : Nat) (xc549 : Int32) (h542 : ea_H), ea_Met mX12_run_ d541 [vR (some a547), vI ((ea_q h530).2 (Int32.toNatClampNeg (x3 + (1 : Int32)))), vI ((ea_q h530).2 (Int32.toNatClampNeg (x3 + (2 : Int32)))), vI ((ea_q h530).2 (Int32.toNatClampNeg (x3 + (3 : Int32))))] h530 (some (vI xc549)) h542 ∧ d541 + 1 ≤ d ∧ (xc537 = xc549 → ea_W mL_law d h0 rv hE 18 [(0, vO 0), (1, vR r1), (2, vR r2), (3, vI (x3 + 7))] [] h542) ∧ (¬ xc537 = xc549 → rv = some (vI 0) ∧ hE = h542)) ∧ (Int32.toInt (((ea_q h).2 (Int32.toNatClampNeg x3)) &&& (63 : Int32)) = 24 → vp_in (x3 + (1 : Int32)) (ea_q h).1 ∧ vp_in (x3 + (2 : Int32)) (ea_q h).1 ∧ vp_in (x3 + (3 : Int32)) (ea_q h).1 ∧ ∃ a560, r1 = some a560 ∧ a560 < ea_n h ∧ ea_c h a560 = 11 ∧ ∃ (d554 : Nat) (xc562 : Int32) (h555 : ea_H), ea_Met mX11_account d554 [vR (some a560), vI ((ea_q h).2 (Int32.toNatClampNeg (x3 + (1 : Int32)))), vI ((ea_q h).2 (Int32.toNatClampNeg (x3 + (2 : Int32)))), vI ((ea_q h).2 (Int32.toNatClampNeg (x3 + (3 : Int32))))] h (some (vI xc562)) h555 ∧ d554 + 1 ≤ d ∧ vp_in (x3 + (1 : Int32)) (ea_q h555).1 ∧ vp_in (x3 + (2 : Int32)) (ea_q h555).1 ∧ vp_in (x3 + (3 : Int32)) (ea_q h555).1 ∧ ∃ a572, r2 = some a572 ∧ a572 < ea_n h555 ∧ ea_c h555 a572 = 12 ∧ ∃ (d566 : Nat) (xc574 : Int32) (h567 : ea_H), ea_Met mX12_account d566 [vR (some a572), vI ((ea_q h555).2 (Int32.toNatClampNeg (x3 + (1 : Int32)))), vI ((ea_q h555).2 (Int32.toNatClampNeg (x3 + (2 : Int32)))), vI ((ea_q h555).2 (Int32.toNatClampNeg (x3 + (3 : Int32))))] h555 (some (vI xc574)) h567 ∧ d566 + 1 ≤ d ∧ (xc562 = xc574 → ea_W mL_law d h0 rv hE 18 [(0, vO 0), (1, vR r1), (2, vR r2), (3, vI (x3 + 7))] [] h567) ∧ (¬ xc562 = xc574 → rv = some (vI 0) ∧ hE = h567)) ∧ (Int32.toInt (((ea_q h).2 (Int32.toNatClampNeg x3)) &&& (63 : Int32)) = 25 → vp_in (x3 + (1 : Int32)) (ea_q h).1 ∧ ∃ a583, r1 = some a583 ∧ a583 < ea_n h ∧ ea_c h a583 = 11 ∧ ∃ (d577 : Nat) (xc585 : Int32) (h578 : ea_H), ea_Met mX11_nobody d577 [vR (some a583), vI ((ea_q h).2 (Int32.toNatClampNeg (x3 + (1 : Int32))))] h (some (vI xc585)) h578 ∧ d577 + 1 ≤ d ∧ vp_in (x3 + (1 : Int32)) (ea_q h578).1 ∧ ∃ a593, r2 = some a593 ∧ a593 < ea_n h578 ∧ ea_c h578 a593 = 12 ∧ ∃ (d587 : Nat) (xc595 : Int32) (h588 : ea_H), ea_Met mX12_nobody d587 [vR (some a593), vI ((ea_q h578).2 (Int32.toNatClampNeg (x3 + (1 : Int32))))] h578 (some (vI xc595)) h588 ∧ d587 + 1 ≤ d ∧ (xc585 = xc595 → ea_W mL_law d h0 rv hE 18 [(0, vO 0), (1, vR r1), (2, vR r2), (3, vI (x3 + 7))] [] h588) ∧ (¬ xc585 = xc595 → rv = some (vI 0) ∧ hE = h588)) ∧ (Int32.toInt (((ea_q h).2 (Int32.toNatClampNeg x3)) &&& (63 : Int32)) = 26 → vp_in (x3 + (1 : Int32)) (ea_q h).1 ∧ vp_in (x3 + (2 : Int32)) (ea_q h).1 ∧ vp_in (x3 + (3 : Int32)) (ea_q h).1 ∧ ∃ a606, r1 = some a606 ∧ a606 < ea_n h ∧ ea_c h a606 = 11 ∧ ∃ (d600 : Nat) (xc608 : Int32) (h601 : ea_H), ea_Met mX11_place d600 [vR (some a606), vI ((ea_q h).2 (Int32.toNatClampNeg (x3 + (1 : Int32)))), vI ((ea_q h).2 (Int32.toNatClampNeg (x3 + (2 : Int32)))), vI ((ea_q h).2 (Int32.toNatClampNeg (x3 + (3 : Int32))))] h (some (vI xc608)) h601 ∧ d600 + 1 ≤ d ∧ vp_in (x3 + (1 : Int32)) (ea_q h601).1 ∧ vp_in (x3 + (2 : Int32)) (ea_q h601).1 ∧ vp_in (x3 + (3 : Int32)) (ea_q h601).1 ∧ ∃ a618, r2 = some a618 ∧ a618 < ea_n h601 ∧ ea_c h601 a618 = 12 ∧ ∃ (d612 : Nat) (xc620 : Int32) (h613 : ea_H), ea_Met mX12_place d612 [vR (some a618), vI ((ea_q h601).2 (Int32.toNatClampNeg (x3 + (1 : Int32)))), vI ((ea_q h601).2 (Int32.toNatClampNeg (x3 + (2 : Int32)))), vI ((ea_q h601).2 (Int32.toNatClampNeg (x3 + (3 : Int32))))] h601 (some (vI xc620)) h613 ∧ d612 + 1 ≤ d ∧ (xc608 = xc620 → ea_W mL_law d h0 rv hE 18 [(0, vO 0), (1, vR r1), (2, vR r2), (3, vI (x3 + 7))] [] h613) ∧ (¬ xc608 = xc620 → rv = some (vI 0) ∧ hE = h613)) ∧ (Int32.toInt (((ea_q h).2 (Int32.toNatClampNeg x3)) &&& (63 : Int32)) = 27 → vp_in (x3 + (1 : Int32)) (ea_q h).1 ∧ vp_in (x3 + (2 : Int32)) (ea_q h).1 ∧ ∃ a630, r1 = some a630 ∧ a630 < ea_n h ∧ ea_c h a630 = 11 ∧ ∃ (d624 : Nat) (yc632 : Int64) (h625 : ea_H), ea_Met mX11_order d624 [vR (some a630), vI ((ea_q h).2 (Int32.toNatClampNeg (x3 + (1 : Int32)))), vI ((ea_q h).2 (Int32.toNatClampNeg (x3 + (2 : Int32))))] h (some (vJ yc632)) h625 ∧ d624 + 1 ≤ d ∧ vp_in (x3 + (1 : Int32)) (ea_q h625).1 ∧ vp_in (x3 + (2 : Int32)) (ea_q h625).1 ∧ ∃ a641, r2 = some a641 ∧ a641 < ea_n h625 ∧ ea_c h625 a641 = 12 ∧ ∃ (d635 : Nat) (yc643 : Int64) (h636 : ea_H), ea_Met mX12_order d635 [vR (some a641), vI ((ea_q h625).2 (Int32.toNatClampNeg (x3 + (1 : Int32)))), vI ((ea_q h625).2 (Int32.toNatClampNeg (x3 + (2 : Int32))))] h625 (some (vJ yc643)) h636 ∧ d635 + 1 ≤ d ∧ ((lg_cmp yc632 yc643) = (0 : Int32) → ea_W mL_law d h0 rv hE 18 [(0, vO 0), (1, vR r1), (2, vR r2), (3, vI (x3 + 7))] [] h636) ∧ (¬ (lg_cmp yc632 yc643) = (0 : Int32) → rv = some (vI 0) ∧ hE = h636)) ∧ (Int32.toInt (((ea_q h).2 (Int32.toNatClampNeg x3)) &&& (63 : Int32)) = 28 → vp_in (x3 + (1 : Int32)) (ea_q h).1 ∧ vp_in (x3 + (2 : Int32)) (ea_q h).1 ∧ ∃ a653, r1 = some a653 ∧ a653 < ea_n h ∧ ea_c h a653 = 11 ∧ ∃ (d647 : Nat) (xc655 : Int32) (h648 : ea_H), ea_Met mX11_found d647 [vR (some a653), vI ((ea_q h).2 (Int32.toNatClampNeg (x3 + (1 : Int32)))), vI ((ea_q h).2 (Int32.toNatClampNeg (x3 + (2 : Int32))))] h (some (vI xc655)) h648 ∧ d647 + 1 ≤ d ∧ vp_in (x3 + (1 : Int32)) (ea_q h648).1 ∧ vp_in (x3 + (2 : Int32)) (ea_q h648).1 ∧ ∃ a664, r2 = some a664 ∧ a664 < ea_n h648 ∧ ea_c h648 a664 = 12 ∧ ∃ (d658 : Nat) (xc666 : Int32) (h659 : ea_H), ea_Met mX12_found d658 [vR (some a664), vI ((ea_q h648).2 (Int32.toNatClampNeg (x3 + (1 : Int32)))), vI ((ea_q h648).2 (Int32.toNatClampNeg (x3 + (2 : Int32))))] h648 (some (vI xc666)) h659 ∧ d658 + 1 ≤ d ∧ (xc655 = xc666 → ea_W mL_law d h0 rv hE 18 [(0, vO 0), (1, vR r1), (2, vR r2), (3, vI (x3 + 7))] [] h659) ∧ (¬ xc655 = xc666 → rv = some (vI 0) ∧ hE = h659)) ∧ (Int32.toInt (((ea_q h).2 (Int32.toNatClampNeg x3)) &&& (63 : Int32)) = 29 → vp_in (x3 + (1 : Int32)) (ea_q h).1 ∧ vp_in (x3 + (2 : Int32)) (ea_q h).1 ∧ ∃ a676, r1 = some a676 ∧ a676 < ea_n h ∧ ea_c h a676 = 11 ∧ ∃ (d670 : Nat) (xc678 : Int32) (h671 : ea_H), ea_Met mX11_rob d670 [vR (some a676), vI ((ea_q h).2 (Int32.toNatClampNeg (x3 + (1 : Int32)))), vI ((ea_q h).2 (Int32.toNatClampNeg (x3 + (2 : Int32))))] h (some (vI xc678)) h671 ∧ d670 + 1 ≤ d ∧ vp_in (x3 + (1 : Int32)) (ea_q h671).1 ∧ vp_in (x3 + (2 : Int32)) (ea_q h671).1 ∧ ∃ a687, r2 = some a687 ∧ a687 < ea_n h671 ∧ ea_c h671 a687 = 12 ∧ ∃ (d681 : Nat) (xc689 : Int32) (h682 : ea_H), ea_Met mX12_rob d681 [vR (some a687), vI ((ea_q h671).2 (Int32.toNatClampNeg (x3 + (1 : Int32)))), vI ((ea_q h671).2 (Int32.toNatClampNeg (x3 + (2 : Int32))))] h671 (some (vI xc689)) h682 ∧ d681 + 1 ≤ d ∧ (xc678 = xc689 → ea_W mL_law d h0 rv hE 18 [(0, vO 0), (1, vR r1), (2, vR r2), (3, vI (x3 + 7))] [] h682) ∧ (¬ xc678 = xc689 → rv = some (vI 0) ∧ hE = h682)) ∧ (Int32.toInt (((ea_q h).2 (Int32.toNatClampNeg x3)) &&& (63 : Int32)) = 30 → vp_in (x3 + (1 : Int32)) (ea_q h).1 ∧ vp_in (x3 + (2 : Int32)) (ea_q h).1 ∧ ∃ a699, r1 = some a699 ∧ a699 < ea_n h ∧ ea_c h a699 = 11 ∧ ∃ (d693 : Nat) (xc701 : Int32) (h694 : ea_H), ea_Met mX11_robbery d693 [vR (some a699), vI ((ea_q h).2 (Int32.toNatClampNeg (x3 + (1 : Int32)))), vI ((ea_q h).2 (Int32.toNatClampNeg (x3 + (2 : Int32))))] h (some (vI xc701)) h694 ∧ d693 + 1 ≤ d ∧ vp_in (x3 + (1 : Int32)) (ea_q h694).1 ∧ vp_in (x3 + (2 : Int32)) (ea_q h694).1 ∧ ∃ a710, r2 = some a710 ∧ a710 < ea_n h694 ∧ ea_c h694 a710 = 12 ∧ ∃ (d704 : Nat) (xc712 : Int32) (h705 : ea_H), ea_Met mX12_robbery d704 [vR (some a710), vI ((ea_q h694).2 (Int32.toNatClampNeg (x3 + (1 : Int32)))), vI ((ea_q h694).2 (Int32.toNatClampNeg (x3 + (2 : Int32))))] h694 (some (vI xc712)) h705 ∧ d704 + 1 ≤ d ∧ (xc701 = xc712 → ea_W mL_law d h0 rv hE 18 [(0, vO 0), (1, vR r1), (2, vR r2), (3, vI (x3 + 7))] [] h705) ∧ (¬ xc701 = xc712 → rv = some (vI 0) ∧ hE = h705)) ∧ (Int32.toInt (((ea_q h).2 (Int32.toNatClampNeg x3)) &&& (63 : Int32)) = 31 → vp_in (x3 + (1 : Int32)) (ea_q h).1 ∧ ∃ a721, r1 = some a721 ∧ a721 < ea_n h ∧ ea_c h a721 = 11 ∧ ∃ (d715 : Nat) (xc723 : Int32) (h716 : ea_H), ea_Met mX11_set d715 [vR (some a721), vI ((ea_q h).2 (Int32.toNatClampNeg (x3 + (1 : Int32))))] h (some (vI xc723)) h716 ∧ d715 + 1 ≤ d ∧ vp_in (x3 + (1 : Int32)) (ea_q h716).1 ∧ ∃ a731, r2 = some a731 ∧ a731 < ea_n h716 ∧ ea_c h716 a731 = 12 ∧ ∃ (d725 : Nat) (xc733 : Int32) (h726 : ea_H), ea_Met mX12_set d725 [vR (some a731), vI ((ea_q h716).2 (Int32.toNatClampNeg (x3 + (1 : Int32))))] h716 (some (vI xc733)) h726 ∧ d725 + 1 ≤ d ∧ (xc723 = xc733 → ea_W mL_law d h0 rv hE 18 [(0, vO 0), (1, vR r1), (2, vR r2), (3, vI (x3 + 7))] [] h726) ∧ (¬ xc723 = xc733 → rv = some (vI 0) ∧ hE = h726)) ∧ (Int32.toInt (((ea_q h).2 (Int32.toNatClampNeg x3)) &&& (63 : Int32)) = 32 → vp_in (x3 + (1 : Int32)) (ea_q h).1 ∧ vp_in (x3 + (2 : Int32)) (ea_q h).1 ∧ ∃ a743, r1 = some a743 ∧ a743 < ea_n h ∧ ea_c h a743 = 11 ∧ ∃ (d737 : Nat) (xc745 : Int32) (h738 : ea_H), ea_Met mX11_seen d737 [vR (some a743), vI ((ea_q h).2 (Int32.toNatClampNeg (x3 + (1 : Int32)))), vI ((ea_q h).2 (Int32.toNatClampNeg (x3 + (2 : Int32))))] h (some (vI xc745)) h738 ∧ d737 + 1 ≤ d ∧ vp_in (x3 + (1 : Int32)) (ea_q h738).1 ∧ vp_in (x3 + (2 : Int32)) (ea_q h738).1 ∧ ∃ a754, r2 = some a754 ∧ a754 < ea_n h738 ∧ ea_c h738 a754 = 12 ∧ ∃ (d748 : Nat) (xc756 : Int32) (h749 : ea_H), ea_Met mX12_seen d748 [vR (some a754), vI ((ea_q h738).2 (Int32.toNatClampNeg (x3 + (1 : Int32)))), vI ((ea_q h738).2 (Int32.toNatClampNeg (x3 + (2 : Int32))))] h738 (some (vI xc756)) h749 ∧ d748 + 1 ≤ d ∧ (xc745 = xc756 → ea_W mL_law d h0 rv hE 18 [(0, vO 0), (1, vR r1), (2, vR r2), (3, vI (x3 + 7))] [] h749) ∧ (¬ xc745 = xc756 → rv = some (vI 0) ∧ hE = h749)) ∧ (Int32.toInt (((ea_q h).2 (Int32.toNatClampNeg x3)) &&& (63 : Int32)) = 33 → vp_in (x3 + (1 : Int32)) (ea_q h).1 ∧ vp_in (x3 + (2 : Int32)) (ea_q h).1 ∧ ∃ a766, r1 = some a766 ∧ a766 < ea_n h ∧ ea_c h a766 = 11 ∧ ∃ (d760 : Nat) (xc768 : Int32) (h761 : ea_H), ea_Met mX11_clock d760 [vR (some a766), vI ((ea_q h).2 (Int32.toNatClampNeg (x3 + (1 : Int32)))), vI ((ea_q h).2 (Int32.toNatClampNeg (x3 + (2 : Int32))))] h (some (vI xc768)) h761 ∧ d760 + 1 ≤ d ∧ vp_in (x3 + (1 : Int32)) (ea_q h761).1 ∧ vp_in (x3 + (2 : Int32)) (ea_q h761).1 ∧ ∃ a777, r2 = some a777 ∧ a777 < ea_n h761 ∧ ea_c h761 a777 = 12 ∧ ∃ (d771 : Nat) (xc779 : Int32) (h772 : ea_H), ea_Met mX12_clock d771 [vR (some a777), vI ((ea_q h761).2 (Int32.toNatClampNeg (x3 + (1 : Int32)))), vI ((ea_q h761).2 (Int32.toNatClampNeg (x3 + (2 : Int32))))] h761 (some (vI xc779)) h772 ∧ d771 + 1 ≤ d ∧ (xc768 = xc779 → ea_W mL_law d h0 rv hE 18 [(0, vO 0), (1, vR r1), (2, vR r2), (3, vI (x3 + 7))] [] h772) ∧ (¬ xc768 = xc779 → rv = some (vI 0) ∧ hE = h772)) ∧ (Int32.toInt (((ea_q h).2 (Int32.toNatClampNeg x3)) &&& (63 : Int32)) = 34 → vp_in (x3 + (1 : Int32)) (ea_q h).1 ∧ vp_in (x3 + (2 : Int32)) (ea_q h).1 ∧ vp_in (x3 + (3 : Int32)) (ea_q h).1 ∧ ∃ a790, r1 = some a790 ∧ a790 < ea_n h ∧ ea_c h a790 = 11 ∧ ∃ (d784 : Nat) (xc792 : Int32) (h785 : ea_H), ea_Met mX11_trueMinute d784 [vR (some a790), vI ((ea_q h).2 (Int32.toNatClampNeg (x3 + (1 : Int32)))), vI ((ea_q h).2 (Int32.toNatClampNeg (x3 + (2 : Int32)))), vI ((ea_q h).2 (Int32.toNatClampNeg (x3 + (3 : Int32))))] h (some (vI xc792)) h785 ∧ d784 + 1 ≤ d ∧ vp_in (x3 + (1 : Int32)) (ea_q h785).1 ∧ vp_in (x3 + (2 : Int32)) (ea_q h785).1 ∧ vp_in (x3 + (3 : Int32)) (ea_q h785).1 ∧ ∃ a802, r2 = some a802 ∧ a802 < ea_n h785 ∧ ea_c h785 a802 = 12 ∧ ∃ (d796 : Nat) (xc804 : Int32) (h797 : ea_H), ea_Met mX12_trueMinute d796 [vR (some a802), vI ((ea_q h785).2 (Int32.toNatClampNeg (x3 + (1 : Int32)))), vI ((ea_q h785).2 (Int32.toNatClampNeg (x3 + (2 : Int32)))), vI ((ea_q h785).2 (Int32.toNatClampNeg (x3 + (3 : Int32))))] h785 (some (vI xc804)) h797 ∧ d796 + 1 ≤ d ∧ (xc792 = xc804 → ea_W mL_law d h0 rv hE 18 [(0, vO 0), (1, vR r1), (2, vR r2), (3, vI (x3 + 7))] [] h797) ∧ (¬ xc792 = xc804 → rv = some (vI 0) ∧ hE = h797)) ∧ (Int32.toInt (((ea_q h).2 (Int32.toNatClampNeg x3)) &&& (63 : Int32)) = 35 → vp_in (x3 + (1 : Int32)) (ea_q h).1 ∧ ∃ a813, r1 = some a813 ∧ a813 < ea_n h ∧ ea_c h a813 = 11 ∧ ∃ (d807 : Nat) (yc815 : Int64) (h808 : ea_H), ea_Met mX11_tried d807 [vR (some a813), vI ((ea_q h).2 (Int32.toNatClampNeg (x3 + (1 : Int32))))] h (some (vJ yc815)) h808 ∧ d807 + 1 ≤ d ∧ vp_in (x3 + (1 : Int32)) (ea_q h808).1 ∧ ∃ a823, r2 = some a823 ∧ a823 < ea_n h808 ∧ ea_c h808 a823 = 12 ∧ ∃ (d817 : Nat) (yc825 : Int64) (h818 : ea_H), ea_Met mX12_tried d817 [vR (some a823), vI ((ea_q h808).2 (Int32.toNatClampNeg (x3 + (1 : Int32))))] h808 (some (vJ yc825)) h818 ∧ d817 + 1 ≤ d ∧ ((lg_cmp yc815 yc825) = (0 : Int32) → ea_W mL_law d h0 rv hE 18 [(0, vO 0), (1, vR r1), (2, vR r2), (3, vI (x3 + 7))] [] h818) ∧ (¬ (lg_cmp yc815 yc825) = (0 : Int32) → rv = some (vI 0) ∧ hE = h818)) ∧ (Int32.toInt (((ea_q h).2 (Int32.toNatClampNeg x3)) &&& (63 : Int32)) = 36 → vp_in (x3 + (1 : Int32)) (ea_q h).1 ∧ vp_in (x3 + (2 : Int32)) (ea_q h).1 ∧ vp_in (x3 + (3 : Int32)) (ea_q h).1 ∧ ∃ a836, r1 = some a836 ∧ a836 < ea_n h ∧ ea_c h a836 = 11 ∧ ∃ (d830 : Nat) (xc838 : Int32) (h831 : ea_H), ea_Met mX11_whatIf d830 [vR (some a836), vI ((ea_q h).2 (Int32.toNatClampNeg (x3 + (1 : Int32)))), vI ((ea_q h).2 (Int32.toNatClampNeg (x3 + (2 : Int32)))), vI ((ea_q h).2 (Int32.toNatClampNeg (x3 + (3 : Int32))))] h (some (vI xc838)) h831 ∧ d830 + 1 ≤ d ∧ vp_in (x3 + (1 : Int32)) (ea_q h831).1 ∧ vp_in (x3 + (2 : Int32)) (ea_q h831).1 ∧ vp_in (x3 + (3 : Int32)) (ea_q h831).1 ∧ ∃ a848, r2 = some a848 ∧ a848 < ea_n h831 ∧ ea_c h831 a848 = 12 ∧ ∃ (d842 : Nat) (xc850 : Int32) (h843 : ea_H), ea_Met mX12_whatIf d842 [vR (some a848), vI ((ea_q h831).2 (Int32.toNatClampNeg (x3 + (1 : Int32)))), vI ((ea_q h831).2 (Int32.toNatClampNeg (x3 + (2 : Int32)))), vI ((ea_q h831).2 (Int32.toNatClampNeg (x3 + (3 : Int32))))] h831 (some (vI xc850)) h843 ∧ d842 + 1 ≤ d ∧ (xc838 = xc850 → ea_W mL_law d h0 rv hE 18 [(0, vO 0), (1, vR r1), (2, vR r2), (3, vI (x3 + 7))] [] h843) ∧ (¬ xc838 = xc850 → rv = some (vI 0) ∧ hE = h843)) ∧ (Int32.toInt (((ea_q h).2 (Int32.toNatClampNeg x3)) &&& (63 : Int32)) = 37 → vp_in (x3 + (1 : Int32)) (ea_q h).1 ∧ ∃ a859, r1 = some a859 ∧ a859 < ea_n h ∧ ea_c h a859 = 11 ∧ ∃ (d853 : Nat) (xc861 : Int32) (h854 : ea_H), ea_Met mX11_seats d853 [vR (some a859), vI ((ea_q h).2 (Int32.toNatClampNeg (x3 + (1 : Int32))))] h (some (vI xc861)) h854 ∧ d853 + 1 ≤ d ∧ vp_in (x3 + (1 : Int32)) (ea_q h854).1 ∧ ∃ a869, r2 = some a869 ∧ a869 < ea_n h854 ∧ ea_c h854 a869 = 12 ∧ ∃ (d863 : Nat) (xc871 : Int32) (h864 : ea_H), ea_Met mX12_seats d863 [vR (some a869), vI ((ea_q h854).2 (Int32.toNatClampNeg (x3 + (1 : Int32))))] h854 (some (vI xc871)) h864 ∧ d863 + 1 ≤ d ∧ (xc861 = xc871 → ea_W mL_law d h0 rv hE 18 [(0, vO 0), (1, vR r1), (2, vR r2), (3, vI (x3 + 7))] [] h864) ∧ (¬ xc861 = xc871 → rv = some (vI 0) ∧ hE = h864)) ∧ (Int32.toInt (((ea_q h).2 (Int32.toNatClampNeg x3)) &&& (63 : Int32)) < 0 ∨ 37 < Int32.toInt (((ea_q h).2 (Int32.toNatClampNeg x3)) &&& (63 : Int32)) → ea_W mL_law d h0 rv hE 18 [(0, vO 0), (1, vR r1), (2, vR r2), (3, vI (x3 + 7))] [] h))) : ea_W mL_law d h0 rv hE 18 [(0, vO 0), (1, vR r1), (2, vR r2), (3, vI x3)] [] h := by
  refine ea_iload_n (pc := 18) dL_law_18 rfl 3 rfl ?_
  refine ea_aload_nO (pc := 19) dL_law_19 rfl 0 rfl ?_
  refine ea_slen (pc := 20) dL_law_20 ?_
  refine ea_bipush (pc := 21) dL_law_21 (v := 7) rfl ?_
  refine ea_isub (pc := 23) dL_law_23 ?_
  refine ea_icmp_gt (pc := 24) (tgt := 1580) dL_law_24 rfl (fun c873 => ?_) (fun c873 => ?_)
  · have H := H.1 c873
    refine ea_iconst (pc := 1580) dL_law_1580 (v := 1) rfl ?_
    obtain ⟨rfl, rfl⟩ := H
    exact ea_ireturn (pc := 1581) dL_law_1581 rfl (ea_bn (Or.inr rfl))
  · have H := H.2 c873
    refine ea_aload_nO (pc := 27) dL_law_27 rfl 0 rfl ?_
    refine ea_iload_n (pc := 28) dL_law_28 rfl 3 rfl ?_
    obtain ⟨z1, H⟩ := H
    refine ea_sld (pc := 29) dL_law_29 z1 ?_
    refine ea_bipush (pc := 30) dL_law_30 (v := 63) rfl ?_
    refine ea_iand (pc := 32) dL_law_32 ?_
    by_cases qc1 : Int32.toInt (((ea_q h).2 (Int32.toNatClampNeg x3)) &&& (63 : Int32)) = 0
    · have H := H.1 qc1
      refine ea_tswIn (pc := 33) (tgt := 200) dL_law_33 (by omega) (by omega) (by rw [qc1]; rfl) rfl ?_
      refine ea_aload_n (pc := 200) dL_law_200 rfl 1 rfl ?_
      obtain ⟨a8, e9, f6, g7, H⟩ := H
      refine ea_deref0 e9 ?_
      obtain ⟨d2, xc10, h3, m4, q5, H⟩ := H
      refine ea_callV (pc := 201) (As := []) (st := []) dL_law_201 kX11_town m4 q5 rfl (Nat.le_of_ble_eq_true rfl) ew_486 ew_487 ew_488 (ci := 11) rfl (by decide) f6 g7 ?_
      refine ea_aload_n (pc := 204) dL_law_204 rfl 2 rfl ?_
      obtain ⟨a17, e18, f15, g16, H⟩ := H
      refine ea_deref0 e18 ?_
      obtain ⟨d11, xc19, h12, m13, q14, H⟩ := H
      refine ea_callV (pc := 205) (As := []) (st := [vI xc10]) dL_law_205 kX12_town m13 q14 rfl (Nat.le_of_ble_eq_true rfl) ew_1700 ew_1701 ew_1702 (ci := 12) rfl (by decide) f15 g16 ?_
      refine ea_icmp_eq (pc := 208) (tgt := 1574) dL_law_208 rfl (fun c20 => ?_) (fun c20 => ?_)
      · have H := H.1 c20
        refine ea_iinc (pc := 1574) (v := 7) (lv' := [(0, vO 0), (1, vR r1), (2, vR r2), (3, vI (x3 + 7))]) dL_law_1574 3 rfl rfl (Nat.le_of_ble_eq_true rfl) [1, 2, 3, 0] rfl ?_
        refine ea_goto (pc := 1577) (tgt := 18) dL_law_1577 rfl ?_
        exact H
      · have H := H.2 c20
        refine ea_iconst (pc := 211) dL_law_211 (v := 0) rfl ?_
        obtain ⟨rfl, rfl⟩ := H
        exact ea_ireturn (pc := 212) dL_law_212 rfl (ea_bn (Or.inl rfl))
    by_cases qc2 : Int32.toInt (((ea_q h).2 (Int32.toNatClampNeg x3)) &&& (63 : Int32)) = 1
    · have H := H.2.1 qc2
      refine ea_tswIn (pc := 33) (tgt := 213) dL_law_33 (by omega) (by omega) (by rw [qc2]; rfl) rfl ?_
      refine ea_aload_n (pc := 213) dL_law_213 rfl 1 rfl ?_
      refine ea_aload_nO (pc := 214) dL_law_214 rfl 0 rfl ?_
      refine ea_iload_n (pc := 215) dL_law_215 rfl 3 rfl ?_
      refine ea_iconst (pc := 216) dL_law_216 (v := 1) rfl ?_
      refine ea_iadd (pc := 217) dL_law_217 ?_
      obtain ⟨z21, H⟩ := H
      refine ea_sld (pc := 218) dL_law_218 z21 ?_
      refine ea_aload_nO (pc := 219) dL_law_219 rfl 0 rfl ?_
      refine ea_iload_n (pc := 220) dL_law_220 rfl 3 rfl ?_
      refine ea_iconst (pc := 221) dL_law_221 (v := 2) rfl ?_
      refine ea_iadd (pc := 222) dL_law_222 ?_
      obtain ⟨z22, H⟩ := H
      refine ea_sld (pc := 223) dL_law_223 z22 ?_
      refine ea_aload_nO (pc := 224) dL_law_224 rfl 0 rfl ?_
      refine ea_iload_n (pc := 225) dL_law_225 rfl 3 rfl ?_
      refine ea_iconst (pc := 226) dL_law_226 (v := 3) rfl ?_
      refine ea_iadd (pc := 227) dL_law_227 ?_
      obtain ⟨z23, H⟩ := H
      refine ea_sld (pc := 228) dL_law_228 z23 ?_
      obtain ⟨a30, e31, f28, g29, H⟩ := H
      refine ea_deref3 e31 ?_
      obtain ⟨d24, xc32, h25, m26, q27, H⟩ := H
      refine ea_callV (pc := 229) (As := [vI ((ea_q h).2 (Int32.toNatClampNeg (x3 + (1 : Int32)))), vI ((ea_q h).2 (Int32.toNatClampNeg (x3 + (2 : Int32)))), vI ((ea_q h).2 (Int32.toNatClampNeg (x3 + (3 : Int32))))]) (st := []) dL_law_229 kX11_road m26 q27 rfl (Nat.le_of_ble_eq_true rfl) ew_490 ew_491 ew_492 (ci := 11) rfl (by decide) f28 g29 ?_
      refine ea_aload_n (pc := 232) dL_law_232 rfl 2 rfl ?_
      refine ea_aload_nO (pc := 233) dL_law_233 rfl 0 rfl ?_
      refine ea_iload_n (pc := 234) dL_law_234 rfl 3 rfl ?_
      refine ea_iconst (pc := 235) dL_law_235 (v := 1) rfl ?_
      refine ea_iadd (pc := 236) dL_law_236 ?_
      obtain ⟨z33, H⟩ := H
      refine ea_sld (pc := 237) dL_law_237 z33 ?_
      refine ea_aload_nO (pc := 238) dL_law_238 rfl 0 rfl ?_
      refine ea_iload_n (pc := 239) dL_law_239 rfl 3 rfl ?_
      refine ea_iconst (pc := 240) dL_law_240 (v := 2) rfl ?_
      refine ea_iadd (pc := 241) dL_law_241 ?_
      obtain ⟨z34, H⟩ := H
      refine ea_sld (pc := 242) dL_law_242 z34 ?_
      refine ea_aload_nO (pc := 243) dL_law_243 rfl 0 rfl ?_
      refine ea_iload_n (pc := 244) dL_law_244 rfl 3 rfl ?_
      refine ea_iconst (pc := 245) dL_law_245 (v := 3) rfl ?_
      refine ea_iadd (pc := 246) dL_law_246 ?_
      obtain ⟨z35, H⟩ := H
      refine ea_sld (pc := 247) dL_law_247 z35 ?_
      obtain ⟨a42, e43, f40, g41, H⟩ := H
      refine ea_deref3 e43 ?_
      obtain ⟨d36, xc44, h37, m38, q39, H⟩ := H
      refine ea_callV (pc := 248) (As := [vI ((ea_q h25).2 (Int32.toNatClampNeg (x3 + (1 : Int32)))), vI ((ea_q h25).2 (Int32.toNatClampNeg (x3 + (2 : Int32)))), vI ((ea_q h25).2 (Int32.toNatClampNeg (x3 + (3 : Int32))))]) (st := [vI xc32]) dL_law_248 kX12_road m38 q39 rfl (Nat.le_of_ble_eq_true rfl) ew_1704 ew_1705 ew_1706 (ci := 12) rfl (by decide) f40 g41 ?_
      refine ea_icmp_eq (pc := 251) (tgt := 1574) dL_law_251 rfl (fun c45 => ?_) (fun c45 => ?_)
      · have H := H.1 c45
        refine ea_iinc (pc := 1574) (v := 7) (lv' := [(0, vO 0), (1, vR r1), (2, vR r2), (3, vI (x3 + 7))]) dL_law_1574 3 rfl rfl (Nat.le_of_ble_eq_true rfl) [1, 2, 3, 0] rfl ?_
        refine ea_goto (pc := 1577) (tgt := 18) dL_law_1577 rfl ?_
        exact H
      · have H := H.2 c45
        refine ea_iconst (pc := 254) dL_law_254 (v := 0) rfl ?_
        obtain ⟨rfl, rfl⟩ := H
        exact ea_ireturn (pc := 255) dL_law_255 rfl (ea_bn (Or.inl rfl))
    by_cases qc3 : Int32.toInt (((ea_q h).2 (Int32.toNatClampNeg x3)) &&& (63 : Int32)) = 2
    · have H := H.2.2.1 qc3
      refine ea_tswIn (pc := 33) (tgt := 256) dL_law_33 (by omega) (by omega) (by rw [qc3]; rfl) rfl ?_
      refine ea_aload_n (pc := 256) dL_law_256 rfl 1 rfl ?_
      refine ea_aload_nO (pc := 257) dL_law_257 rfl 0 rfl ?_
      refine ea_iload_n (pc := 258) dL_law_258 rfl 3 rfl ?_
      refine ea_iconst (pc := 259) dL_law_259 (v := 1) rfl ?_
      refine ea_iadd (pc := 260) dL_law_260 ?_
      obtain ⟨z46, H⟩ := H
      refine ea_sld (pc := 261) dL_law_261 z46 ?_
      refine ea_aload_nO (pc := 262) dL_law_262 rfl 0 rfl ?_
      refine ea_iload_n (pc := 263) dL_law_263 rfl 3 rfl ?_
      refine ea_iconst (pc := 264) dL_law_264 (v := 2) rfl ?_
      refine ea_iadd (pc := 265) dL_law_265 ?_
      obtain ⟨z47, H⟩ := H
      refine ea_sld (pc := 266) dL_law_266 z47 ?_
      obtain ⟨a54, e55, f52, g53, H⟩ := H
      refine ea_deref2 e55 ?_
      obtain ⟨d48, xc56, h49, m50, q51, H⟩ := H
      refine ea_callV (pc := 267) (As := [vI ((ea_q h).2 (Int32.toNatClampNeg (x3 + (1 : Int32)))), vI ((ea_q h).2 (Int32.toNatClampNeg (x3 + (2 : Int32))))]) (st := []) dL_law_267 kX11_miles m50 q51 rfl (Nat.le_of_ble_eq_true rfl) ew_502 ew_503 ew_504 (ci := 11) rfl (by decide) f52 g53 ?_
      refine ea_aload_n (pc := 270) dL_law_270 rfl 2 rfl ?_
      refine ea_aload_nO (pc := 271) dL_law_271 rfl 0 rfl ?_
      refine ea_iload_n (pc := 272) dL_law_272 rfl 3 rfl ?_
      refine ea_iconst (pc := 273) dL_law_273 (v := 1) rfl ?_
      refine ea_iadd (pc := 274) dL_law_274 ?_
      obtain ⟨z57, H⟩ := H
      refine ea_sld (pc := 275) dL_law_275 z57 ?_
      refine ea_aload_nO (pc := 276) dL_law_276 rfl 0 rfl ?_
      refine ea_iload_n (pc := 277) dL_law_277 rfl 3 rfl ?_
      refine ea_iconst (pc := 278) dL_law_278 (v := 2) rfl ?_
      refine ea_iadd (pc := 279) dL_law_279 ?_
      obtain ⟨z58, H⟩ := H
      refine ea_sld (pc := 280) dL_law_280 z58 ?_
      obtain ⟨a65, e66, f63, g64, H⟩ := H
      refine ea_deref2 e66 ?_
      obtain ⟨d59, xc67, h60, m61, q62, H⟩ := H
      refine ea_callV (pc := 281) (As := [vI ((ea_q h49).2 (Int32.toNatClampNeg (x3 + (1 : Int32)))), vI ((ea_q h49).2 (Int32.toNatClampNeg (x3 + (2 : Int32))))]) (st := [vI xc56]) dL_law_281 kX12_miles m61 q62 rfl (Nat.le_of_ble_eq_true rfl) ew_1715 ew_1716 ew_1717 (ci := 12) rfl (by decide) f63 g64 ?_
      refine ea_icmp_eq (pc := 284) (tgt := 1574) dL_law_284 rfl (fun c68 => ?_) (fun c68 => ?_)
      · have H := H.1 c68
        refine ea_iinc (pc := 1574) (v := 7) (lv' := [(0, vO 0), (1, vR r1), (2, vR r2), (3, vI (x3 + 7))]) dL_law_1574 3 rfl rfl (Nat.le_of_ble_eq_true rfl) [1, 2, 3, 0] rfl ?_
        refine ea_goto (pc := 1577) (tgt := 18) dL_law_1577 rfl ?_
        exact H
      · have H := H.2 c68
        refine ea_iconst (pc := 287) dL_law_287 (v := 0) rfl ?_
        obtain ⟨rfl, rfl⟩ := H
        exact ea_ireturn (pc := 288) dL_law_288 rfl (ea_bn (Or.inl rfl))
    by_cases qc4 : Int32.toInt (((ea_q h).2 (Int32.toNatClampNeg x3)) &&& (63 : Int32)) = 3
    · have H := H.2.2.2.1 qc4
      refine ea_tswIn (pc := 33) (tgt := 289) dL_law_33 (by omega) (by omega) (by rw [qc4]; rfl) rfl ?_
      refine ea_aload_n (pc := 289) dL_law_289 rfl 1 rfl ?_
      obtain ⟨a75, e76, f73, g74, H⟩ := H
      refine ea_deref0 e76 ?_
      obtain ⟨d69, xc77, h70, m71, q72, H⟩ := H
      refine ea_callV (pc := 290) (As := []) (st := []) dL_law_290 kX11_train m71 q72 rfl (Nat.le_of_ble_eq_true rfl) ew_510 ew_511 ew_512 (ci := 11) rfl (by decide) f73 g74 ?_
      refine ea_aload_n (pc := 293) dL_law_293 rfl 2 rfl ?_
      obtain ⟨a84, e85, f82, g83, H⟩ := H
      refine ea_deref0 e85 ?_
      obtain ⟨d78, xc86, h79, m80, q81, H⟩ := H
      refine ea_callV (pc := 294) (As := []) (st := [vI xc77]) dL_law_294 kX12_train m80 q81 rfl (Nat.le_of_ble_eq_true rfl) ew_1728 ew_1729 ew_1730 (ci := 12) rfl (by decide) f82 g83 ?_
      refine ea_icmp_eq (pc := 297) (tgt := 1574) dL_law_297 rfl (fun c87 => ?_) (fun c87 => ?_)
      · have H := H.1 c87
        refine ea_iinc (pc := 1574) (v := 7) (lv' := [(0, vO 0), (1, vR r1), (2, vR r2), (3, vI (x3 + 7))]) dL_law_1574 3 rfl rfl (Nat.le_of_ble_eq_true rfl) [1, 2, 3, 0] rfl ?_
        refine ea_goto (pc := 1577) (tgt := 18) dL_law_1577 rfl ?_
        exact H
      · have H := H.2 c87
        refine ea_iconst (pc := 300) dL_law_300 (v := 0) rfl ?_
        obtain ⟨rfl, rfl⟩ := H
        exact ea_ireturn (pc := 301) dL_law_301 rfl (ea_bn (Or.inl rfl))
    by_cases qc5 : Int32.toInt (((ea_q h).2 (Int32.toNatClampNeg x3)) &&& (63 : Int32)) = 4
    · have H := H.2.2.2.2.1 qc5
      refine ea_tswIn (pc := 33) (tgt := 302) dL_law_33 (by omega) (by omega) (by rw [qc5]; rfl) rfl ?_
      refine ea_aload_n (pc := 302) dL_law_302 rfl 1 rfl ?_
      refine ea_aload_nO (pc := 303) dL_law_303 rfl 0 rfl ?_
      refine ea_iload_n (pc := 304) dL_law_304 rfl 3 rfl ?_
      refine ea_iconst (pc := 305) dL_law_305 (v := 1) rfl ?_
      refine ea_iadd (pc := 306) dL_law_306 ?_
      obtain ⟨z88, H⟩ := H
      refine ea_sld (pc := 307) dL_law_307 z88 ?_
      refine ea_aload_nO (pc := 308) dL_law_308 rfl 0 rfl ?_
      refine ea_iload_n (pc := 309) dL_law_309 rfl 3 rfl ?_
      refine ea_iconst (pc := 310) dL_law_310 (v := 2) rfl ?_
      refine ea_iadd (pc := 311) dL_law_311 ?_
      obtain ⟨z89, H⟩ := H
      refine ea_sld (pc := 312) dL_law_312 z89 ?_
      refine ea_aload_nO (pc := 313) dL_law_313 rfl 0 rfl ?_
      refine ea_iload_n (pc := 314) dL_law_314 rfl 3 rfl ?_
      refine ea_iconst (pc := 315) dL_law_315 (v := 3) rfl ?_
      refine ea_iadd (pc := 316) dL_law_316 ?_
      obtain ⟨z90, H⟩ := H
      refine ea_sld (pc := 317) dL_law_317 z90 ?_
      refine ea_aload_nO (pc := 318) dL_law_318 rfl 0 rfl ?_
      refine ea_iload_n (pc := 319) dL_law_319 rfl 3 rfl ?_
      refine ea_iconst (pc := 320) dL_law_320 (v := 4) rfl ?_
      refine ea_iadd (pc := 321) dL_law_321 ?_
      obtain ⟨z91, H⟩ := H
      refine ea_sld (pc := 322) dL_law_322 z91 ?_
      refine ea_aload_nO (pc := 323) dL_law_323 rfl 0 rfl ?_
      refine ea_iload_n (pc := 324) dL_law_324 rfl 3 rfl ?_
      refine ea_iconst (pc := 325) dL_law_325 (v := 5) rfl ?_
      refine ea_iadd (pc := 326) dL_law_326 ?_
      obtain ⟨z92, H⟩ := H
      refine ea_sld (pc := 327) dL_law_327 z92 ?_
      refine ea_if_eq (pc := 328) (tgt := 335) dL_law_328 rfl (fun c93 => ?_) (fun c93 => ?_)
      · have H := H.1 c93
        refine ea_iconst (pc := 335) dL_law_335 (v := 0) rfl ?_
        exact H
      · have H := H.2 c93
        refine ea_iconst (pc := 331) dL_law_331 (v := 1) rfl ?_
        refine ea_goto (pc := 332) (tgt := 336) dL_law_332 rfl ?_
        exact H
    by_cases qc6 : Int32.toInt (((ea_q h).2 (Int32.toNatClampNeg x3)) &&& (63 : Int32)) = 5
    · have H := H.2.2.2.2.2.1 qc6
      refine ea_tswIn (pc := 33) (tgt := 381) dL_law_33 (by omega) (by omega) (by rw [qc6]; rfl) rfl ?_
      refine ea_aload_n (pc := 381) dL_law_381 rfl 1 rfl ?_
      refine ea_aload_nO (pc := 382) dL_law_382 rfl 0 rfl ?_
      refine ea_iload_n (pc := 383) dL_law_383 rfl 3 rfl ?_
      refine ea_iconst (pc := 384) dL_law_384 (v := 1) rfl ?_
      refine ea_iadd (pc := 385) dL_law_385 ?_
      obtain ⟨z94, H⟩ := H
      refine ea_sld (pc := 386) dL_law_386 z94 ?_
      refine ea_aload_nO (pc := 387) dL_law_387 rfl 0 rfl ?_
      refine ea_iload_n (pc := 388) dL_law_388 rfl 3 rfl ?_
      refine ea_iconst (pc := 389) dL_law_389 (v := 2) rfl ?_
      refine ea_iadd (pc := 390) dL_law_390 ?_
      obtain ⟨z95, H⟩ := H
      refine ea_sld (pc := 391) dL_law_391 z95 ?_
      refine ea_aload_nO (pc := 392) dL_law_392 rfl 0 rfl ?_
      refine ea_iload_n (pc := 393) dL_law_393 rfl 3 rfl ?_
      refine ea_iconst (pc := 394) dL_law_394 (v := 3) rfl ?_
      refine ea_iadd (pc := 395) dL_law_395 ?_
      obtain ⟨z96, H⟩ := H
      refine ea_sld (pc := 396) dL_law_396 z96 ?_
      obtain ⟨a103, e104, f101, g102, H⟩ := H
      refine ea_deref3 e104 ?_
      obtain ⟨d97, xc105, h98, m99, q100, H⟩ := H
      refine ea_callV (pc := 397) (As := [vI ((ea_q h).2 (Int32.toNatClampNeg (x3 + (1 : Int32)))), vI ((ea_q h).2 (Int32.toNatClampNeg (x3 + (2 : Int32)))), vI ((ea_q h).2 (Int32.toNatClampNeg (x3 + (3 : Int32))))]) (st := []) dL_law_397 kX11_stopOf m99 q100 rfl (Nat.le_of_ble_eq_true rfl) ew_530 ew_531 ew_532 (ci := 11) rfl (by decide) f101 g102 ?_
      refine ea_aload_n (pc := 400) dL_law_400 rfl 2 rfl ?_
      refine ea_aload_nO (pc := 401) dL_law_401 rfl 0 rfl ?_
      refine ea_iload_n (pc := 402) dL_law_402 rfl 3 rfl ?_
      refine ea_iconst (pc := 403) dL_law_403 (v := 1) rfl ?_
      refine ea_iadd (pc := 404) dL_law_404 ?_
      obtain ⟨z106, H⟩ := H
      refine ea_sld (pc := 405) dL_law_405 z106 ?_
      refine ea_aload_nO (pc := 406) dL_law_406 rfl 0 rfl ?_
      refine ea_iload_n (pc := 407) dL_law_407 rfl 3 rfl ?_
      refine ea_iconst (pc := 408) dL_law_408 (v := 2) rfl ?_
      refine ea_iadd (pc := 409) dL_law_409 ?_
      obtain ⟨z107, H⟩ := H
      refine ea_sld (pc := 410) dL_law_410 z107 ?_
      refine ea_aload_nO (pc := 411) dL_law_411 rfl 0 rfl ?_
      refine ea_iload_n (pc := 412) dL_law_412 rfl 3 rfl ?_
      refine ea_iconst (pc := 413) dL_law_413 (v := 3) rfl ?_
      refine ea_iadd (pc := 414) dL_law_414 ?_
      obtain ⟨z108, H⟩ := H
      refine ea_sld (pc := 415) dL_law_415 z108 ?_
      obtain ⟨a115, e116, f113, g114, H⟩ := H
      refine ea_deref3 e116 ?_
      obtain ⟨d109, xc117, h110, m111, q112, H⟩ := H
      refine ea_callV (pc := 416) (As := [vI ((ea_q h98).2 (Int32.toNatClampNeg (x3 + (1 : Int32)))), vI ((ea_q h98).2 (Int32.toNatClampNeg (x3 + (2 : Int32)))), vI ((ea_q h98).2 (Int32.toNatClampNeg (x3 + (3 : Int32))))]) (st := [vI xc105]) dL_law_416 kX12_stopOf m111 q112 rfl (Nat.le_of_ble_eq_true rfl) ew_1740 ew_1741 ew_1742 (ci := 12) rfl (by decide) f113 g114 ?_
      refine ea_icmp_eq (pc := 419) (tgt := 1574) dL_law_419 rfl (fun c118 => ?_) (fun c118 => ?_)
      · have H := H.1 c118
        refine ea_iinc (pc := 1574) (v := 7) (lv' := [(0, vO 0), (1, vR r1), (2, vR r2), (3, vI (x3 + 7))]) dL_law_1574 3 rfl rfl (Nat.le_of_ble_eq_true rfl) [1, 2, 3, 0] rfl ?_
        refine ea_goto (pc := 1577) (tgt := 18) dL_law_1577 rfl ?_
        exact H
      · have H := H.2 c118
        refine ea_iconst (pc := 422) dL_law_422 (v := 0) rfl ?_
        obtain ⟨rfl, rfl⟩ := H
        exact ea_ireturn (pc := 423) dL_law_423 rfl (ea_bn (Or.inl rfl))
    by_cases qc7 : Int32.toInt (((ea_q h).2 (Int32.toNatClampNeg x3)) &&& (63 : Int32)) = 6
    · have H := H.2.2.2.2.2.2.1 qc7
      refine ea_tswIn (pc := 33) (tgt := 424) dL_law_33 (by omega) (by omega) (by rw [qc7]; rfl) rfl ?_
      refine ea_aload_n (pc := 424) dL_law_424 rfl 1 rfl ?_
      refine ea_aload_nO (pc := 425) dL_law_425 rfl 0 rfl ?_
      refine ea_iload_n (pc := 426) dL_law_426 rfl 3 rfl ?_
      refine ea_iconst (pc := 427) dL_law_427 (v := 1) rfl ?_
      refine ea_iadd (pc := 428) dL_law_428 ?_
      obtain ⟨z119, H⟩ := H
      refine ea_sld (pc := 429) dL_law_429 z119 ?_
      refine ea_aload_nO (pc := 430) dL_law_430 rfl 0 rfl ?_
      refine ea_iload_n (pc := 431) dL_law_431 rfl 3 rfl ?_
      refine ea_iconst (pc := 432) dL_law_432 (v := 2) rfl ?_
      refine ea_iadd (pc := 433) dL_law_433 ?_
      obtain ⟨z120, H⟩ := H
      refine ea_sld (pc := 434) dL_law_434 z120 ?_
      refine ea_aload_nO (pc := 435) dL_law_435 rfl 0 rfl ?_
      refine ea_iload_n (pc := 436) dL_law_436 rfl 3 rfl ?_
      refine ea_iconst (pc := 437) dL_law_437 (v := 3) rfl ?_
      refine ea_iadd (pc := 438) dL_law_438 ?_
      obtain ⟨z121, H⟩ := H
      refine ea_sld (pc := 439) dL_law_439 z121 ?_
      obtain ⟨a128, e129, f126, g127, H⟩ := H
      refine ea_deref3 e129 ?_
      obtain ⟨d122, xc130, h123, m124, q125, H⟩ := H
      refine ea_callV (pc := 440) (As := [vI ((ea_q h).2 (Int32.toNatClampNeg (x3 + (1 : Int32)))), vI ((ea_q h).2 (Int32.toNatClampNeg (x3 + (2 : Int32)))), vI ((ea_q h).2 (Int32.toNatClampNeg (x3 + (3 : Int32))))]) (st := []) dL_law_440 kX11_late m124 q125 rfl (Nat.le_of_ble_eq_true rfl) ew_534 ew_535 ew_536 (ci := 11) rfl (by decide) f126 g127 ?_
      refine ea_aload_n (pc := 443) dL_law_443 rfl 2 rfl ?_
      refine ea_aload_nO (pc := 444) dL_law_444 rfl 0 rfl ?_
      refine ea_iload_n (pc := 445) dL_law_445 rfl 3 rfl ?_
      refine ea_iconst (pc := 446) dL_law_446 (v := 1) rfl ?_
      refine ea_iadd (pc := 447) dL_law_447 ?_
      obtain ⟨z131, H⟩ := H
      refine ea_sld (pc := 448) dL_law_448 z131 ?_
      refine ea_aload_nO (pc := 449) dL_law_449 rfl 0 rfl ?_
      refine ea_iload_n (pc := 450) dL_law_450 rfl 3 rfl ?_
      refine ea_iconst (pc := 451) dL_law_451 (v := 2) rfl ?_
      refine ea_iadd (pc := 452) dL_law_452 ?_
      obtain ⟨z132, H⟩ := H
      refine ea_sld (pc := 453) dL_law_453 z132 ?_
      refine ea_aload_nO (pc := 454) dL_law_454 rfl 0 rfl ?_
      refine ea_iload_n (pc := 455) dL_law_455 rfl 3 rfl ?_
      refine ea_iconst (pc := 456) dL_law_456 (v := 3) rfl ?_
      refine ea_iadd (pc := 457) dL_law_457 ?_
      obtain ⟨z133, H⟩ := H
      refine ea_sld (pc := 458) dL_law_458 z133 ?_
      obtain ⟨a140, e141, f138, g139, H⟩ := H
      refine ea_deref3 e141 ?_
      obtain ⟨d134, xc142, h135, m136, q137, H⟩ := H
      refine ea_callV (pc := 459) (As := [vI ((ea_q h123).2 (Int32.toNatClampNeg (x3 + (1 : Int32)))), vI ((ea_q h123).2 (Int32.toNatClampNeg (x3 + (2 : Int32)))), vI ((ea_q h123).2 (Int32.toNatClampNeg (x3 + (3 : Int32))))]) (st := [vI xc130]) dL_law_459 kX12_late m136 q137 rfl (Nat.le_of_ble_eq_true rfl) ew_1744 ew_1745 ew_1746 (ci := 12) rfl (by decide) f138 g139 ?_
      refine ea_icmp_eq (pc := 462) (tgt := 1574) dL_law_462 rfl (fun c143 => ?_) (fun c143 => ?_)
      · have H := H.1 c143
        refine ea_iinc (pc := 1574) (v := 7) (lv' := [(0, vO 0), (1, vR r1), (2, vR r2), (3, vI (x3 + 7))]) dL_law_1574 3 rfl rfl (Nat.le_of_ble_eq_true rfl) [1, 2, 3, 0] rfl ?_
        refine ea_goto (pc := 1577) (tgt := 18) dL_law_1577 rfl ?_
        exact H
      · have H := H.2 c143
        refine ea_iconst (pc := 465) dL_law_465 (v := 0) rfl ?_
        obtain ⟨rfl, rfl⟩ := H
        exact ea_ireturn (pc := 466) dL_law_466 rfl (ea_bn (Or.inl rfl))
    by_cases qc8 : Int32.toInt (((ea_q h).2 (Int32.toNatClampNeg x3)) &&& (63 : Int32)) = 7
    · have H := H.2.2.2.2.2.2.2.1 qc8
      refine ea_tswIn (pc := 33) (tgt := 467) dL_law_33 (by omega) (by omega) (by rw [qc8]; rfl) rfl ?_
      refine ea_aload_n (pc := 467) dL_law_467 rfl 1 rfl ?_
      refine ea_aload_nO (pc := 468) dL_law_468 rfl 0 rfl ?_
      refine ea_iload_n (pc := 469) dL_law_469 rfl 3 rfl ?_
      refine ea_iconst (pc := 470) dL_law_470 (v := 1) rfl ?_
      refine ea_iadd (pc := 471) dL_law_471 ?_
      obtain ⟨z144, H⟩ := H
      refine ea_sld (pc := 472) dL_law_472 z144 ?_
      refine ea_aload_nO (pc := 473) dL_law_473 rfl 0 rfl ?_
      refine ea_iload_n (pc := 474) dL_law_474 rfl 3 rfl ?_
      refine ea_iconst (pc := 475) dL_law_475 (v := 2) rfl ?_
      refine ea_iadd (pc := 476) dL_law_476 ?_
      obtain ⟨z145, H⟩ := H
      refine ea_sld (pc := 477) dL_law_477 z145 ?_
      refine ea_aload_nO (pc := 478) dL_law_478 rfl 0 rfl ?_
      refine ea_iload_n (pc := 479) dL_law_479 rfl 3 rfl ?_
      refine ea_iconst (pc := 480) dL_law_480 (v := 3) rfl ?_
      refine ea_iadd (pc := 481) dL_law_481 ?_
      obtain ⟨z146, H⟩ := H
      refine ea_sld (pc := 482) dL_law_482 z146 ?_
      obtain ⟨a153, e154, f151, g152, H⟩ := H
      refine ea_deref3 e154 ?_
      obtain ⟨d147, xc155, h148, m149, q150, H⟩ := H
      refine ea_callV (pc := 483) (As := [vI ((ea_q h).2 (Int32.toNatClampNeg (x3 + (1 : Int32)))), vI ((ea_q h).2 (Int32.toNatClampNeg (x3 + (2 : Int32)))), vI ((ea_q h).2 (Int32.toNatClampNeg (x3 + (3 : Int32))))]) (st := []) dL_law_483 kX11_miss m149 q150 rfl (Nat.le_of_ble_eq_true rfl) ew_547 ew_548 ew_549 (ci := 11) rfl (by decide) f151 g152 ?_
      refine ea_aload_n (pc := 486) dL_law_486 rfl 2 rfl ?_
      refine ea_aload_nO (pc := 487) dL_law_487 rfl 0 rfl ?_
      refine ea_iload_n (pc := 488) dL_law_488 rfl 3 rfl ?_
      refine ea_iconst (pc := 489) dL_law_489 (v := 1) rfl ?_
      refine ea_iadd (pc := 490) dL_law_490 ?_
      obtain ⟨z156, H⟩ := H
      refine ea_sld (pc := 491) dL_law_491 z156 ?_
      refine ea_aload_nO (pc := 492) dL_law_492 rfl 0 rfl ?_
      refine ea_iload_n (pc := 493) dL_law_493 rfl 3 rfl ?_
      refine ea_iconst (pc := 494) dL_law_494 (v := 2) rfl ?_
      refine ea_iadd (pc := 495) dL_law_495 ?_
      obtain ⟨z157, H⟩ := H
      refine ea_sld (pc := 496) dL_law_496 z157 ?_
      refine ea_aload_nO (pc := 497) dL_law_497 rfl 0 rfl ?_
      refine ea_iload_n (pc := 498) dL_law_498 rfl 3 rfl ?_
      refine ea_iconst (pc := 499) dL_law_499 (v := 3) rfl ?_
      refine ea_iadd (pc := 500) dL_law_500 ?_
      obtain ⟨z158, H⟩ := H
      refine ea_sld (pc := 501) dL_law_501 z158 ?_
      obtain ⟨a165, e166, f163, g164, H⟩ := H
      refine ea_deref3 e166 ?_
      obtain ⟨d159, xc167, h160, m161, q162, H⟩ := H
      refine ea_callV (pc := 502) (As := [vI ((ea_q h148).2 (Int32.toNatClampNeg (x3 + (1 : Int32)))), vI ((ea_q h148).2 (Int32.toNatClampNeg (x3 + (2 : Int32)))), vI ((ea_q h148).2 (Int32.toNatClampNeg (x3 + (3 : Int32))))]) (st := [vI xc155]) dL_law_502 kX12_miss m161 q162 rfl (Nat.le_of_ble_eq_true rfl) ew_1758 ew_1759 ew_1760 (ci := 12) rfl (by decide) f163 g164 ?_
      refine ea_icmp_eq (pc := 505) (tgt := 1574) dL_law_505 rfl (fun c168 => ?_) (fun c168 => ?_)
      · have H := H.1 c168
        refine ea_iinc (pc := 1574) (v := 7) (lv' := [(0, vO 0), (1, vR r1), (2, vR r2), (3, vI (x3 + 7))]) dL_law_1574 3 rfl rfl (Nat.le_of_ble_eq_true rfl) [1, 2, 3, 0] rfl ?_
        refine ea_goto (pc := 1577) (tgt := 18) dL_law_1577 rfl ?_
        exact H
      · have H := H.2 c168
        refine ea_iconst (pc := 508) dL_law_508 (v := 0) rfl ?_
        obtain ⟨rfl, rfl⟩ := H
        exact ea_ireturn (pc := 509) dL_law_509 rfl (ea_bn (Or.inl rfl))
    by_cases qc9 : Int32.toInt (((ea_q h).2 (Int32.toNatClampNeg x3)) &&& (63 : Int32)) = 8
    · have H := H.2.2.2.2.2.2.2.2.1 qc9
      refine ea_tswIn (pc := 33) (tgt := 510) dL_law_33 (by omega) (by omega) (by rw [qc9]; rfl) rfl ?_
      refine ea_aload_n (pc := 510) dL_law_510 rfl 1 rfl ?_
      refine ea_aload_nO (pc := 511) dL_law_511 rfl 0 rfl ?_
      refine ea_iload_n (pc := 512) dL_law_512 rfl 3 rfl ?_
      refine ea_iconst (pc := 513) dL_law_513 (v := 1) rfl ?_
      refine ea_iadd (pc := 514) dL_law_514 ?_
      obtain ⟨z169, H⟩ := H
      refine ea_sld (pc := 515) dL_law_515 z169 ?_
      obtain ⟨a176, e177, f174, g175, H⟩ := H
      refine ea_deref1 e177 ?_
      obtain ⟨d170, xc178, h171, m172, q173, H⟩ := H
      refine ea_callV (pc := 516) (As := [vI ((ea_q h).2 (Int32.toNatClampNeg (x3 + (1 : Int32))))]) (st := []) dL_law_516 kX11_minutes m172 q173 rfl (Nat.le_of_ble_eq_true rfl) ew_555 ew_556 ew_557 (ci := 11) rfl (by decide) f174 g175 ?_
      refine ea_aload_n (pc := 519) dL_law_519 rfl 2 rfl ?_
      refine ea_aload_nO (pc := 520) dL_law_520 rfl 0 rfl ?_
      refine ea_iload_n (pc := 521) dL_law_521 rfl 3 rfl ?_
      refine ea_iconst (pc := 522) dL_law_522 (v := 1) rfl ?_
      refine ea_iadd (pc := 523) dL_law_523 ?_
      obtain ⟨z179, H⟩ := H
      refine ea_sld (pc := 524) dL_law_524 z179 ?_
      obtain ⟨a186, e187, f184, g185, H⟩ := H
      refine ea_deref1 e187 ?_
      obtain ⟨d180, xc188, h181, m182, q183, H⟩ := H
      refine ea_callV (pc := 525) (As := [vI ((ea_q h171).2 (Int32.toNatClampNeg (x3 + (1 : Int32))))]) (st := [vI xc178]) dL_law_525 kX12_minutes m182 q183 rfl (Nat.le_of_ble_eq_true rfl) ew_2051 ew_2052 ew_2053 (ci := 12) rfl (by decide) f184 g185 ?_
      refine ea_icmp_eq (pc := 528) (tgt := 1574) dL_law_528 rfl (fun c189 => ?_) (fun c189 => ?_)
      · have H := H.1 c189
        refine ea_iinc (pc := 1574) (v := 7) (lv' := [(0, vO 0), (1, vR r1), (2, vR r2), (3, vI (x3 + 7))]) dL_law_1574 3 rfl rfl (Nat.le_of_ble_eq_true rfl) [1, 2, 3, 0] rfl ?_
        refine ea_goto (pc := 1577) (tgt := 18) dL_law_1577 rfl ?_
        exact H
      · have H := H.2 c189
        refine ea_iconst (pc := 531) dL_law_531 (v := 0) rfl ?_
        obtain ⟨rfl, rfl⟩ := H
        exact ea_ireturn (pc := 532) dL_law_532 rfl (ea_bn (Or.inl rfl))
    by_cases qc10 : Int32.toInt (((ea_q h).2 (Int32.toNatClampNeg x3)) &&& (63 : Int32)) = 9
    · have H := H.2.2.2.2.2.2.2.2.2.1 qc10
      refine ea_tswIn (pc := 33) (tgt := 533) dL_law_33 (by omega) (by omega) (by rw [qc10]; rfl) rfl ?_
      refine ea_aload_n (pc := 533) dL_law_533 rfl 1 rfl ?_
      refine ea_aload_nO (pc := 534) dL_law_534 rfl 0 rfl ?_
      refine ea_iload_n (pc := 535) dL_law_535 rfl 3 rfl ?_
      refine ea_iconst (pc := 536) dL_law_536 (v := 1) rfl ?_
      refine ea_iadd (pc := 537) dL_law_537 ?_
      obtain ⟨z190, H⟩ := H
      refine ea_sld (pc := 538) dL_law_538 z190 ?_
      obtain ⟨a197, e198, f195, g196, H⟩ := H
      refine ea_deref1 e198 ?_
      obtain ⟨d191, xc199, h192, m193, q194, H⟩ := H
      refine ea_callV (pc := 539) (As := [vI ((ea_q h).2 (Int32.toNatClampNeg (x3 + (1 : Int32))))]) (st := []) dL_law_539 kX11_look m193 q194 rfl (Nat.le_of_ble_eq_true rfl) ew_721 ew_722 ew_723 (ci := 11) rfl (by decide) f195 g196 ?_
      refine ea_aload_n (pc := 542) dL_law_542 rfl 2 rfl ?_
      refine ea_aload_nO (pc := 543) dL_law_543 rfl 0 rfl ?_
      refine ea_iload_n (pc := 544) dL_law_544 rfl 3 rfl ?_
      refine ea_iconst (pc := 545) dL_law_545 (v := 1) rfl ?_
      refine ea_iadd (pc := 546) dL_law_546 ?_
      obtain ⟨z200, H⟩ := H
      refine ea_sld (pc := 547) dL_law_547 z200 ?_
      obtain ⟨a207, e208, f205, g206, H⟩ := H
      refine ea_deref1 e208 ?_
      obtain ⟨d201, xc209, h202, m203, q204, H⟩ := H
      refine ea_callV (pc := 548) (As := [vI ((ea_q h192).2 (Int32.toNatClampNeg (x3 + (1 : Int32))))]) (st := [vI xc199]) dL_law_548 kX12_look m203 q204 rfl (Nat.le_of_ble_eq_true rfl) ew_2086 ew_2087 ew_2088 (ci := 12) rfl (by decide) f205 g206 ?_
      refine ea_icmp_eq (pc := 551) (tgt := 1574) dL_law_551 rfl (fun c210 => ?_) (fun c210 => ?_)
      · have H := H.1 c210
        refine ea_iinc (pc := 1574) (v := 7) (lv' := [(0, vO 0), (1, vR r1), (2, vR r2), (3, vI (x3 + 7))]) dL_law_1574 3 rfl rfl (Nat.le_of_ble_eq_true rfl) [1, 2, 3, 0] rfl ?_
        refine ea_goto (pc := 1577) (tgt := 18) dL_law_1577 rfl ?_
        exact H
      · have H := H.2 c210
        refine ea_iconst (pc := 554) dL_law_554 (v := 0) rfl ?_
        obtain ⟨rfl, rfl⟩ := H
        exact ea_ireturn (pc := 555) dL_law_555 rfl (ea_bn (Or.inl rfl))
    by_cases qc11 : Int32.toInt (((ea_q h).2 (Int32.toNatClampNeg x3)) &&& (63 : Int32)) = 10
    · have H := H.2.2.2.2.2.2.2.2.2.2.1 qc11
      refine ea_tswIn (pc := 33) (tgt := 556) dL_law_33 (by omega) (by omega) (by rw [qc11]; rfl) rfl ?_
      refine ea_aload_n (pc := 556) dL_law_556 rfl 1 rfl ?_
      refine ea_aload_nO (pc := 557) dL_law_557 rfl 0 rfl ?_
      refine ea_iload_n (pc := 558) dL_law_558 rfl 3 rfl ?_
      refine ea_iconst (pc := 559) dL_law_559 (v := 1) rfl ?_
      refine ea_iadd (pc := 560) dL_law_560 ?_
      obtain ⟨z211, H⟩ := H
      refine ea_sld (pc := 561) dL_law_561 z211 ?_
      refine ea_aload_nO (pc := 562) dL_law_562 rfl 0 rfl ?_
      refine ea_iload_n (pc := 563) dL_law_563 rfl 3 rfl ?_
      refine ea_iconst (pc := 564) dL_law_564 (v := 2) rfl ?_
      refine ea_iadd (pc := 565) dL_law_565 ?_
      obtain ⟨z212, H⟩ := H
      refine ea_sld (pc := 566) dL_law_566 z212 ?_
      refine ea_aload_nO (pc := 567) dL_law_567 rfl 0 rfl ?_
      refine ea_iload_n (pc := 568) dL_law_568 rfl 3 rfl ?_
      refine ea_iconst (pc := 569) dL_law_569 (v := 3) rfl ?_
      refine ea_iadd (pc := 570) dL_law_570 ?_
      obtain ⟨z213, H⟩ := H
      refine ea_sld (pc := 571) dL_law_571 z213 ?_
      refine ea_aload_nO (pc := 572) dL_law_572 rfl 0 rfl ?_
      refine ea_iload_n (pc := 573) dL_law_573 rfl 3 rfl ?_
      refine ea_iconst (pc := 574) dL_law_574 (v := 4) rfl ?_
      refine ea_iadd (pc := 575) dL_law_575 ?_
      obtain ⟨z214, H⟩ := H
      refine ea_sld (pc := 576) dL_law_576 z214 ?_
      refine ea_aload_nO (pc := 577) dL_law_577 rfl 0 rfl ?_
      refine ea_iload_n (pc := 578) dL_law_578 rfl 3 rfl ?_
      refine ea_iconst (pc := 579) dL_law_579 (v := 5) rfl ?_
      refine ea_iadd (pc := 580) dL_law_580 ?_
      obtain ⟨z215, H⟩ := H
      refine ea_sld (pc := 581) dL_law_581 z215 ?_
      obtain ⟨a222, e223, f220, g221, H⟩ := H
      refine ea_deref5 e223 ?_
      obtain ⟨d216, xc224, h217, m218, q219, H⟩ := H
      refine ea_callV (pc := 582) (As := [vI ((ea_q h).2 (Int32.toNatClampNeg (x3 + (1 : Int32)))), vI ((ea_q h).2 (Int32.toNatClampNeg (x3 + (2 : Int32)))), vI ((ea_q h).2 (Int32.toNatClampNeg (x3 + (3 : Int32)))), vI ((ea_q h).2 (Int32.toNatClampNeg (x3 + (4 : Int32)))), vI ((ea_q h).2 (Int32.toNatClampNeg (x3 + (5 : Int32))))]) (st := []) dL_law_582 kX11_feed m218 q219 rfl (Nat.le_of_ble_eq_true rfl) ew_729 ew_730 ew_731 (ci := 11) rfl (by decide) f220 g221 ?_
      refine ea_aload_n (pc := 585) dL_law_585 rfl 2 rfl ?_
      refine ea_aload_nO (pc := 586) dL_law_586 rfl 0 rfl ?_
      refine ea_iload_n (pc := 587) dL_law_587 rfl 3 rfl ?_
      refine ea_iconst (pc := 588) dL_law_588 (v := 1) rfl ?_
      refine ea_iadd (pc := 589) dL_law_589 ?_
      obtain ⟨z225, H⟩ := H
      refine ea_sld (pc := 590) dL_law_590 z225 ?_
      refine ea_aload_nO (pc := 591) dL_law_591 rfl 0 rfl ?_
      refine ea_iload_n (pc := 592) dL_law_592 rfl 3 rfl ?_
      refine ea_iconst (pc := 593) dL_law_593 (v := 2) rfl ?_
      refine ea_iadd (pc := 594) dL_law_594 ?_
      obtain ⟨z226, H⟩ := H
      refine ea_sld (pc := 595) dL_law_595 z226 ?_
      refine ea_aload_nO (pc := 596) dL_law_596 rfl 0 rfl ?_
      refine ea_iload_n (pc := 597) dL_law_597 rfl 3 rfl ?_
      refine ea_iconst (pc := 598) dL_law_598 (v := 3) rfl ?_
      refine ea_iadd (pc := 599) dL_law_599 ?_
      obtain ⟨z227, H⟩ := H
      refine ea_sld (pc := 600) dL_law_600 z227 ?_
      refine ea_aload_nO (pc := 601) dL_law_601 rfl 0 rfl ?_
      refine ea_iload_n (pc := 602) dL_law_602 rfl 3 rfl ?_
      refine ea_iconst (pc := 603) dL_law_603 (v := 4) rfl ?_
      refine ea_iadd (pc := 604) dL_law_604 ?_
      obtain ⟨z228, H⟩ := H
      refine ea_sld (pc := 605) dL_law_605 z228 ?_
      refine ea_aload_nO (pc := 606) dL_law_606 rfl 0 rfl ?_
      refine ea_iload_n (pc := 607) dL_law_607 rfl 3 rfl ?_
      refine ea_iconst (pc := 608) dL_law_608 (v := 5) rfl ?_
      refine ea_iadd (pc := 609) dL_law_609 ?_
      obtain ⟨z229, H⟩ := H
      refine ea_sld (pc := 610) dL_law_610 z229 ?_
      obtain ⟨a236, e237, f234, g235, H⟩ := H
      refine ea_deref5 e237 ?_
      obtain ⟨d230, xc238, h231, m232, q233, H⟩ := H
      refine ea_callV (pc := 611) (As := [vI ((ea_q h217).2 (Int32.toNatClampNeg (x3 + (1 : Int32)))), vI ((ea_q h217).2 (Int32.toNatClampNeg (x3 + (2 : Int32)))), vI ((ea_q h217).2 (Int32.toNatClampNeg (x3 + (3 : Int32)))), vI ((ea_q h217).2 (Int32.toNatClampNeg (x3 + (4 : Int32)))), vI ((ea_q h217).2 (Int32.toNatClampNeg (x3 + (5 : Int32))))]) (st := [vI xc224]) dL_law_611 kX12_feed m232 q233 rfl (Nat.le_of_ble_eq_true rfl) ew_1810 ew_1811 ew_1812 (ci := 12) rfl (by decide) f234 g235 ?_
      refine ea_icmp_eq (pc := 614) (tgt := 1574) dL_law_614 rfl (fun c239 => ?_) (fun c239 => ?_)
      · have H := H.1 c239
        refine ea_iinc (pc := 1574) (v := 7) (lv' := [(0, vO 0), (1, vR r1), (2, vR r2), (3, vI (x3 + 7))]) dL_law_1574 3 rfl rfl (Nat.le_of_ble_eq_true rfl) [1, 2, 3, 0] rfl ?_
        refine ea_goto (pc := 1577) (tgt := 18) dL_law_1577 rfl ?_
        exact H
      · have H := H.2 c239
        refine ea_iconst (pc := 617) dL_law_617 (v := 0) rfl ?_
        obtain ⟨rfl, rfl⟩ := H
        exact ea_ireturn (pc := 618) dL_law_618 rfl (ea_bn (Or.inl rfl))
    by_cases qc12 : Int32.toInt (((ea_q h).2 (Int32.toNatClampNeg x3)) &&& (63 : Int32)) = 11
    · have H := H.2.2.2.2.2.2.2.2.2.2.2.1 qc12
      refine ea_tswIn (pc := 33) (tgt := 619) dL_law_33 (by omega) (by omega) (by rw [qc12]; rfl) rfl ?_
      refine ea_aload_n (pc := 619) dL_law_619 rfl 1 rfl ?_
      refine ea_aload_nO (pc := 620) dL_law_620 rfl 0 rfl ?_
      refine ea_iload_n (pc := 621) dL_law_621 rfl 3 rfl ?_
      refine ea_iconst (pc := 622) dL_law_622 (v := 1) rfl ?_
      refine ea_iadd (pc := 623) dL_law_623 ?_
      obtain ⟨z240, H⟩ := H
      refine ea_sld (pc := 624) dL_law_624 z240 ?_
      obtain ⟨a247, e248, f245, g246, H⟩ := H
      refine ea_deref1 e248 ?_
      obtain ⟨d241, xc249, h242, m243, q244, H⟩ := H
      refine ea_callV (pc := 625) (As := [vI ((ea_q h).2 (Int32.toNatClampNeg (x3 + (1 : Int32))))]) (st := []) dL_law_625 kX11_end m243 q244 rfl (Nat.le_of_ble_eq_true rfl) ew_737 ew_738 ew_739 (ci := 11) rfl (by decide) f245 g246 ?_
      refine ea_aload_n (pc := 628) dL_law_628 rfl 2 rfl ?_
      refine ea_aload_nO (pc := 629) dL_law_629 rfl 0 rfl ?_
      refine ea_iload_n (pc := 630) dL_law_630 rfl 3 rfl ?_
      refine ea_iconst (pc := 631) dL_law_631 (v := 1) rfl ?_
      refine ea_iadd (pc := 632) dL_law_632 ?_
      obtain ⟨z250, H⟩ := H
      refine ea_sld (pc := 633) dL_law_633 z250 ?_
      obtain ⟨a257, e258, f255, g256, H⟩ := H
      refine ea_deref1 e258 ?_
      obtain ⟨d251, xc259, h252, m253, q254, H⟩ := H
      refine ea_callV (pc := 634) (As := [vI ((ea_q h242).2 (Int32.toNatClampNeg (x3 + (1 : Int32))))]) (st := [vI xc249]) dL_law_634 kX12_end m253 q254 rfl (Nat.le_of_ble_eq_true rfl) ew_1814 ew_1815 ew_1816 (ci := 12) rfl (by decide) f255 g256 ?_
      refine ea_icmp_eq (pc := 637) (tgt := 1574) dL_law_637 rfl (fun c260 => ?_) (fun c260 => ?_)
      · have H := H.1 c260
        refine ea_iinc (pc := 1574) (v := 7) (lv' := [(0, vO 0), (1, vR r1), (2, vR r2), (3, vI (x3 + 7))]) dL_law_1574 3 rfl rfl (Nat.le_of_ble_eq_true rfl) [1, 2, 3, 0] rfl ?_
        refine ea_goto (pc := 1577) (tgt := 18) dL_law_1577 rfl ?_
        exact H
      · have H := H.2 c260
        refine ea_iconst (pc := 640) dL_law_640 (v := 0) rfl ?_
        obtain ⟨rfl, rfl⟩ := H
        exact ea_ireturn (pc := 641) dL_law_641 rfl (ea_bn (Or.inl rfl))
    by_cases qc13 : Int32.toInt (((ea_q h).2 (Int32.toNatClampNeg x3)) &&& (63 : Int32)) = 12
    · have H := H.2.2.2.2.2.2.2.2.2.2.2.2.1 qc13
      refine ea_tswIn (pc := 33) (tgt := 642) dL_law_33 (by omega) (by omega) (by rw [qc13]; rfl) rfl ?_
      refine ea_aload_n (pc := 642) dL_law_642 rfl 1 rfl ?_
      refine ea_aload_nO (pc := 643) dL_law_643 rfl 0 rfl ?_
      refine ea_iload_n (pc := 644) dL_law_644 rfl 3 rfl ?_
      refine ea_iconst (pc := 645) dL_law_645 (v := 1) rfl ?_
      refine ea_iadd (pc := 646) dL_law_646 ?_
      obtain ⟨z261, H⟩ := H
      refine ea_sld (pc := 647) dL_law_647 z261 ?_
      obtain ⟨a268, e269, f266, g267, H⟩ := H
      refine ea_deref1 e269 ?_
      obtain ⟨d262, xc270, h263, m264, q265, H⟩ := H
      refine ea_callV (pc := 648) (As := [vI ((ea_q h).2 (Int32.toNatClampNeg (x3 + (1 : Int32))))]) (st := []) dL_law_648 kX11_act m264 q265 rfl (Nat.le_of_ble_eq_true rfl) ew_741 ew_742 ew_743 (ci := 11) rfl (by decide) f266 g267 ?_
      refine ea_aload_n (pc := 651) dL_law_651 rfl 2 rfl ?_
      refine ea_aload_nO (pc := 652) dL_law_652 rfl 0 rfl ?_
      refine ea_iload_n (pc := 653) dL_law_653 rfl 3 rfl ?_
      refine ea_iconst (pc := 654) dL_law_654 (v := 1) rfl ?_
      refine ea_iadd (pc := 655) dL_law_655 ?_
      obtain ⟨z271, H⟩ := H
      refine ea_sld (pc := 656) dL_law_656 z271 ?_
      obtain ⟨a278, e279, f276, g277, H⟩ := H
      refine ea_deref1 e279 ?_
      obtain ⟨d272, xc280, h273, m274, q275, H⟩ := H
      refine ea_callV (pc := 657) (As := [vI ((ea_q h263).2 (Int32.toNatClampNeg (x3 + (1 : Int32))))]) (st := [vI xc270]) dL_law_657 kX12_act m274 q275 rfl (Nat.le_of_ble_eq_true rfl) ew_1818 ew_1819 ew_1820 (ci := 12) rfl (by decide) f276 g277 ?_
      refine ea_icmp_eq (pc := 660) (tgt := 1574) dL_law_660 rfl (fun c281 => ?_) (fun c281 => ?_)
      · have H := H.1 c281
        refine ea_iinc (pc := 1574) (v := 7) (lv' := [(0, vO 0), (1, vR r1), (2, vR r2), (3, vI (x3 + 7))]) dL_law_1574 3 rfl rfl (Nat.le_of_ble_eq_true rfl) [1, 2, 3, 0] rfl ?_
        refine ea_goto (pc := 1577) (tgt := 18) dL_law_1577 rfl ?_
        exact H
      · have H := H.2 c281
        refine ea_iconst (pc := 663) dL_law_663 (v := 0) rfl ?_
        obtain ⟨rfl, rfl⟩ := H
        exact ea_ireturn (pc := 664) dL_law_664 rfl (ea_bn (Or.inl rfl))
    by_cases qc14 : Int32.toInt (((ea_q h).2 (Int32.toNatClampNeg x3)) &&& (63 : Int32)) = 13
    · have H := H.2.2.2.2.2.2.2.2.2.2.2.2.2.1 qc14
      refine ea_tswIn (pc := 33) (tgt := 665) dL_law_33 (by omega) (by omega) (by rw [qc14]; rfl) rfl ?_
      refine ea_aload_n (pc := 665) dL_law_665 rfl 1 rfl ?_
      refine ea_aload_nO (pc := 666) dL_law_666 rfl 0 rfl ?_
      refine ea_iload_n (pc := 667) dL_law_667 rfl 3 rfl ?_
      refine ea_iconst (pc := 668) dL_law_668 (v := 1) rfl ?_
      refine ea_iadd (pc := 669) dL_law_669 ?_
      obtain ⟨z282, H⟩ := H
      refine ea_sld (pc := 670) dL_law_670 z282 ?_
      obtain ⟨a289, e290, f287, g288, H⟩ := H
      refine ea_deref1 e290 ?_
      obtain ⟨d283, xc291, h284, m285, q286, H⟩ := H
      refine ea_callV (pc := 671) (As := [vI ((ea_q h).2 (Int32.toNatClampNeg (x3 + (1 : Int32))))]) (st := []) dL_law_671 kX11_fault m285 q286 rfl (Nat.le_of_ble_eq_true rfl) ew_908 ew_909 ew_910 (ci := 11) rfl (by decide) f287 g288 ?_
      refine ea_aload_n (pc := 674) dL_law_674 rfl 2 rfl ?_
      refine ea_aload_nO (pc := 675) dL_law_675 rfl 0 rfl ?_
      refine ea_iload_n (pc := 676) dL_law_676 rfl 3 rfl ?_
      refine ea_iconst (pc := 677) dL_law_677 (v := 1) rfl ?_
      refine ea_iadd (pc := 678) dL_law_678 ?_
      obtain ⟨z292, H⟩ := H
      refine ea_sld (pc := 679) dL_law_679 z292 ?_
      obtain ⟨a299, e300, f297, g298, H⟩ := H
      refine ea_deref1 e300 ?_
      obtain ⟨d293, xc301, h294, m295, q296, H⟩ := H
      refine ea_callV (pc := 680) (As := [vI ((ea_q h284).2 (Int32.toNatClampNeg (x3 + (1 : Int32))))]) (st := [vI xc291]) dL_law_680 kX12_fault m295 q296 rfl (Nat.le_of_ble_eq_true rfl) ew_1967 ew_1968 ew_1969 (ci := 12) rfl (by decide) f297 g298 ?_
      refine ea_icmp_eq (pc := 683) (tgt := 1574) dL_law_683 rfl (fun c302 => ?_) (fun c302 => ?_)
      · have H := H.1 c302
        refine ea_iinc (pc := 1574) (v := 7) (lv' := [(0, vO 0), (1, vR r1), (2, vR r2), (3, vI (x3 + 7))]) dL_law_1574 3 rfl rfl (Nat.le_of_ble_eq_true rfl) [1, 2, 3, 0] rfl ?_
        refine ea_goto (pc := 1577) (tgt := 18) dL_law_1577 rfl ?_
        exact H
      · have H := H.2 c302
        refine ea_iconst (pc := 686) dL_law_686 (v := 0) rfl ?_
        obtain ⟨rfl, rfl⟩ := H
        exact ea_ireturn (pc := 687) dL_law_687 rfl (ea_bn (Or.inl rfl))
    by_cases qc15 : Int32.toInt (((ea_q h).2 (Int32.toNatClampNeg x3)) &&& (63 : Int32)) = 14
    · have H := H.2.2.2.2.2.2.2.2.2.2.2.2.2.2.1 qc15
      refine ea_tswIn (pc := 33) (tgt := 688) dL_law_33 (by omega) (by omega) (by rw [qc15]; rfl) rfl ?_
      refine ea_aload_n (pc := 688) dL_law_688 rfl 1 rfl ?_
      refine ea_aload_nO (pc := 689) dL_law_689 rfl 0 rfl ?_
      refine ea_iload_n (pc := 690) dL_law_690 rfl 3 rfl ?_
      refine ea_iconst (pc := 691) dL_law_691 (v := 1) rfl ?_
      refine ea_iadd (pc := 692) dL_law_692 ?_
      obtain ⟨z303, H⟩ := H
      refine ea_sld (pc := 693) dL_law_693 z303 ?_
      refine ea_aload_nO (pc := 694) dL_law_694 rfl 0 rfl ?_
      refine ea_iload_n (pc := 695) dL_law_695 rfl 3 rfl ?_
      refine ea_iconst (pc := 696) dL_law_696 (v := 2) rfl ?_
      refine ea_iadd (pc := 697) dL_law_697 ?_
      obtain ⟨z304, H⟩ := H
      refine ea_sld (pc := 698) dL_law_698 z304 ?_
      obtain ⟨a311, e312, f309, g310, H⟩ := H
      refine ea_deref2 e312 ?_
      obtain ⟨d305, xc313, h306, m307, q308, H⟩ := H
      refine ea_callV (pc := 699) (As := [vI ((ea_q h).2 (Int32.toNatClampNeg (x3 + (1 : Int32)))), vI ((ea_q h).2 (Int32.toNatClampNeg (x3 + (2 : Int32))))]) (st := []) dL_law_699 kX11_inForce m307 q308 rfl (Nat.le_of_ble_eq_true rfl) ew_912 ew_913 ew_914 (ci := 11) rfl (by decide) f309 g310 ?_
      refine ea_aload_n (pc := 702) dL_law_702 rfl 2 rfl ?_
      refine ea_aload_nO (pc := 703) dL_law_703 rfl 0 rfl ?_
      refine ea_iload_n (pc := 704) dL_law_704 rfl 3 rfl ?_
      refine ea_iconst (pc := 705) dL_law_705 (v := 1) rfl ?_
      refine ea_iadd (pc := 706) dL_law_706 ?_
      obtain ⟨z314, H⟩ := H
      refine ea_sld (pc := 707) dL_law_707 z314 ?_
      refine ea_aload_nO (pc := 708) dL_law_708 rfl 0 rfl ?_
      refine ea_iload_n (pc := 709) dL_law_709 rfl 3 rfl ?_
      refine ea_iconst (pc := 710) dL_law_710 (v := 2) rfl ?_
      refine ea_iadd (pc := 711) dL_law_711 ?_
      obtain ⟨z315, H⟩ := H
      refine ea_sld (pc := 712) dL_law_712 z315 ?_
      obtain ⟨a322, e323, f320, g321, H⟩ := H
      refine ea_deref2 e323 ?_
      obtain ⟨d316, xc324, h317, m318, q319, H⟩ := H
      refine ea_callV (pc := 713) (As := [vI ((ea_q h306).2 (Int32.toNatClampNeg (x3 + (1 : Int32)))), vI ((ea_q h306).2 (Int32.toNatClampNeg (x3 + (2 : Int32))))]) (st := [vI xc313]) dL_law_713 kX12_inForce m318 q319 rfl (Nat.le_of_ble_eq_true rfl) ew_1971 ew_1972 ew_1973 (ci := 12) rfl (by decide) f320 g321 ?_
      refine ea_icmp_eq (pc := 716) (tgt := 1574) dL_law_716 rfl (fun c325 => ?_) (fun c325 => ?_)
      · have H := H.1 c325
        refine ea_iinc (pc := 1574) (v := 7) (lv' := [(0, vO 0), (1, vR r1), (2, vR r2), (3, vI (x3 + 7))]) dL_law_1574 3 rfl rfl (Nat.le_of_ble_eq_true rfl) [1, 2, 3, 0] rfl ?_
        refine ea_goto (pc := 1577) (tgt := 18) dL_law_1577 rfl ?_
        exact H
      · have H := H.2 c325
        refine ea_iconst (pc := 719) dL_law_719 (v := 0) rfl ?_
        obtain ⟨rfl, rfl⟩ := H
        exact ea_ireturn (pc := 720) dL_law_720 rfl (ea_bn (Or.inl rfl))
    by_cases qc16 : Int32.toInt (((ea_q h).2 (Int32.toNatClampNeg x3)) &&& (63 : Int32)) = 15
    · have H := H.2.2.2.2.2.2.2.2.2.2.2.2.2.2.2.1 qc16
      refine ea_tswIn (pc := 33) (tgt := 721) dL_law_33 (by omega) (by omega) (by rw [qc16]; rfl) rfl ?_
      refine ea_aload_n (pc := 721) dL_law_721 rfl 1 rfl ?_
      refine ea_aload_nO (pc := 722) dL_law_722 rfl 0 rfl ?_
      refine ea_iload_n (pc := 723) dL_law_723 rfl 3 rfl ?_
      refine ea_iconst (pc := 724) dL_law_724 (v := 1) rfl ?_
      refine ea_iadd (pc := 725) dL_law_725 ?_
      obtain ⟨z326, H⟩ := H
      refine ea_sld (pc := 726) dL_law_726 z326 ?_
      refine ea_aload_nO (pc := 727) dL_law_727 rfl 0 rfl ?_
      refine ea_iload_n (pc := 728) dL_law_728 rfl 3 rfl ?_
      refine ea_iconst (pc := 729) dL_law_729 (v := 2) rfl ?_
      refine ea_iadd (pc := 730) dL_law_730 ?_
      obtain ⟨z327, H⟩ := H
      refine ea_sld (pc := 731) dL_law_731 z327 ?_
      refine ea_aload_nO (pc := 732) dL_law_732 rfl 0 rfl ?_
      refine ea_iload_n (pc := 733) dL_law_733 rfl 3 rfl ?_
      refine ea_iconst (pc := 734) dL_law_734 (v := 3) rfl ?_
      refine ea_iadd (pc := 735) dL_law_735 ?_
      obtain ⟨z328, H⟩ := H
      refine ea_sld (pc := 736) dL_law_736 z328 ?_
      refine ea_aload_nO (pc := 737) dL_law_737 rfl 0 rfl ?_
      refine ea_iload_n (pc := 738) dL_law_738 rfl 3 rfl ?_
      refine ea_iconst (pc := 739) dL_law_739 (v := 4) rfl ?_
      refine ea_iadd (pc := 740) dL_law_740 ?_
      obtain ⟨z329, H⟩ := H
      refine ea_sld (pc := 741) dL_law_741 z329 ?_
      refine ea_aload_nO (pc := 742) dL_law_742 rfl 0 rfl ?_
      refine ea_iload_n (pc := 743) dL_law_743 rfl 3 rfl ?_
      refine ea_iconst (pc := 744) dL_law_744 (v := 5) rfl ?_
      refine ea_iadd (pc := 745) dL_law_745 ?_
      obtain ⟨z330, H⟩ := H
      refine ea_sld (pc := 746) dL_law_746 z330 ?_
      refine ea_aload_nO (pc := 747) dL_law_747 rfl 0 rfl ?_
      refine ea_iload_n (pc := 748) dL_law_748 rfl 3 rfl ?_
      refine ea_bipush (pc := 749) dL_law_749 (v := 6) rfl ?_
      refine ea_iadd (pc := 751) dL_law_751 ?_
      obtain ⟨z331, H⟩ := H
      refine ea_sld (pc := 752) dL_law_752 z331 ?_
      obtain ⟨a338, e339, f336, g337, H⟩ := H
      refine ea_deref6 e339 ?_
      obtain ⟨d332, xc340, h333, m334, q335, H⟩ := H
      refine ea_callV (pc := 753) (As := [vI ((ea_q h).2 (Int32.toNatClampNeg (x3 + (1 : Int32)))), vI ((ea_q h).2 (Int32.toNatClampNeg (x3 + (2 : Int32)))), vI ((ea_q h).2 (Int32.toNatClampNeg (x3 + (3 : Int32)))), vI ((ea_q h).2 (Int32.toNatClampNeg (x3 + (4 : Int32)))), vI ((ea_q h).2 (Int32.toNatClampNeg (x3 + (5 : Int32)))), vI ((ea_q h).2 (Int32.toNatClampNeg (x3 + (6 : Int32))))]) (st := []) dL_law_753 kX11_post m334 q335 rfl (Nat.le_of_ble_eq_true rfl) ew_924 ew_925 ew_926 (ci := 11) rfl (by decide) f336 g337 ?_
      refine ea_aload_n (pc := 756) dL_law_756 rfl 2 rfl ?_
      refine ea_aload_nO (pc := 757) dL_law_757 rfl 0 rfl ?_
      refine ea_iload_n (pc := 758) dL_law_758 rfl 3 rfl ?_
      refine ea_iconst (pc := 759) dL_law_759 (v := 1) rfl ?_
      refine ea_iadd (pc := 760) dL_law_760 ?_
      obtain ⟨z341, H⟩ := H
      refine ea_sld (pc := 761) dL_law_761 z341 ?_
      refine ea_aload_nO (pc := 762) dL_law_762 rfl 0 rfl ?_
      refine ea_iload_n (pc := 763) dL_law_763 rfl 3 rfl ?_
      refine ea_iconst (pc := 764) dL_law_764 (v := 2) rfl ?_
      refine ea_iadd (pc := 765) dL_law_765 ?_
      obtain ⟨z342, H⟩ := H
      refine ea_sld (pc := 766) dL_law_766 z342 ?_
      refine ea_aload_nO (pc := 767) dL_law_767 rfl 0 rfl ?_
      refine ea_iload_n (pc := 768) dL_law_768 rfl 3 rfl ?_
      refine ea_iconst (pc := 769) dL_law_769 (v := 3) rfl ?_
      refine ea_iadd (pc := 770) dL_law_770 ?_
      obtain ⟨z343, H⟩ := H
      refine ea_sld (pc := 771) dL_law_771 z343 ?_
      refine ea_aload_nO (pc := 772) dL_law_772 rfl 0 rfl ?_
      refine ea_iload_n (pc := 773) dL_law_773 rfl 3 rfl ?_
      refine ea_iconst (pc := 774) dL_law_774 (v := 4) rfl ?_
      refine ea_iadd (pc := 775) dL_law_775 ?_
      obtain ⟨z344, H⟩ := H
      refine ea_sld (pc := 776) dL_law_776 z344 ?_
      refine ea_aload_nO (pc := 777) dL_law_777 rfl 0 rfl ?_
      refine ea_iload_n (pc := 778) dL_law_778 rfl 3 rfl ?_
      refine ea_iconst (pc := 779) dL_law_779 (v := 5) rfl ?_
      refine ea_iadd (pc := 780) dL_law_780 ?_
      obtain ⟨z345, H⟩ := H
      refine ea_sld (pc := 781) dL_law_781 z345 ?_
      refine ea_aload_nO (pc := 782) dL_law_782 rfl 0 rfl ?_
      refine ea_iload_n (pc := 783) dL_law_783 rfl 3 rfl ?_
      refine ea_bipush (pc := 784) dL_law_784 (v := 6) rfl ?_
      refine ea_iadd (pc := 786) dL_law_786 ?_
      obtain ⟨z346, H⟩ := H
      refine ea_sld (pc := 787) dL_law_787 z346 ?_
      obtain ⟨a353, e354, f351, g352, H⟩ := H
      refine ea_deref6 e354 ?_
      obtain ⟨d347, xc355, h348, m349, q350, H⟩ := H
      refine ea_callV (pc := 788) (As := [vI ((ea_q h333).2 (Int32.toNatClampNeg (x3 + (1 : Int32)))), vI ((ea_q h333).2 (Int32.toNatClampNeg (x3 + (2 : Int32)))), vI ((ea_q h333).2 (Int32.toNatClampNeg (x3 + (3 : Int32)))), vI ((ea_q h333).2 (Int32.toNatClampNeg (x3 + (4 : Int32)))), vI ((ea_q h333).2 (Int32.toNatClampNeg (x3 + (5 : Int32)))), vI ((ea_q h333).2 (Int32.toNatClampNeg (x3 + (6 : Int32))))]) (st := [vI xc340]) dL_law_788 kX12_post m349 q350 rfl (Nat.le_of_ble_eq_true rfl) ew_1979 ew_1980 ew_1981 (ci := 12) rfl (by decide) f351 g352 ?_
      refine ea_icmp_eq (pc := 791) (tgt := 1574) dL_law_791 rfl (fun c356 => ?_) (fun c356 => ?_)
      · have H := H.1 c356
        refine ea_iinc (pc := 1574) (v := 7) (lv' := [(0, vO 0), (1, vR r1), (2, vR r2), (3, vI (x3 + 7))]) dL_law_1574 3 rfl rfl (Nat.le_of_ble_eq_true rfl) [1, 2, 3, 0] rfl ?_
        refine ea_goto (pc := 1577) (tgt := 18) dL_law_1577 rfl ?_
        exact H
      · have H := H.2 c356
        refine ea_iconst (pc := 794) dL_law_794 (v := 0) rfl ?_
        obtain ⟨rfl, rfl⟩ := H
        exact ea_ireturn (pc := 795) dL_law_795 rfl (ea_bn (Or.inl rfl))
    by_cases qc17 : Int32.toInt (((ea_q h).2 (Int32.toNatClampNeg x3)) &&& (63 : Int32)) = 16
    · have H := H.2.2.2.2.2.2.2.2.2.2.2.2.2.2.2.2.1 qc17
      refine ea_tswIn (pc := 33) (tgt := 796) dL_law_33 (by omega) (by omega) (by rw [qc17]; rfl) rfl ?_
      refine ea_aload_n (pc := 796) dL_law_796 rfl 1 rfl ?_
      refine ea_aload_nO (pc := 797) dL_law_797 rfl 0 rfl ?_
      refine ea_iload_n (pc := 798) dL_law_798 rfl 3 rfl ?_
      refine ea_iconst (pc := 799) dL_law_799 (v := 1) rfl ?_
      refine ea_iadd (pc := 800) dL_law_800 ?_
      obtain ⟨z357, H⟩ := H
      refine ea_sld (pc := 801) dL_law_801 z357 ?_
      refine ea_aload_nO (pc := 802) dL_law_802 rfl 0 rfl ?_
      refine ea_iload_n (pc := 803) dL_law_803 rfl 3 rfl ?_
      refine ea_iconst (pc := 804) dL_law_804 (v := 2) rfl ?_
      refine ea_iadd (pc := 805) dL_law_805 ?_
      obtain ⟨z358, H⟩ := H
      refine ea_sld (pc := 806) dL_law_806 z358 ?_
      obtain ⟨a365, e366, f363, g364, H⟩ := H
      refine ea_deref2 e366 ?_
      obtain ⟨d359, xc367, h360, m361, q362, H⟩ := H
      refine ea_callV (pc := 807) (As := [vI ((ea_q h).2 (Int32.toNatClampNeg (x3 + (1 : Int32)))), vI ((ea_q h).2 (Int32.toNatClampNeg (x3 + (2 : Int32))))]) (st := []) dL_law_807 kX11_of m361 q362 rfl (Nat.le_of_ble_eq_true rfl) ew_1072 ew_1073 ew_1074 (ci := 11) rfl (by decide) f363 g364 ?_
      refine ea_aload_n (pc := 810) dL_law_810 rfl 2 rfl ?_
      refine ea_aload_nO (pc := 811) dL_law_811 rfl 0 rfl ?_
      refine ea_iload_n (pc := 812) dL_law_812 rfl 3 rfl ?_
      refine ea_iconst (pc := 813) dL_law_813 (v := 1) rfl ?_
      refine ea_iadd (pc := 814) dL_law_814 ?_
      obtain ⟨z368, H⟩ := H
      refine ea_sld (pc := 815) dL_law_815 z368 ?_
      refine ea_aload_nO (pc := 816) dL_law_816 rfl 0 rfl ?_
      refine ea_iload_n (pc := 817) dL_law_817 rfl 3 rfl ?_
      refine ea_iconst (pc := 818) dL_law_818 (v := 2) rfl ?_
      refine ea_iadd (pc := 819) dL_law_819 ?_
      obtain ⟨z369, H⟩ := H
      refine ea_sld (pc := 820) dL_law_820 z369 ?_
      obtain ⟨a376, e377, f374, g375, H⟩ := H
      refine ea_deref2 e377 ?_
      obtain ⟨d370, xc378, h371, m372, q373, H⟩ := H
      refine ea_callV (pc := 821) (As := [vI ((ea_q h360).2 (Int32.toNatClampNeg (x3 + (1 : Int32)))), vI ((ea_q h360).2 (Int32.toNatClampNeg (x3 + (2 : Int32))))]) (st := [vI xc367]) dL_law_821 kX12_of m372 q373 rfl (Nat.le_of_ble_eq_true rfl) ew_2015 ew_2016 ew_2017 (ci := 12) rfl (by decide) f374 g375 ?_
      refine ea_icmp_eq (pc := 824) (tgt := 1574) dL_law_824 rfl (fun c379 => ?_) (fun c379 => ?_)
      · have H := H.1 c379
        refine ea_iinc (pc := 1574) (v := 7) (lv' := [(0, vO 0), (1, vR r1), (2, vR r2), (3, vI (x3 + 7))]) dL_law_1574 3 rfl rfl (Nat.le_of_ble_eq_true rfl) [1, 2, 3, 0] rfl ?_
        refine ea_goto (pc := 1577) (tgt := 18) dL_law_1577 rfl ?_
        exact H
      · have H := H.2 c379
        refine ea_iconst (pc := 827) dL_law_827 (v := 0) rfl ?_
        obtain ⟨rfl, rfl⟩ := H
        exact ea_ireturn (pc := 828) dL_law_828 rfl (ea_bn (Or.inl rfl))
    by_cases qc18 : Int32.toInt (((ea_q h).2 (Int32.toNatClampNeg x3)) &&& (63 : Int32)) = 17
    · have H := H.2.2.2.2.2.2.2.2.2.2.2.2.2.2.2.2.2.1 qc18
      refine ea_tswIn (pc := 33) (tgt := 829) dL_law_33 (by omega) (by omega) (by rw [qc18]; rfl) rfl ?_
      refine ea_aload_n (pc := 829) dL_law_829 rfl 1 rfl ?_
      refine ea_aload_nO (pc := 830) dL_law_830 rfl 0 rfl ?_
      refine ea_iload_n (pc := 831) dL_law_831 rfl 3 rfl ?_
      refine ea_iconst (pc := 832) dL_law_832 (v := 1) rfl ?_
      refine ea_iadd (pc := 833) dL_law_833 ?_
      obtain ⟨z380, H⟩ := H
      refine ea_sld (pc := 834) dL_law_834 z380 ?_
      refine ea_aload_nO (pc := 835) dL_law_835 rfl 0 rfl ?_
      refine ea_iload_n (pc := 836) dL_law_836 rfl 3 rfl ?_
      refine ea_iconst (pc := 837) dL_law_837 (v := 2) rfl ?_
      refine ea_iadd (pc := 838) dL_law_838 ?_
      obtain ⟨z381, H⟩ := H
      refine ea_sld (pc := 839) dL_law_839 z381 ?_
      obtain ⟨a388, e389, f386, g387, H⟩ := H
      refine ea_deref2 e389 ?_
      obtain ⟨d382, xc390, h383, m384, q385, H⟩ := H
      refine ea_callV (pc := 840) (As := [vI ((ea_q h).2 (Int32.toNatClampNeg (x3 + (1 : Int32)))), vI ((ea_q h).2 (Int32.toNatClampNeg (x3 + (2 : Int32))))]) (st := []) dL_law_840 kX11_charge m384 q385 rfl (Nat.le_of_ble_eq_true rfl) ew_1080 ew_1081 ew_1082 (ci := 11) rfl (by decide) f386 g387 ?_
      refine ea_aload_n (pc := 843) dL_law_843 rfl 2 rfl ?_
      refine ea_aload_nO (pc := 844) dL_law_844 rfl 0 rfl ?_
      refine ea_iload_n (pc := 845) dL_law_845 rfl 3 rfl ?_
      refine ea_iconst (pc := 846) dL_law_846 (v := 1) rfl ?_
      refine ea_iadd (pc := 847) dL_law_847 ?_
      obtain ⟨z391, H⟩ := H
      refine ea_sld (pc := 848) dL_law_848 z391 ?_
      refine ea_aload_nO (pc := 849) dL_law_849 rfl 0 rfl ?_
      refine ea_iload_n (pc := 850) dL_law_850 rfl 3 rfl ?_
      refine ea_iconst (pc := 851) dL_law_851 (v := 2) rfl ?_
      refine ea_iadd (pc := 852) dL_law_852 ?_
      obtain ⟨z392, H⟩ := H
      refine ea_sld (pc := 853) dL_law_853 z392 ?_
      obtain ⟨a399, e400, f397, g398, H⟩ := H
      refine ea_deref2 e400 ?_
      obtain ⟨d393, xc401, h394, m395, q396, H⟩ := H
      refine ea_callV (pc := 854) (As := [vI ((ea_q h383).2 (Int32.toNatClampNeg (x3 + (1 : Int32)))), vI ((ea_q h383).2 (Int32.toNatClampNeg (x3 + (2 : Int32))))]) (st := [vI xc390]) dL_law_854 kX12_charge m395 q396 rfl (Nat.le_of_ble_eq_true rfl) ew_2023 ew_2024 ew_2025 (ci := 12) rfl (by decide) f397 g398 ?_
      refine ea_icmp_eq (pc := 857) (tgt := 1574) dL_law_857 rfl (fun c402 => ?_) (fun c402 => ?_)
      · have H := H.1 c402
        refine ea_iinc (pc := 1574) (v := 7) (lv' := [(0, vO 0), (1, vR r1), (2, vR r2), (3, vI (x3 + 7))]) dL_law_1574 3 rfl rfl (Nat.le_of_ble_eq_true rfl) [1, 2, 3, 0] rfl ?_
        refine ea_goto (pc := 1577) (tgt := 18) dL_law_1577 rfl ?_
        exact H
      · have H := H.2 c402
        refine ea_iconst (pc := 860) dL_law_860 (v := 0) rfl ?_
        obtain ⟨rfl, rfl⟩ := H
        exact ea_ireturn (pc := 861) dL_law_861 rfl (ea_bn (Or.inl rfl))
    by_cases qc19 : Int32.toInt (((ea_q h).2 (Int32.toNatClampNeg x3)) &&& (63 : Int32)) = 18
    · have H := H.2.2.2.2.2.2.2.2.2.2.2.2.2.2.2.2.2.2.1 qc19
      refine ea_tswIn (pc := 33) (tgt := 862) dL_law_33 (by omega) (by omega) (by rw [qc19]; rfl) rfl ?_
      refine ea_aload_n (pc := 862) dL_law_862 rfl 1 rfl ?_
      refine ea_aload_nO (pc := 863) dL_law_863 rfl 0 rfl ?_
      refine ea_iload_n (pc := 864) dL_law_864 rfl 3 rfl ?_
      refine ea_iconst (pc := 865) dL_law_865 (v := 1) rfl ?_
      refine ea_iadd (pc := 866) dL_law_866 ?_
      obtain ⟨z403, H⟩ := H
      refine ea_sld (pc := 867) dL_law_867 z403 ?_
      refine ea_aload_nO (pc := 868) dL_law_868 rfl 0 rfl ?_
      refine ea_iload_n (pc := 869) dL_law_869 rfl 3 rfl ?_
      refine ea_iconst (pc := 870) dL_law_870 (v := 2) rfl ?_
      refine ea_iadd (pc := 871) dL_law_871 ?_
      obtain ⟨z404, H⟩ := H
      refine ea_sld (pc := 872) dL_law_872 z404 ?_
      refine ea_aload_nO (pc := 873) dL_law_873 rfl 0 rfl ?_
      refine ea_iload_n (pc := 874) dL_law_874 rfl 3 rfl ?_
      refine ea_iconst (pc := 875) dL_law_875 (v := 3) rfl ?_
      refine ea_iadd (pc := 876) dL_law_876 ?_
      obtain ⟨z405, H⟩ := H
      refine ea_sld (pc := 877) dL_law_877 z405 ?_
      refine ea_aload_nO (pc := 878) dL_law_878 rfl 0 rfl ?_
      refine ea_iload_n (pc := 879) dL_law_879 rfl 3 rfl ?_
      refine ea_iconst (pc := 880) dL_law_880 (v := 4) rfl ?_
      refine ea_iadd (pc := 881) dL_law_881 ?_
      obtain ⟨z406, H⟩ := H
      refine ea_sld (pc := 882) dL_law_882 z406 ?_
      obtain ⟨a413, e414, f411, g412, H⟩ := H
      refine ea_deref4 e414 ?_
      obtain ⟨d407, xc415, h408, m409, q410, H⟩ := H
      refine ea_callV (pc := 883) (As := [vI ((ea_q h).2 (Int32.toNatClampNeg (x3 + (1 : Int32)))), vI ((ea_q h).2 (Int32.toNatClampNeg (x3 + (2 : Int32)))), vI ((ea_q h).2 (Int32.toNatClampNeg (x3 + (3 : Int32)))), vI ((ea_q h).2 (Int32.toNatClampNeg (x3 + (4 : Int32))))]) (st := []) dL_law_883 kX11_way m409 q410 rfl (Nat.le_of_ble_eq_true rfl) ew_1088 ew_1089 ew_1090 (ci := 11) rfl (by decide) f411 g412 ?_
      refine ea_aload_n (pc := 886) dL_law_886 rfl 2 rfl ?_
      refine ea_aload_nO (pc := 887) dL_law_887 rfl 0 rfl ?_
      refine ea_iload_n (pc := 888) dL_law_888 rfl 3 rfl ?_
      refine ea_iconst (pc := 889) dL_law_889 (v := 1) rfl ?_
      refine ea_iadd (pc := 890) dL_law_890 ?_
      obtain ⟨z416, H⟩ := H
      refine ea_sld (pc := 891) dL_law_891 z416 ?_
      refine ea_aload_nO (pc := 892) dL_law_892 rfl 0 rfl ?_
      refine ea_iload_n (pc := 893) dL_law_893 rfl 3 rfl ?_
      refine ea_iconst (pc := 894) dL_law_894 (v := 2) rfl ?_
      refine ea_iadd (pc := 895) dL_law_895 ?_
      obtain ⟨z417, H⟩ := H
      refine ea_sld (pc := 896) dL_law_896 z417 ?_
      refine ea_aload_nO (pc := 897) dL_law_897 rfl 0 rfl ?_
      refine ea_iload_n (pc := 898) dL_law_898 rfl 3 rfl ?_
      refine ea_iconst (pc := 899) dL_law_899 (v := 3) rfl ?_
      refine ea_iadd (pc := 900) dL_law_900 ?_
      obtain ⟨z418, H⟩ := H
      refine ea_sld (pc := 901) dL_law_901 z418 ?_
      refine ea_aload_nO (pc := 902) dL_law_902 rfl 0 rfl ?_
      refine ea_iload_n (pc := 903) dL_law_903 rfl 3 rfl ?_
      refine ea_iconst (pc := 904) dL_law_904 (v := 4) rfl ?_
      refine ea_iadd (pc := 905) dL_law_905 ?_
      obtain ⟨z419, H⟩ := H
      refine ea_sld (pc := 906) dL_law_906 z419 ?_
      obtain ⟨a426, e427, f424, g425, H⟩ := H
      refine ea_deref4 e427 ?_
      obtain ⟨d420, xc428, h421, m422, q423, H⟩ := H
      refine ea_callV (pc := 907) (As := [vI ((ea_q h408).2 (Int32.toNatClampNeg (x3 + (1 : Int32)))), vI ((ea_q h408).2 (Int32.toNatClampNeg (x3 + (2 : Int32)))), vI ((ea_q h408).2 (Int32.toNatClampNeg (x3 + (3 : Int32)))), vI ((ea_q h408).2 (Int32.toNatClampNeg (x3 + (4 : Int32))))]) (st := [vI xc415]) dL_law_907 kX12_way m422 q423 rfl (Nat.le_of_ble_eq_true rfl) ew_1766 ew_1767 ew_1768 (ci := 12) rfl (by decide) f424 g425 ?_
      refine ea_icmp_eq (pc := 910) (tgt := 1574) dL_law_910 rfl (fun c429 => ?_) (fun c429 => ?_)
      · have H := H.1 c429
        refine ea_iinc (pc := 1574) (v := 7) (lv' := [(0, vO 0), (1, vR r1), (2, vR r2), (3, vI (x3 + 7))]) dL_law_1574 3 rfl rfl (Nat.le_of_ble_eq_true rfl) [1, 2, 3, 0] rfl ?_
        refine ea_goto (pc := 1577) (tgt := 18) dL_law_1577 rfl ?_
        exact H
      · have H := H.2 c429
        refine ea_iconst (pc := 913) dL_law_913 (v := 0) rfl ?_
        obtain ⟨rfl, rfl⟩ := H
        exact ea_ireturn (pc := 914) dL_law_914 rfl (ea_bn (Or.inl rfl))
    by_cases qc20 : Int32.toInt (((ea_q h).2 (Int32.toNatClampNeg x3)) &&& (63 : Int32)) = 19
    · have H := H.2.2.2.2.2.2.2.2.2.2.2.2.2.2.2.2.2.2.2.1 qc20
      refine ea_tswIn (pc := 33) (tgt := 915) dL_law_33 (by omega) (by omega) (by rw [qc20]; rfl) rfl ?_
      refine ea_aload_n (pc := 915) dL_law_915 rfl 1 rfl ?_
      refine ea_aload_nO (pc := 916) dL_law_916 rfl 0 rfl ?_
      refine ea_iload_n (pc := 917) dL_law_917 rfl 3 rfl ?_
      refine ea_iconst (pc := 918) dL_law_918 (v := 1) rfl ?_
      refine ea_iadd (pc := 919) dL_law_919 ?_
      obtain ⟨z430, H⟩ := H
      refine ea_sld (pc := 920) dL_law_920 z430 ?_
      refine ea_aload_nO (pc := 921) dL_law_921 rfl 0 rfl ?_
      refine ea_iload_n (pc := 922) dL_law_922 rfl 3 rfl ?_
      refine ea_iconst (pc := 923) dL_law_923 (v := 2) rfl ?_
      refine ea_iadd (pc := 924) dL_law_924 ?_
      obtain ⟨z431, H⟩ := H
      refine ea_sld (pc := 925) dL_law_925 z431 ?_
      refine ea_aload_nO (pc := 926) dL_law_926 rfl 0 rfl ?_
      refine ea_iload_n (pc := 927) dL_law_927 rfl 3 rfl ?_
      refine ea_iconst (pc := 928) dL_law_928 (v := 3) rfl ?_
      refine ea_iadd (pc := 929) dL_law_929 ?_
      obtain ⟨z432, H⟩ := H
      refine ea_sld (pc := 930) dL_law_930 z432 ?_
      obtain ⟨a439, e440, f437, g438, H⟩ := H
      refine ea_deref3 e440 ?_
      obtain ⟨d433, xc441, h434, m435, q436, H⟩ := H
      refine ea_callV (pc := 931) (As := [vI ((ea_q h).2 (Int32.toNatClampNeg (x3 + (1 : Int32)))), vI ((ea_q h).2 (Int32.toNatClampNeg (x3 + (2 : Int32)))), vI ((ea_q h).2 (Int32.toNatClampNeg (x3 + (3 : Int32))))]) (st := []) dL_law_931 kX11_lead m435 q436 rfl (Nat.le_of_ble_eq_true rfl) ew_1108 ew_1109 ew_1110 (ci := 11) rfl (by decide) f437 g438 ?_
      refine ea_aload_n (pc := 934) dL_law_934 rfl 2 rfl ?_
      refine ea_aload_nO (pc := 935) dL_law_935 rfl 0 rfl ?_
      refine ea_iload_n (pc := 936) dL_law_936 rfl 3 rfl ?_
      refine ea_iconst (pc := 937) dL_law_937 (v := 1) rfl ?_
      refine ea_iadd (pc := 938) dL_law_938 ?_
      obtain ⟨z442, H⟩ := H
      refine ea_sld (pc := 939) dL_law_939 z442 ?_
      refine ea_aload_nO (pc := 940) dL_law_940 rfl 0 rfl ?_
      refine ea_iload_n (pc := 941) dL_law_941 rfl 3 rfl ?_
      refine ea_iconst (pc := 942) dL_law_942 (v := 2) rfl ?_
      refine ea_iadd (pc := 943) dL_law_943 ?_
      obtain ⟨z443, H⟩ := H
      refine ea_sld (pc := 944) dL_law_944 z443 ?_
      refine ea_aload_nO (pc := 945) dL_law_945 rfl 0 rfl ?_
      refine ea_iload_n (pc := 946) dL_law_946 rfl 3 rfl ?_
      refine ea_iconst (pc := 947) dL_law_947 (v := 3) rfl ?_
      refine ea_iadd (pc := 948) dL_law_948 ?_
      obtain ⟨z444, H⟩ := H
      refine ea_sld (pc := 949) dL_law_949 z444 ?_
      obtain ⟨a451, e452, f449, g450, H⟩ := H
      refine ea_deref3 e452 ?_
      obtain ⟨d445, xc453, h446, m447, q448, H⟩ := H
      refine ea_callV (pc := 950) (As := [vI ((ea_q h434).2 (Int32.toNatClampNeg (x3 + (1 : Int32)))), vI ((ea_q h434).2 (Int32.toNatClampNeg (x3 + (2 : Int32)))), vI ((ea_q h434).2 (Int32.toNatClampNeg (x3 + (3 : Int32))))]) (st := [vI xc441]) dL_law_950 kX12_lead m447 q448 rfl (Nat.le_of_ble_eq_true rfl) ew_2035 ew_2036 ew_2037 (ci := 12) rfl (by decide) f449 g450 ?_
      refine ea_icmp_eq (pc := 953) (tgt := 1574) dL_law_953 rfl (fun c454 => ?_) (fun c454 => ?_)
      · have H := H.1 c454
        refine ea_iinc (pc := 1574) (v := 7) (lv' := [(0, vO 0), (1, vR r1), (2, vR r2), (3, vI (x3 + 7))]) dL_law_1574 3 rfl rfl (Nat.le_of_ble_eq_true rfl) [1, 2, 3, 0] rfl ?_
        refine ea_goto (pc := 1577) (tgt := 18) dL_law_1577 rfl ?_
        exact H
      · have H := H.2 c454
        refine ea_iconst (pc := 956) dL_law_956 (v := 0) rfl ?_
        obtain ⟨rfl, rfl⟩ := H
        exact ea_ireturn (pc := 957) dL_law_957 rfl (ea_bn (Or.inl rfl))
    by_cases qc21 : Int32.toInt (((ea_q h).2 (Int32.toNatClampNeg x3)) &&& (63 : Int32)) = 20
    · have H := H.2.2.2.2.2.2.2.2.2.2.2.2.2.2.2.2.2.2.2.2.1 qc21
      refine ea_tswIn (pc := 33) (tgt := 958) dL_law_33 (by omega) (by omega) (by rw [qc21]; rfl) rfl ?_
      refine ea_aload_n (pc := 958) dL_law_958 rfl 1 rfl ?_
      refine ea_aload_nO (pc := 959) dL_law_959 rfl 0 rfl ?_
      refine ea_iload_n (pc := 960) dL_law_960 rfl 3 rfl ?_
      refine ea_iconst (pc := 961) dL_law_961 (v := 1) rfl ?_
      refine ea_iadd (pc := 962) dL_law_962 ?_
      obtain ⟨z455, H⟩ := H
      refine ea_sld (pc := 963) dL_law_963 z455 ?_
      refine ea_aload_nO (pc := 964) dL_law_964 rfl 0 rfl ?_
      refine ea_iload_n (pc := 965) dL_law_965 rfl 3 rfl ?_
      refine ea_iconst (pc := 966) dL_law_966 (v := 2) rfl ?_
      refine ea_iadd (pc := 967) dL_law_967 ?_
      obtain ⟨z456, H⟩ := H
      refine ea_sld (pc := 968) dL_law_968 z456 ?_
      refine ea_aload_nO (pc := 969) dL_law_969 rfl 0 rfl ?_
      refine ea_iload_n (pc := 970) dL_law_970 rfl 3 rfl ?_
      refine ea_iconst (pc := 971) dL_law_971 (v := 3) rfl ?_
      refine ea_iadd (pc := 972) dL_law_972 ?_
      obtain ⟨z457, H⟩ := H
      refine ea_sld (pc := 973) dL_law_973 z457 ?_
      obtain ⟨a464, e465, f462, g463, H⟩ := H
      refine ea_deref3 e465 ?_
      obtain ⟨d458, xc466, h459, m460, q461, H⟩ := H
      refine ea_callV (pc := 974) (As := [vI ((ea_q h).2 (Int32.toNatClampNeg (x3 + (1 : Int32)))), vI ((ea_q h).2 (Int32.toNatClampNeg (x3 + (2 : Int32)))), vI ((ea_q h).2 (Int32.toNatClampNeg (x3 + (3 : Int32))))]) (st := []) dL_law_974 kX11_where m460 q461 rfl (Nat.le_of_ble_eq_true rfl) ew_1124 ew_1125 ew_1126 (ci := 11) rfl (by decide) f462 g463 ?_
      refine ea_aload_n (pc := 977) dL_law_977 rfl 2 rfl ?_
      refine ea_aload_nO (pc := 978) dL_law_978 rfl 0 rfl ?_
      refine ea_iload_n (pc := 979) dL_law_979 rfl 3 rfl ?_
      refine ea_iconst (pc := 980) dL_law_980 (v := 1) rfl ?_
      refine ea_iadd (pc := 981) dL_law_981 ?_
      obtain ⟨z467, H⟩ := H
      refine ea_sld (pc := 982) dL_law_982 z467 ?_
      refine ea_aload_nO (pc := 983) dL_law_983 rfl 0 rfl ?_
      refine ea_iload_n (pc := 984) dL_law_984 rfl 3 rfl ?_
      refine ea_iconst (pc := 985) dL_law_985 (v := 2) rfl ?_
      refine ea_iadd (pc := 986) dL_law_986 ?_
      obtain ⟨z468, H⟩ := H
      refine ea_sld (pc := 987) dL_law_987 z468 ?_
      refine ea_aload_nO (pc := 988) dL_law_988 rfl 0 rfl ?_
      refine ea_iload_n (pc := 989) dL_law_989 rfl 3 rfl ?_
      refine ea_iconst (pc := 990) dL_law_990 (v := 3) rfl ?_
      refine ea_iadd (pc := 991) dL_law_991 ?_
      obtain ⟨z469, H⟩ := H
      refine ea_sld (pc := 992) dL_law_992 z469 ?_
      obtain ⟨a476, e477, f474, g475, H⟩ := H
      refine ea_deref3 e477 ?_
      obtain ⟨d470, xc478, h471, m472, q473, H⟩ := H
      refine ea_callV (pc := 993) (As := [vI ((ea_q h459).2 (Int32.toNatClampNeg (x3 + (1 : Int32)))), vI ((ea_q h459).2 (Int32.toNatClampNeg (x3 + (2 : Int32)))), vI ((ea_q h459).2 (Int32.toNatClampNeg (x3 + (3 : Int32))))]) (st := [vI xc466]) dL_law_993 kX12_where m472 q473 rfl (Nat.le_of_ble_eq_true rfl) ew_2039 ew_2040 ew_2041 (ci := 12) rfl (by decide) f474 g475 ?_
      refine ea_icmp_eq (pc := 996) (tgt := 1574) dL_law_996 rfl (fun c479 => ?_) (fun c479 => ?_)
      · have H := H.1 c479
        refine ea_iinc (pc := 1574) (v := 7) (lv' := [(0, vO 0), (1, vR r1), (2, vR r2), (3, vI (x3 + 7))]) dL_law_1574 3 rfl rfl (Nat.le_of_ble_eq_true rfl) [1, 2, 3, 0] rfl ?_
        refine ea_goto (pc := 1577) (tgt := 18) dL_law_1577 rfl ?_
        exact H
      · have H := H.2 c479
        refine ea_iconst (pc := 999) dL_law_999 (v := 0) rfl ?_
        obtain ⟨rfl, rfl⟩ := H
        exact ea_ireturn (pc := 1000) dL_law_1000 rfl (ea_bn (Or.inl rfl))
    by_cases qc22 : Int32.toInt (((ea_q h).2 (Int32.toNatClampNeg x3)) &&& (63 : Int32)) = 21
    · have H := H.2.2.2.2.2.2.2.2.2.2.2.2.2.2.2.2.2.2.2.2.2.1 qc22
      refine ea_tswIn (pc := 33) (tgt := 1001) dL_law_33 (by omega) (by omega) (by rw [qc22]; rfl) rfl ?_
      refine ea_aload_n (pc := 1001) dL_law_1001 rfl 1 rfl ?_
      refine ea_aload_nO (pc := 1002) dL_law_1002 rfl 0 rfl ?_
      refine ea_iload_n (pc := 1003) dL_law_1003 rfl 3 rfl ?_
      refine ea_iconst (pc := 1004) dL_law_1004 (v := 1) rfl ?_
      refine ea_iadd (pc := 1005) dL_law_1005 ?_
      obtain ⟨z480, H⟩ := H
      refine ea_sld (pc := 1006) dL_law_1006 z480 ?_
      refine ea_aload_nO (pc := 1007) dL_law_1007 rfl 0 rfl ?_
      refine ea_iload_n (pc := 1008) dL_law_1008 rfl 3 rfl ?_
      refine ea_iconst (pc := 1009) dL_law_1009 (v := 2) rfl ?_
      refine ea_iadd (pc := 1010) dL_law_1010 ?_
      obtain ⟨z481, H⟩ := H
      refine ea_sld (pc := 1011) dL_law_1011 z481 ?_
      obtain ⟨a488, e489, f486, g487, H⟩ := H
      refine ea_deref2 e489 ?_
      obtain ⟨d482, xc490, h483, m484, q485, H⟩ := H
      refine ea_callV (pc := 1012) (As := [vI ((ea_q h).2 (Int32.toNatClampNeg (x3 + (1 : Int32)))), vI ((ea_q h).2 (Int32.toNatClampNeg (x3 + (2 : Int32))))]) (st := []) dL_law_1012 kX11_sorter m484 q485 rfl (Nat.le_of_ble_eq_true rfl) ew_1133 ew_1134 ew_1135 (ci := 11) rfl (by decide) f486 g487 ?_
      refine ea_aload_n (pc := 1015) dL_law_1015 rfl 2 rfl ?_
      refine ea_aload_nO (pc := 1016) dL_law_1016 rfl 0 rfl ?_
      refine ea_iload_n (pc := 1017) dL_law_1017 rfl 3 rfl ?_
      refine ea_iconst (pc := 1018) dL_law_1018 (v := 1) rfl ?_
      refine ea_iadd (pc := 1019) dL_law_1019 ?_
      obtain ⟨z491, H⟩ := H
      refine ea_sld (pc := 1020) dL_law_1020 z491 ?_
      refine ea_aload_nO (pc := 1021) dL_law_1021 rfl 0 rfl ?_
      refine ea_iload_n (pc := 1022) dL_law_1022 rfl 3 rfl ?_
      refine ea_iconst (pc := 1023) dL_law_1023 (v := 2) rfl ?_
      refine ea_iadd (pc := 1024) dL_law_1024 ?_
      obtain ⟨z492, H⟩ := H
      refine ea_sld (pc := 1025) dL_law_1025 z492 ?_
      obtain ⟨a499, e500, f497, g498, H⟩ := H
      refine ea_deref2 e500 ?_
      obtain ⟨d493, xc501, h494, m495, q496, H⟩ := H
      refine ea_callV (pc := 1026) (As := [vI ((ea_q h483).2 (Int32.toNatClampNeg (x3 + (1 : Int32)))), vI ((ea_q h483).2 (Int32.toNatClampNeg (x3 + (2 : Int32))))]) (st := [vI xc490]) dL_law_1026 kX12_sorter m495 q496 rfl (Nat.le_of_ble_eq_true rfl) ew_2043 ew_2044 ew_2045 (ci := 12) rfl (by decide) f497 g498 ?_
      refine ea_icmp_eq (pc := 1029) (tgt := 1574) dL_law_1029 rfl (fun c502 => ?_) (fun c502 => ?_)
      · have H := H.1 c502
        refine ea_iinc (pc := 1574) (v := 7) (lv' := [(0, vO 0), (1, vR r1), (2, vR r2), (3, vI (x3 + 7))]) dL_law_1574 3 rfl rfl (Nat.le_of_ble_eq_true rfl) [1, 2, 3, 0] rfl ?_
        refine ea_goto (pc := 1577) (tgt := 18) dL_law_1577 rfl ?_
        exact H
      · have H := H.2 c502
        refine ea_iconst (pc := 1032) dL_law_1032 (v := 0) rfl ?_
        obtain ⟨rfl, rfl⟩ := H
        exact ea_ireturn (pc := 1033) dL_law_1033 rfl (ea_bn (Or.inl rfl))
    by_cases qc23 : Int32.toInt (((ea_q h).2 (Int32.toNatClampNeg x3)) &&& (63 : Int32)) = 22
    · have H := H.2.2.2.2.2.2.2.2.2.2.2.2.2.2.2.2.2.2.2.2.2.2.1 qc23
      refine ea_tswIn (pc := 33) (tgt := 1034) dL_law_33 (by omega) (by omega) (by rw [qc23]; rfl) rfl ?_
      refine ea_aload_n (pc := 1034) dL_law_1034 rfl 1 rfl ?_
      refine ea_aload_nO (pc := 1035) dL_law_1035 rfl 0 rfl ?_
      refine ea_iload_n (pc := 1036) dL_law_1036 rfl 3 rfl ?_
      refine ea_iconst (pc := 1037) dL_law_1037 (v := 1) rfl ?_
      refine ea_iadd (pc := 1038) dL_law_1038 ?_
      obtain ⟨z503, H⟩ := H
      refine ea_sld (pc := 1039) dL_law_1039 z503 ?_
      refine ea_aload_nO (pc := 1040) dL_law_1040 rfl 0 rfl ?_
      refine ea_iload_n (pc := 1041) dL_law_1041 rfl 3 rfl ?_
      refine ea_iconst (pc := 1042) dL_law_1042 (v := 2) rfl ?_
      refine ea_iadd (pc := 1043) dL_law_1043 ?_
      obtain ⟨z504, H⟩ := H
      refine ea_sld (pc := 1044) dL_law_1044 z504 ?_
      obtain ⟨a511, e512, f509, g510, H⟩ := H
      refine ea_deref2 e512 ?_
      obtain ⟨d505, xc513, h506, m507, q508, H⟩ := H
      refine ea_callV (pc := 1045) (As := [vI ((ea_q h).2 (Int32.toNatClampNeg (x3 + (1 : Int32)))), vI ((ea_q h).2 (Int32.toNatClampNeg (x3 + (2 : Int32))))]) (st := []) dL_law_1045 kX11_seat m507 q508 rfl (Nat.le_of_ble_eq_true rfl) ew_1141 ew_1142 ew_1143 (ci := 11) rfl (by decide) f509 g510 ?_
      refine ea_aload_n (pc := 1048) dL_law_1048 rfl 2 rfl ?_
      refine ea_aload_nO (pc := 1049) dL_law_1049 rfl 0 rfl ?_
      refine ea_iload_n (pc := 1050) dL_law_1050 rfl 3 rfl ?_
      refine ea_iconst (pc := 1051) dL_law_1051 (v := 1) rfl ?_
      refine ea_iadd (pc := 1052) dL_law_1052 ?_
      obtain ⟨z514, H⟩ := H
      refine ea_sld (pc := 1053) dL_law_1053 z514 ?_
      refine ea_aload_nO (pc := 1054) dL_law_1054 rfl 0 rfl ?_
      refine ea_iload_n (pc := 1055) dL_law_1055 rfl 3 rfl ?_
      refine ea_iconst (pc := 1056) dL_law_1056 (v := 2) rfl ?_
      refine ea_iadd (pc := 1057) dL_law_1057 ?_
      obtain ⟨z515, H⟩ := H
      refine ea_sld (pc := 1058) dL_law_1058 z515 ?_
      obtain ⟨a522, e523, f520, g521, H⟩ := H
      refine ea_deref2 e523 ?_
      obtain ⟨d516, xc524, h517, m518, q519, H⟩ := H
      refine ea_callV (pc := 1059) (As := [vI ((ea_q h506).2 (Int32.toNatClampNeg (x3 + (1 : Int32)))), vI ((ea_q h506).2 (Int32.toNatClampNeg (x3 + (2 : Int32))))]) (st := [vI xc513]) dL_law_1059 kX12_seat m518 q519 rfl (Nat.le_of_ble_eq_true rfl) ew_2047 ew_2048 ew_2049 (ci := 12) rfl (by decide) f520 g521 ?_
      refine ea_icmp_eq (pc := 1062) (tgt := 1574) dL_law_1062 rfl (fun c525 => ?_) (fun c525 => ?_)
      · have H := H.1 c525
        refine ea_iinc (pc := 1574) (v := 7) (lv' := [(0, vO 0), (1, vR r1), (2, vR r2), (3, vI (x3 + 7))]) dL_law_1574 3 rfl rfl (Nat.le_of_ble_eq_true rfl) [1, 2, 3, 0] rfl ?_
        refine ea_goto (pc := 1577) (tgt := 18) dL_law_1577 rfl ?_
        exact H
      · have H := H.2 c525
        refine ea_iconst (pc := 1065) dL_law_1065 (v := 0) rfl ?_
        obtain ⟨rfl, rfl⟩ := H
        exact ea_ireturn (pc := 1066) dL_law_1066 rfl (ea_bn (Or.inl rfl))
    by_cases qc24 : Int32.toInt (((ea_q h).2 (Int32.toNatClampNeg x3)) &&& (63 : Int32)) = 23
    · have H := H.2.2.2.2.2.2.2.2.2.2.2.2.2.2.2.2.2.2.2.2.2.2.2.1 qc24
      refine ea_tswIn (pc := 33) (tgt := 1067) dL_law_33 (by omega) (by omega) (by rw [qc24]; rfl) rfl ?_
      refine ea_aload_n (pc := 1067) dL_law_1067 rfl 1 rfl ?_
      refine ea_aload_nO (pc := 1068) dL_law_1068 rfl 0 rfl ?_
      refine ea_iload_n (pc := 1069) dL_law_1069 rfl 3 rfl ?_
      refine ea_iconst (pc := 1070) dL_law_1070 (v := 1) rfl ?_
      refine ea_iadd (pc := 1071) dL_law_1071 ?_
      obtain ⟨z526, H⟩ := H
      refine ea_sld (pc := 1072) dL_law_1072 z526 ?_
      refine ea_aload_nO (pc := 1073) dL_law_1073 rfl 0 rfl ?_
      refine ea_iload_n (pc := 1074) dL_law_1074 rfl 3 rfl ?_
      refine ea_iconst (pc := 1075) dL_law_1075 (v := 2) rfl ?_
      refine ea_iadd (pc := 1076) dL_law_1076 ?_
      obtain ⟨z527, H⟩ := H
      refine ea_sld (pc := 1077) dL_law_1077 z527 ?_
      refine ea_aload_nO (pc := 1078) dL_law_1078 rfl 0 rfl ?_
      refine ea_iload_n (pc := 1079) dL_law_1079 rfl 3 rfl ?_
      refine ea_iconst (pc := 1080) dL_law_1080 (v := 3) rfl ?_
      refine ea_iadd (pc := 1081) dL_law_1081 ?_
      obtain ⟨z528, H⟩ := H
      refine ea_sld (pc := 1082) dL_law_1082 z528 ?_
      obtain ⟨a535, e536, f533, g534, H⟩ := H
      refine ea_deref3 e536 ?_
      obtain ⟨d529, xc537, h530, m531, q532, H⟩ := H
      refine ea_callV (pc := 1083) (As := [vI ((ea_q h).2 (Int32.toNatClampNeg (x3 + (1 : Int32)))), vI ((ea_q h).2 (Int32.toNatClampNeg (x3 + (2 : Int32)))), vI ((ea_q h).2 (Int32.toNatClampNeg (x3 + (3 : Int32))))]) (st := []) dL_law_1083 kX11_run m531 q532 rfl (Nat.le_of_ble_eq_true rfl) ew_1145 ew_1146 ew_1147 (ci := 11) rfl (by decide) f533 g534 ?_
      refine ea_aload_n (pc := 1086) dL_law_1086 rfl 2 rfl ?_
      refine ea_aload_nO (pc := 1087) dL_law_1087 rfl 0 rfl ?_
      refine ea_iload_n (pc := 1088) dL_law_1088 rfl 3 rfl ?_
      refine ea_iconst (pc := 1089) dL_law_1089 (v := 1) rfl ?_
      refine ea_iadd (pc := 1090) dL_law_1090 ?_
      obtain ⟨z538, H⟩ := H
      refine ea_sld (pc := 1091) dL_law_1091 z538 ?_
      refine ea_aload_nO (pc := 1092) dL_law_1092 rfl 0 rfl ?_
      refine ea_iload_n (pc := 1093) dL_law_1093 rfl 3 rfl ?_
      refine ea_iconst (pc := 1094) dL_law_1094 (v := 2) rfl ?_
      refine ea_iadd (pc := 1095) dL_law_1095 ?_
      obtain ⟨z539, H⟩ := H
      refine ea_sld (pc := 1096) dL_law_1096 z539 ?_
      refine ea_aload_nO (pc := 1097) dL_law_1097 rfl 0 rfl ?_
      refine ea_iload_n (pc := 1098) dL_law_1098 rfl 3 rfl ?_
      refine ea_iconst (pc := 1099) dL_law_1099 (v := 3) rfl ?_
      refine ea_iadd (pc := 1100) dL_law_1100 ?_
      obtain ⟨z540, H⟩ := H
      refine ea_sld (pc := 1101) dL_law_1101 z540 ?_
      obtain ⟨a547, e548, f545, g546, H⟩ := H
      refine ea_deref3 e548 ?_
      obtain ⟨d541, xc549, h542, m543, q544, H⟩ := H
      refine ea_callV (pc := 1102) (As := [vI ((ea_q h530).2 (Int32.toNatClampNeg (x3 + (1 : Int32)))), vI ((ea_q h530).2 (Int32.toNatClampNeg (x3 + (2 : Int32)))), vI ((ea_q h530).2 (Int32.toNatClampNeg (x3 + (3 : Int32))))]) (st := [vI xc537]) dL_law_1102 kX12_run_ m543 q544 rfl (Nat.le_of_ble_eq_true rfl) ew_2090 ew_2091 ew_2092 (ci := 12) rfl (by decide) f545 g546 ?_
      refine ea_icmp_eq (pc := 1105) (tgt := 1574) dL_law_1105 rfl (fun c550 => ?_) (fun c550 => ?_)
      · have H := H.1 c550
        refine ea_iinc (pc := 1574) (v := 7) (lv' := [(0, vO 0), (1, vR r1), (2, vR r2), (3, vI (x3 + 7))]) dL_law_1574 3 rfl rfl (Nat.le_of_ble_eq_true rfl) [1, 2, 3, 0] rfl ?_
        refine ea_goto (pc := 1577) (tgt := 18) dL_law_1577 rfl ?_
        exact H
      · have H := H.2 c550
        refine ea_iconst (pc := 1108) dL_law_1108 (v := 0) rfl ?_
        obtain ⟨rfl, rfl⟩ := H
        exact ea_ireturn (pc := 1109) dL_law_1109 rfl (ea_bn (Or.inl rfl))
    by_cases qc25 : Int32.toInt (((ea_q h).2 (Int32.toNatClampNeg x3)) &&& (63 : Int32)) = 24
    · have H := H.2.2.2.2.2.2.2.2.2.2.2.2.2.2.2.2.2.2.2.2.2.2.2.2.1 qc25
      refine ea_tswIn (pc := 33) (tgt := 1110) dL_law_33 (by omega) (by omega) (by rw [qc25]; rfl) rfl ?_
      refine ea_aload_n (pc := 1110) dL_law_1110 rfl 1 rfl ?_
      refine ea_aload_nO (pc := 1111) dL_law_1111 rfl 0 rfl ?_
      refine ea_iload_n (pc := 1112) dL_law_1112 rfl 3 rfl ?_
      refine ea_iconst (pc := 1113) dL_law_1113 (v := 1) rfl ?_
      refine ea_iadd (pc := 1114) dL_law_1114 ?_
      obtain ⟨z551, H⟩ := H
      refine ea_sld (pc := 1115) dL_law_1115 z551 ?_
      refine ea_aload_nO (pc := 1116) dL_law_1116 rfl 0 rfl ?_
      refine ea_iload_n (pc := 1117) dL_law_1117 rfl 3 rfl ?_
      refine ea_iconst (pc := 1118) dL_law_1118 (v := 2) rfl ?_
      refine ea_iadd (pc := 1119) dL_law_1119 ?_
      obtain ⟨z552, H⟩ := H
      refine ea_sld (pc := 1120) dL_law_1120 z552 ?_
      refine ea_aload_nO (pc := 1121) dL_law_1121 rfl 0 rfl ?_
      refine ea_iload_n (pc := 1122) dL_law_1122 rfl 3 rfl ?_
      refine ea_iconst (pc := 1123) dL_law_1123 (v := 3) rfl ?_
      refine ea_iadd (pc := 1124) dL_law_1124 ?_
      obtain ⟨z553, H⟩ := H
      refine ea_sld (pc := 1125) dL_law_1125 z553 ?_
      obtain ⟨a560, e561, f558, g559, H⟩ := H
      refine ea_deref3 e561 ?_
      obtain ⟨d554, xc562, h555, m556, q557, H⟩ := H
      refine ea_callV (pc := 1126) (As := [vI ((ea_q h).2 (Int32.toNatClampNeg (x3 + (1 : Int32)))), vI ((ea_q h).2 (Int32.toNatClampNeg (x3 + (2 : Int32)))), vI ((ea_q h).2 (Int32.toNatClampNeg (x3 + (3 : Int32))))]) (st := []) dL_law_1126 kX11_account m556 q557 rfl (Nat.le_of_ble_eq_true rfl) ew_1158 ew_1159 ew_1160 (ci := 11) rfl (by decide) f558 g559 ?_
      refine ea_aload_n (pc := 1129) dL_law_1129 rfl 2 rfl ?_
      refine ea_aload_nO (pc := 1130) dL_law_1130 rfl 0 rfl ?_
      refine ea_iload_n (pc := 1131) dL_law_1131 rfl 3 rfl ?_
      refine ea_iconst (pc := 1132) dL_law_1132 (v := 1) rfl ?_
      refine ea_iadd (pc := 1133) dL_law_1133 ?_
      obtain ⟨z563, H⟩ := H
      refine ea_sld (pc := 1134) dL_law_1134 z563 ?_
      refine ea_aload_nO (pc := 1135) dL_law_1135 rfl 0 rfl ?_
      refine ea_iload_n (pc := 1136) dL_law_1136 rfl 3 rfl ?_
      refine ea_iconst (pc := 1137) dL_law_1137 (v := 2) rfl ?_
      refine ea_iadd (pc := 1138) dL_law_1138 ?_
      obtain ⟨z564, H⟩ := H
      refine ea_sld (pc := 1139) dL_law_1139 z564 ?_
      refine ea_aload_nO (pc := 1140) dL_law_1140 rfl 0 rfl ?_
      refine ea_iload_n (pc := 1141) dL_law_1141 rfl 3 rfl ?_
      refine ea_iconst (pc := 1142) dL_law_1142 (v := 3) rfl ?_
      refine ea_iadd (pc := 1143) dL_law_1143 ?_
      obtain ⟨z565, H⟩ := H
      refine ea_sld (pc := 1144) dL_law_1144 z565 ?_
      obtain ⟨a572, e573, f570, g571, H⟩ := H
      refine ea_deref3 e573 ?_
      obtain ⟨d566, xc574, h567, m568, q569, H⟩ := H
      refine ea_callV (pc := 1145) (As := [vI ((ea_q h555).2 (Int32.toNatClampNeg (x3 + (1 : Int32)))), vI ((ea_q h555).2 (Int32.toNatClampNeg (x3 + (2 : Int32)))), vI ((ea_q h555).2 (Int32.toNatClampNeg (x3 + (3 : Int32))))]) (st := [vI xc562]) dL_law_1145 kX12_account m568 q569 rfl (Nat.le_of_ble_eq_true rfl) ew_2098 ew_2099 ew_2100 (ci := 12) rfl (by decide) f570 g571 ?_
      refine ea_icmp_eq (pc := 1148) (tgt := 1574) dL_law_1148 rfl (fun c575 => ?_) (fun c575 => ?_)
      · have H := H.1 c575
        refine ea_iinc (pc := 1574) (v := 7) (lv' := [(0, vO 0), (1, vR r1), (2, vR r2), (3, vI (x3 + 7))]) dL_law_1574 3 rfl rfl (Nat.le_of_ble_eq_true rfl) [1, 2, 3, 0] rfl ?_
        refine ea_goto (pc := 1577) (tgt := 18) dL_law_1577 rfl ?_
        exact H
      · have H := H.2 c575
        refine ea_iconst (pc := 1151) dL_law_1151 (v := 0) rfl ?_
        obtain ⟨rfl, rfl⟩ := H
        exact ea_ireturn (pc := 1152) dL_law_1152 rfl (ea_bn (Or.inl rfl))
    by_cases qc26 : Int32.toInt (((ea_q h).2 (Int32.toNatClampNeg x3)) &&& (63 : Int32)) = 25
    · have H := H.2.2.2.2.2.2.2.2.2.2.2.2.2.2.2.2.2.2.2.2.2.2.2.2.2.1 qc26
      refine ea_tswIn (pc := 33) (tgt := 1153) dL_law_33 (by omega) (by omega) (by rw [qc26]; rfl) rfl ?_
      refine ea_aload_n (pc := 1153) dL_law_1153 rfl 1 rfl ?_
      refine ea_aload_nO (pc := 1154) dL_law_1154 rfl 0 rfl ?_
      refine ea_iload_n (pc := 1155) dL_law_1155 rfl 3 rfl ?_
      refine ea_iconst (pc := 1156) dL_law_1156 (v := 1) rfl ?_
      refine ea_iadd (pc := 1157) dL_law_1157 ?_
      obtain ⟨z576, H⟩ := H
      refine ea_sld (pc := 1158) dL_law_1158 z576 ?_
      obtain ⟨a583, e584, f581, g582, H⟩ := H
      refine ea_deref1 e584 ?_
      obtain ⟨d577, xc585, h578, m579, q580, H⟩ := H
      refine ea_callV (pc := 1159) (As := [vI ((ea_q h).2 (Int32.toNatClampNeg (x3 + (1 : Int32))))]) (st := []) dL_law_1159 kX11_nobody m579 q580 rfl (Nat.le_of_ble_eq_true rfl) ew_1182 ew_1183 ew_1184 (ci := 11) rfl (by decide) f581 g582 ?_
      refine ea_aload_n (pc := 1162) dL_law_1162 rfl 2 rfl ?_
      refine ea_aload_nO (pc := 1163) dL_law_1163 rfl 0 rfl ?_
      refine ea_iload_n (pc := 1164) dL_law_1164 rfl 3 rfl ?_
      refine ea_iconst (pc := 1165) dL_law_1165 (v := 1) rfl ?_
      refine ea_iadd (pc := 1166) dL_law_1166 ?_
      obtain ⟨z586, H⟩ := H
      refine ea_sld (pc := 1167) dL_law_1167 z586 ?_
      obtain ⟨a593, e594, f591, g592, H⟩ := H
      refine ea_deref1 e594 ?_
      obtain ⟨d587, xc595, h588, m589, q590, H⟩ := H
      refine ea_callV (pc := 1168) (As := [vI ((ea_q h578).2 (Int32.toNatClampNeg (x3 + (1 : Int32))))]) (st := [vI xc585]) dL_law_1168 kX12_nobody m589 q590 rfl (Nat.le_of_ble_eq_true rfl) ew_2106 ew_2107 ew_2108 (ci := 12) rfl (by decide) f591 g592 ?_
      refine ea_icmp_eq (pc := 1171) (tgt := 1574) dL_law_1171 rfl (fun c596 => ?_) (fun c596 => ?_)
      · have H := H.1 c596
        refine ea_iinc (pc := 1574) (v := 7) (lv' := [(0, vO 0), (1, vR r1), (2, vR r2), (3, vI (x3 + 7))]) dL_law_1574 3 rfl rfl (Nat.le_of_ble_eq_true rfl) [1, 2, 3, 0] rfl ?_
        refine ea_goto (pc := 1577) (tgt := 18) dL_law_1577 rfl ?_
        exact H
      · have H := H.2 c596
        refine ea_iconst (pc := 1174) dL_law_1174 (v := 0) rfl ?_
        obtain ⟨rfl, rfl⟩ := H
        exact ea_ireturn (pc := 1175) dL_law_1175 rfl (ea_bn (Or.inl rfl))
    by_cases qc27 : Int32.toInt (((ea_q h).2 (Int32.toNatClampNeg x3)) &&& (63 : Int32)) = 26
    · have H := H.2.2.2.2.2.2.2.2.2.2.2.2.2.2.2.2.2.2.2.2.2.2.2.2.2.2.1 qc27
      refine ea_tswIn (pc := 33) (tgt := 1176) dL_law_33 (by omega) (by omega) (by rw [qc27]; rfl) rfl ?_
      refine ea_aload_n (pc := 1176) dL_law_1176 rfl 1 rfl ?_
      refine ea_aload_nO (pc := 1177) dL_law_1177 rfl 0 rfl ?_
      refine ea_iload_n (pc := 1178) dL_law_1178 rfl 3 rfl ?_
      refine ea_iconst (pc := 1179) dL_law_1179 (v := 1) rfl ?_
      refine ea_iadd (pc := 1180) dL_law_1180 ?_
      obtain ⟨z597, H⟩ := H
      refine ea_sld (pc := 1181) dL_law_1181 z597 ?_
      refine ea_aload_nO (pc := 1182) dL_law_1182 rfl 0 rfl ?_
      refine ea_iload_n (pc := 1183) dL_law_1183 rfl 3 rfl ?_
      refine ea_iconst (pc := 1184) dL_law_1184 (v := 2) rfl ?_
      refine ea_iadd (pc := 1185) dL_law_1185 ?_
      obtain ⟨z598, H⟩ := H
      refine ea_sld (pc := 1186) dL_law_1186 z598 ?_
      refine ea_aload_nO (pc := 1187) dL_law_1187 rfl 0 rfl ?_
      refine ea_iload_n (pc := 1188) dL_law_1188 rfl 3 rfl ?_
      refine ea_iconst (pc := 1189) dL_law_1189 (v := 3) rfl ?_
      refine ea_iadd (pc := 1190) dL_law_1190 ?_
      obtain ⟨z599, H⟩ := H
      refine ea_sld (pc := 1191) dL_law_1191 z599 ?_
      obtain ⟨a606, e607, f604, g605, H⟩ := H
      refine ea_deref3 e607 ?_
      obtain ⟨d600, xc608, h601, m602, q603, H⟩ := H
      refine ea_callV (pc := 1192) (As := [vI ((ea_q h).2 (Int32.toNatClampNeg (x3 + (1 : Int32)))), vI ((ea_q h).2 (Int32.toNatClampNeg (x3 + (2 : Int32)))), vI ((ea_q h).2 (Int32.toNatClampNeg (x3 + (3 : Int32))))]) (st := []) dL_law_1192 kX11_place m602 q603 rfl (Nat.le_of_ble_eq_true rfl) ew_1186 ew_1187 ew_1188 (ci := 11) rfl (by decide) f604 g605 ?_
      refine ea_aload_n (pc := 1195) dL_law_1195 rfl 2 rfl ?_
      refine ea_aload_nO (pc := 1196) dL_law_1196 rfl 0 rfl ?_
      refine ea_iload_n (pc := 1197) dL_law_1197 rfl 3 rfl ?_
      refine ea_iconst (pc := 1198) dL_law_1198 (v := 1) rfl ?_
      refine ea_iadd (pc := 1199) dL_law_1199 ?_
      obtain ⟨z609, H⟩ := H
      refine ea_sld (pc := 1200) dL_law_1200 z609 ?_
      refine ea_aload_nO (pc := 1201) dL_law_1201 rfl 0 rfl ?_
      refine ea_iload_n (pc := 1202) dL_law_1202 rfl 3 rfl ?_
      refine ea_iconst (pc := 1203) dL_law_1203 (v := 2) rfl ?_
      refine ea_iadd (pc := 1204) dL_law_1204 ?_
      obtain ⟨z610, H⟩ := H
      refine ea_sld (pc := 1205) dL_law_1205 z610 ?_
      refine ea_aload_nO (pc := 1206) dL_law_1206 rfl 0 rfl ?_
      refine ea_iload_n (pc := 1207) dL_law_1207 rfl 3 rfl ?_
      refine ea_iconst (pc := 1208) dL_law_1208 (v := 3) rfl ?_
      refine ea_iadd (pc := 1209) dL_law_1209 ?_
      obtain ⟨z611, H⟩ := H
      refine ea_sld (pc := 1210) dL_law_1210 z611 ?_
      obtain ⟨a618, e619, f616, g617, H⟩ := H
      refine ea_deref3 e619 ?_
      obtain ⟨d612, xc620, h613, m614, q615, H⟩ := H
      refine ea_callV (pc := 1211) (As := [vI ((ea_q h601).2 (Int32.toNatClampNeg (x3 + (1 : Int32)))), vI ((ea_q h601).2 (Int32.toNatClampNeg (x3 + (2 : Int32)))), vI ((ea_q h601).2 (Int32.toNatClampNeg (x3 + (3 : Int32))))]) (st := [vI xc608]) dL_law_1211 kX12_place m614 q615 rfl (Nat.le_of_ble_eq_true rfl) ew_2110 ew_2111 ew_2112 (ci := 12) rfl (by decide) f616 g617 ?_
      refine ea_icmp_eq (pc := 1214) (tgt := 1574) dL_law_1214 rfl (fun c621 => ?_) (fun c621 => ?_)
      · have H := H.1 c621
        refine ea_iinc (pc := 1574) (v := 7) (lv' := [(0, vO 0), (1, vR r1), (2, vR r2), (3, vI (x3 + 7))]) dL_law_1574 3 rfl rfl (Nat.le_of_ble_eq_true rfl) [1, 2, 3, 0] rfl ?_
        refine ea_goto (pc := 1577) (tgt := 18) dL_law_1577 rfl ?_
        exact H
      · have H := H.2 c621
        refine ea_iconst (pc := 1217) dL_law_1217 (v := 0) rfl ?_
        obtain ⟨rfl, rfl⟩ := H
        exact ea_ireturn (pc := 1218) dL_law_1218 rfl (ea_bn (Or.inl rfl))
    by_cases qc28 : Int32.toInt (((ea_q h).2 (Int32.toNatClampNeg x3)) &&& (63 : Int32)) = 27
    · have H := H.2.2.2.2.2.2.2.2.2.2.2.2.2.2.2.2.2.2.2.2.2.2.2.2.2.2.2.1 qc28
      refine ea_tswIn (pc := 33) (tgt := 1219) dL_law_33 (by omega) (by omega) (by rw [qc28]; rfl) rfl ?_
      refine ea_aload_n (pc := 1219) dL_law_1219 rfl 1 rfl ?_
      refine ea_aload_nO (pc := 1220) dL_law_1220 rfl 0 rfl ?_
      refine ea_iload_n (pc := 1221) dL_law_1221 rfl 3 rfl ?_
      refine ea_iconst (pc := 1222) dL_law_1222 (v := 1) rfl ?_
      refine ea_iadd (pc := 1223) dL_law_1223 ?_
      obtain ⟨z622, H⟩ := H
      refine ea_sld (pc := 1224) dL_law_1224 z622 ?_
      refine ea_aload_nO (pc := 1225) dL_law_1225 rfl 0 rfl ?_
      refine ea_iload_n (pc := 1226) dL_law_1226 rfl 3 rfl ?_
      refine ea_iconst (pc := 1227) dL_law_1227 (v := 2) rfl ?_
      refine ea_iadd (pc := 1228) dL_law_1228 ?_
      obtain ⟨z623, H⟩ := H
      refine ea_sld (pc := 1229) dL_law_1229 z623 ?_
      obtain ⟨a630, e631, f628, g629, H⟩ := H
      refine ea_deref2 e631 ?_
      obtain ⟨d624, yc632, h625, m626, q627, H⟩ := H
      refine ea_callV (pc := 1230) (As := [vI ((ea_q h).2 (Int32.toNatClampNeg (x3 + (1 : Int32)))), vI ((ea_q h).2 (Int32.toNatClampNeg (x3 + (2 : Int32))))]) (st := []) dL_law_1230 kX11_order m626 q627 rfl (Nat.le_of_ble_eq_true rfl) ew_1202 ew_1203 ew_1204 (ci := 11) rfl (by decide) f628 g629 ?_
      refine ea_aload_n (pc := 1233) dL_law_1233 rfl 2 rfl ?_
      refine ea_aload_nO (pc := 1234) dL_law_1234 rfl 0 rfl ?_
      refine ea_iload_n (pc := 1235) dL_law_1235 rfl 3 rfl ?_
      refine ea_iconst (pc := 1236) dL_law_1236 (v := 1) rfl ?_
      refine ea_iadd (pc := 1237) dL_law_1237 ?_
      obtain ⟨z633, H⟩ := H
      refine ea_sld (pc := 1238) dL_law_1238 z633 ?_
      refine ea_aload_nO (pc := 1239) dL_law_1239 rfl 0 rfl ?_
      refine ea_iload_n (pc := 1240) dL_law_1240 rfl 3 rfl ?_
      refine ea_iconst (pc := 1241) dL_law_1241 (v := 2) rfl ?_
      refine ea_iadd (pc := 1242) dL_law_1242 ?_
      obtain ⟨z634, H⟩ := H
      refine ea_sld (pc := 1243) dL_law_1243 z634 ?_
      obtain ⟨a641, e642, f639, g640, H⟩ := H
      refine ea_deref2 e642 ?_
      obtain ⟨d635, yc643, h636, m637, q638, H⟩ := H
      refine ea_callV (pc := 1244) (As := [vI ((ea_q h625).2 (Int32.toNatClampNeg (x3 + (1 : Int32)))), vI ((ea_q h625).2 (Int32.toNatClampNeg (x3 + (2 : Int32))))]) (st := [vJ yc632]) dL_law_1244 kX12_order m637 q638 rfl (Nat.le_of_ble_eq_true rfl) ew_2114 ew_2115 ew_2116 (ci := 12) rfl (by decide) f639 g640 ?_
      refine ea_lcmp (pc := 1247) dL_law_1247 ?_
      refine ea_if_eq (pc := 1248) (tgt := 1574) dL_law_1248 rfl (fun c644 => ?_) (fun c644 => ?_)
      · have H := H.1 c644
        refine ea_iinc (pc := 1574) (v := 7) (lv' := [(0, vO 0), (1, vR r1), (2, vR r2), (3, vI (x3 + 7))]) dL_law_1574 3 rfl rfl (Nat.le_of_ble_eq_true rfl) [1, 2, 3, 0] rfl ?_
        refine ea_goto (pc := 1577) (tgt := 18) dL_law_1577 rfl ?_
        exact H
      · have H := H.2 c644
        refine ea_iconst (pc := 1251) dL_law_1251 (v := 0) rfl ?_
        obtain ⟨rfl, rfl⟩ := H
        exact ea_ireturn (pc := 1252) dL_law_1252 rfl (ea_bn (Or.inl rfl))
    by_cases qc29 : Int32.toInt (((ea_q h).2 (Int32.toNatClampNeg x3)) &&& (63 : Int32)) = 28
    · have H := H.2.2.2.2.2.2.2.2.2.2.2.2.2.2.2.2.2.2.2.2.2.2.2.2.2.2.2.2.1 qc29
      refine ea_tswIn (pc := 33) (tgt := 1253) dL_law_33 (by omega) (by omega) (by rw [qc29]; rfl) rfl ?_
      refine ea_aload_n (pc := 1253) dL_law_1253 rfl 1 rfl ?_
      refine ea_aload_nO (pc := 1254) dL_law_1254 rfl 0 rfl ?_
      refine ea_iload_n (pc := 1255) dL_law_1255 rfl 3 rfl ?_
      refine ea_iconst (pc := 1256) dL_law_1256 (v := 1) rfl ?_
      refine ea_iadd (pc := 1257) dL_law_1257 ?_
      obtain ⟨z645, H⟩ := H
      refine ea_sld (pc := 1258) dL_law_1258 z645 ?_
      refine ea_aload_nO (pc := 1259) dL_law_1259 rfl 0 rfl ?_
      refine ea_iload_n (pc := 1260) dL_law_1260 rfl 3 rfl ?_
      refine ea_iconst (pc := 1261) dL_law_1261 (v := 2) rfl ?_
      refine ea_iadd (pc := 1262) dL_law_1262 ?_
      obtain ⟨z646, H⟩ := H
      refine ea_sld (pc := 1263) dL_law_1263 z646 ?_
      obtain ⟨a653, e654, f651, g652, H⟩ := H
      refine ea_deref2 e654 ?_
      obtain ⟨d647, xc655, h648, m649, q650, H⟩ := H
      refine ea_callV (pc := 1264) (As := [vI ((ea_q h).2 (Int32.toNatClampNeg (x3 + (1 : Int32)))), vI ((ea_q h).2 (Int32.toNatClampNeg (x3 + (2 : Int32))))]) (st := []) dL_law_1264 kX11_found m649 q650 rfl (Nat.le_of_ble_eq_true rfl) ew_1219 ew_1220 ew_1221 (ci := 11) rfl (by decide) f651 g652 ?_
      refine ea_aload_n (pc := 1267) dL_law_1267 rfl 2 rfl ?_
      refine ea_aload_nO (pc := 1268) dL_law_1268 rfl 0 rfl ?_
      refine ea_iload_n (pc := 1269) dL_law_1269 rfl 3 rfl ?_
      refine ea_iconst (pc := 1270) dL_law_1270 (v := 1) rfl ?_
      refine ea_iadd (pc := 1271) dL_law_1271 ?_
      obtain ⟨z656, H⟩ := H
      refine ea_sld (pc := 1272) dL_law_1272 z656 ?_
      refine ea_aload_nO (pc := 1273) dL_law_1273 rfl 0 rfl ?_
      refine ea_iload_n (pc := 1274) dL_law_1274 rfl 3 rfl ?_
      refine ea_iconst (pc := 1275) dL_law_1275 (v := 2) rfl ?_
      refine ea_iadd (pc := 1276) dL_law_1276 ?_
      obtain ⟨z657, H⟩ := H
      refine ea_sld (pc := 1277) dL_law_1277 z657 ?_
      obtain ⟨a664, e665, f662, g663, H⟩ := H
      refine ea_deref2 e665 ?_
      obtain ⟨d658, xc666, h659, m660, q661, H⟩ := H
      refine ea_callV (pc := 1278) (As := [vI ((ea_q h648).2 (Int32.toNatClampNeg (x3 + (1 : Int32)))), vI ((ea_q h648).2 (Int32.toNatClampNeg (x3 + (2 : Int32))))]) (st := [vI xc655]) dL_law_1278 kX12_found m660 q661 rfl (Nat.le_of_ble_eq_true rfl) ew_2127 ew_2128 ew_2129 (ci := 12) rfl (by decide) f662 g663 ?_
      refine ea_icmp_eq (pc := 1281) (tgt := 1574) dL_law_1281 rfl (fun c667 => ?_) (fun c667 => ?_)
      · have H := H.1 c667
        refine ea_iinc (pc := 1574) (v := 7) (lv' := [(0, vO 0), (1, vR r1), (2, vR r2), (3, vI (x3 + 7))]) dL_law_1574 3 rfl rfl (Nat.le_of_ble_eq_true rfl) [1, 2, 3, 0] rfl ?_
        refine ea_goto (pc := 1577) (tgt := 18) dL_law_1577 rfl ?_
        exact H
      · have H := H.2 c667
        refine ea_iconst (pc := 1284) dL_law_1284 (v := 0) rfl ?_
        obtain ⟨rfl, rfl⟩ := H
        exact ea_ireturn (pc := 1285) dL_law_1285 rfl (ea_bn (Or.inl rfl))
    by_cases qc30 : Int32.toInt (((ea_q h).2 (Int32.toNatClampNeg x3)) &&& (63 : Int32)) = 29
    · have H := H.2.2.2.2.2.2.2.2.2.2.2.2.2.2.2.2.2.2.2.2.2.2.2.2.2.2.2.2.2.1 qc30
      refine ea_tswIn (pc := 33) (tgt := 1286) dL_law_33 (by omega) (by omega) (by rw [qc30]; rfl) rfl ?_
      refine ea_aload_n (pc := 1286) dL_law_1286 rfl 1 rfl ?_
      refine ea_aload_nO (pc := 1287) dL_law_1287 rfl 0 rfl ?_
      refine ea_iload_n (pc := 1288) dL_law_1288 rfl 3 rfl ?_
      refine ea_iconst (pc := 1289) dL_law_1289 (v := 1) rfl ?_
      refine ea_iadd (pc := 1290) dL_law_1290 ?_
      obtain ⟨z668, H⟩ := H
      refine ea_sld (pc := 1291) dL_law_1291 z668 ?_
      refine ea_aload_nO (pc := 1292) dL_law_1292 rfl 0 rfl ?_
      refine ea_iload_n (pc := 1293) dL_law_1293 rfl 3 rfl ?_
      refine ea_iconst (pc := 1294) dL_law_1294 (v := 2) rfl ?_
      refine ea_iadd (pc := 1295) dL_law_1295 ?_
      obtain ⟨z669, H⟩ := H
      refine ea_sld (pc := 1296) dL_law_1296 z669 ?_
      obtain ⟨a676, e677, f674, g675, H⟩ := H
      refine ea_deref2 e677 ?_
      obtain ⟨d670, xc678, h671, m672, q673, H⟩ := H
      refine ea_callV (pc := 1297) (As := [vI ((ea_q h).2 (Int32.toNatClampNeg (x3 + (1 : Int32)))), vI ((ea_q h).2 (Int32.toNatClampNeg (x3 + (2 : Int32))))]) (st := []) dL_law_1297 kX11_rob m672 q673 rfl (Nat.le_of_ble_eq_true rfl) ew_1225 ew_1226 ew_1227 (ci := 11) rfl (by decide) f674 g675 ?_
      refine ea_aload_n (pc := 1300) dL_law_1300 rfl 2 rfl ?_
      refine ea_aload_nO (pc := 1301) dL_law_1301 rfl 0 rfl ?_
      refine ea_iload_n (pc := 1302) dL_law_1302 rfl 3 rfl ?_
      refine ea_iconst (pc := 1303) dL_law_1303 (v := 1) rfl ?_
      refine ea_iadd (pc := 1304) dL_law_1304 ?_
      obtain ⟨z679, H⟩ := H
      refine ea_sld (pc := 1305) dL_law_1305 z679 ?_
      refine ea_aload_nO (pc := 1306) dL_law_1306 rfl 0 rfl ?_
      refine ea_iload_n (pc := 1307) dL_law_1307 rfl 3 rfl ?_
      refine ea_iconst (pc := 1308) dL_law_1308 (v := 2) rfl ?_
      refine ea_iadd (pc := 1309) dL_law_1309 ?_
      obtain ⟨z680, H⟩ := H
      refine ea_sld (pc := 1310) dL_law_1310 z680 ?_
      obtain ⟨a687, e688, f685, g686, H⟩ := H
      refine ea_deref2 e688 ?_
      obtain ⟨d681, xc689, h682, m683, q684, H⟩ := H
      refine ea_callV (pc := 1311) (As := [vI ((ea_q h671).2 (Int32.toNatClampNeg (x3 + (1 : Int32)))), vI ((ea_q h671).2 (Int32.toNatClampNeg (x3 + (2 : Int32))))]) (st := [vI xc678]) dL_law_1311 kX12_rob m683 q684 rfl (Nat.le_of_ble_eq_true rfl) ew_2131 ew_2132 ew_2133 (ci := 12) rfl (by decide) f685 g686 ?_
      refine ea_icmp_eq (pc := 1314) (tgt := 1574) dL_law_1314 rfl (fun c690 => ?_) (fun c690 => ?_)
      · have H := H.1 c690
        refine ea_iinc (pc := 1574) (v := 7) (lv' := [(0, vO 0), (1, vR r1), (2, vR r2), (3, vI (x3 + 7))]) dL_law_1574 3 rfl rfl (Nat.le_of_ble_eq_true rfl) [1, 2, 3, 0] rfl ?_
        refine ea_goto (pc := 1577) (tgt := 18) dL_law_1577 rfl ?_
        exact H
      · have H := H.2 c690
        refine ea_iconst (pc := 1317) dL_law_1317 (v := 0) rfl ?_
        obtain ⟨rfl, rfl⟩ := H
        exact ea_ireturn (pc := 1318) dL_law_1318 rfl (ea_bn (Or.inl rfl))
    by_cases qc31 : Int32.toInt (((ea_q h).2 (Int32.toNatClampNeg x3)) &&& (63 : Int32)) = 30
    · have H := H.2.2.2.2.2.2.2.2.2.2.2.2.2.2.2.2.2.2.2.2.2.2.2.2.2.2.2.2.2.2.1 qc31
      refine ea_tswIn (pc := 33) (tgt := 1319) dL_law_33 (by omega) (by omega) (by rw [qc31]; rfl) rfl ?_
      refine ea_aload_n (pc := 1319) dL_law_1319 rfl 1 rfl ?_
      refine ea_aload_nO (pc := 1320) dL_law_1320 rfl 0 rfl ?_
      refine ea_iload_n (pc := 1321) dL_law_1321 rfl 3 rfl ?_
      refine ea_iconst (pc := 1322) dL_law_1322 (v := 1) rfl ?_
      refine ea_iadd (pc := 1323) dL_law_1323 ?_
      obtain ⟨z691, H⟩ := H
      refine ea_sld (pc := 1324) dL_law_1324 z691 ?_
      refine ea_aload_nO (pc := 1325) dL_law_1325 rfl 0 rfl ?_
      refine ea_iload_n (pc := 1326) dL_law_1326 rfl 3 rfl ?_
      refine ea_iconst (pc := 1327) dL_law_1327 (v := 2) rfl ?_
      refine ea_iadd (pc := 1328) dL_law_1328 ?_
      obtain ⟨z692, H⟩ := H
      refine ea_sld (pc := 1329) dL_law_1329 z692 ?_
      obtain ⟨a699, e700, f697, g698, H⟩ := H
      refine ea_deref2 e700 ?_
      obtain ⟨d693, xc701, h694, m695, q696, H⟩ := H
      refine ea_callV (pc := 1330) (As := [vI ((ea_q h).2 (Int32.toNatClampNeg (x3 + (1 : Int32)))), vI ((ea_q h).2 (Int32.toNatClampNeg (x3 + (2 : Int32))))]) (st := []) dL_law_1330 kX11_robbery m695 q696 rfl (Nat.le_of_ble_eq_true rfl) ew_1264 ew_1265 ew_1266 (ci := 11) rfl (by decide) f697 g698 ?_
      refine ea_aload_n (pc := 1333) dL_law_1333 rfl 2 rfl ?_
      refine ea_aload_nO (pc := 1334) dL_law_1334 rfl 0 rfl ?_
      refine ea_iload_n (pc := 1335) dL_law_1335 rfl 3 rfl ?_
      refine ea_iconst (pc := 1336) dL_law_1336 (v := 1) rfl ?_
      refine ea_iadd (pc := 1337) dL_law_1337 ?_
      obtain ⟨z702, H⟩ := H
      refine ea_sld (pc := 1338) dL_law_1338 z702 ?_
      refine ea_aload_nO (pc := 1339) dL_law_1339 rfl 0 rfl ?_
      refine ea_iload_n (pc := 1340) dL_law_1340 rfl 3 rfl ?_
      refine ea_iconst (pc := 1341) dL_law_1341 (v := 2) rfl ?_
      refine ea_iadd (pc := 1342) dL_law_1342 ?_
      obtain ⟨z703, H⟩ := H
      refine ea_sld (pc := 1343) dL_law_1343 z703 ?_
      obtain ⟨a710, e711, f708, g709, H⟩ := H
      refine ea_deref2 e711 ?_
      obtain ⟨d704, xc712, h705, m706, q707, H⟩ := H
      refine ea_callV (pc := 1344) (As := [vI ((ea_q h694).2 (Int32.toNatClampNeg (x3 + (1 : Int32)))), vI ((ea_q h694).2 (Int32.toNatClampNeg (x3 + (2 : Int32))))]) (st := [vI xc701]) dL_law_1344 kX12_robbery m706 q707 rfl (Nat.le_of_ble_eq_true rfl) ew_2135 ew_2136 ew_2137 (ci := 12) rfl (by decide) f708 g709 ?_
      refine ea_icmp_eq (pc := 1347) (tgt := 1574) dL_law_1347 rfl (fun c713 => ?_) (fun c713 => ?_)
      · have H := H.1 c713
        refine ea_iinc (pc := 1574) (v := 7) (lv' := [(0, vO 0), (1, vR r1), (2, vR r2), (3, vI (x3 + 7))]) dL_law_1574 3 rfl rfl (Nat.le_of_ble_eq_true rfl) [1, 2, 3, 0] rfl ?_
        refine ea_goto (pc := 1577) (tgt := 18) dL_law_1577 rfl ?_
        exact H
      · have H := H.2 c713
        refine ea_iconst (pc := 1350) dL_law_1350 (v := 0) rfl ?_
        obtain ⟨rfl, rfl⟩ := H
        exact ea_ireturn (pc := 1351) dL_law_1351 rfl (ea_bn (Or.inl rfl))
    by_cases qc32 : Int32.toInt (((ea_q h).2 (Int32.toNatClampNeg x3)) &&& (63 : Int32)) = 31
    · have H := H.2.2.2.2.2.2.2.2.2.2.2.2.2.2.2.2.2.2.2.2.2.2.2.2.2.2.2.2.2.2.2.1 qc32
      refine ea_tswIn (pc := 33) (tgt := 1352) dL_law_33 (by omega) (by omega) (by rw [qc32]; rfl) rfl ?_
      refine ea_aload_n (pc := 1352) dL_law_1352 rfl 1 rfl ?_
      refine ea_aload_nO (pc := 1353) dL_law_1353 rfl 0 rfl ?_
      refine ea_iload_n (pc := 1354) dL_law_1354 rfl 3 rfl ?_
      refine ea_iconst (pc := 1355) dL_law_1355 (v := 1) rfl ?_
      refine ea_iadd (pc := 1356) dL_law_1356 ?_
      obtain ⟨z714, H⟩ := H
      refine ea_sld (pc := 1357) dL_law_1357 z714 ?_
      obtain ⟨a721, e722, f719, g720, H⟩ := H
      refine ea_deref1 e722 ?_
      obtain ⟨d715, xc723, h716, m717, q718, H⟩ := H
      refine ea_callV (pc := 1358) (As := [vI ((ea_q h).2 (Int32.toNatClampNeg (x3 + (1 : Int32))))]) (st := []) dL_law_1358 kX11_set m717 q718 rfl (Nat.le_of_ble_eq_true rfl) ew_1272 ew_1273 ew_1274 (ci := 11) rfl (by decide) f719 g720 ?_
      refine ea_aload_n (pc := 1361) dL_law_1361 rfl 2 rfl ?_
      refine ea_aload_nO (pc := 1362) dL_law_1362 rfl 0 rfl ?_
      refine ea_iload_n (pc := 1363) dL_law_1363 rfl 3 rfl ?_
      refine ea_iconst (pc := 1364) dL_law_1364 (v := 1) rfl ?_
      refine ea_iadd (pc := 1365) dL_law_1365 ?_
      obtain ⟨z724, H⟩ := H
      refine ea_sld (pc := 1366) dL_law_1366 z724 ?_
      obtain ⟨a731, e732, f729, g730, H⟩ := H
      refine ea_deref1 e732 ?_
      obtain ⟨d725, xc733, h726, m727, q728, H⟩ := H
      refine ea_callV (pc := 1367) (As := [vI ((ea_q h716).2 (Int32.toNatClampNeg (x3 + (1 : Int32))))]) (st := [vI xc723]) dL_law_1367 kX12_set m727 q728 rfl (Nat.le_of_ble_eq_true rfl) ew_2139 ew_2140 ew_2141 (ci := 12) rfl (by decide) f729 g730 ?_
      refine ea_icmp_eq (pc := 1370) (tgt := 1574) dL_law_1370 rfl (fun c734 => ?_) (fun c734 => ?_)
      · have H := H.1 c734
        refine ea_iinc (pc := 1574) (v := 7) (lv' := [(0, vO 0), (1, vR r1), (2, vR r2), (3, vI (x3 + 7))]) dL_law_1574 3 rfl rfl (Nat.le_of_ble_eq_true rfl) [1, 2, 3, 0] rfl ?_
        refine ea_goto (pc := 1577) (tgt := 18) dL_law_1577 rfl ?_
        exact H
      · have H := H.2 c734
        refine ea_iconst (pc := 1373) dL_law_1373 (v := 0) rfl ?_
        obtain ⟨rfl, rfl⟩ := H
        exact ea_ireturn (pc := 1374) dL_law_1374 rfl (ea_bn (Or.inl rfl))
    by_cases qc33 : Int32.toInt (((ea_q h).2 (Int32.toNatClampNeg x3)) &&& (63 : Int32)) = 32
    · have H := H.2.2.2.2.2.2.2.2.2.2.2.2.2.2.2.2.2.2.2.2.2.2.2.2.2.2.2.2.2.2.2.2.1 qc33
      refine ea_tswIn (pc := 33) (tgt := 1375) dL_law_33 (by omega) (by omega) (by rw [qc33]; rfl) rfl ?_
      refine ea_aload_n (pc := 1375) dL_law_1375 rfl 1 rfl ?_
      refine ea_aload_nO (pc := 1376) dL_law_1376 rfl 0 rfl ?_
      refine ea_iload_n (pc := 1377) dL_law_1377 rfl 3 rfl ?_
      refine ea_iconst (pc := 1378) dL_law_1378 (v := 1) rfl ?_
      refine ea_iadd (pc := 1379) dL_law_1379 ?_
      obtain ⟨z735, H⟩ := H
      refine ea_sld (pc := 1380) dL_law_1380 z735 ?_
      refine ea_aload_nO (pc := 1381) dL_law_1381 rfl 0 rfl ?_
      refine ea_iload_n (pc := 1382) dL_law_1382 rfl 3 rfl ?_
      refine ea_iconst (pc := 1383) dL_law_1383 (v := 2) rfl ?_
      refine ea_iadd (pc := 1384) dL_law_1384 ?_
      obtain ⟨z736, H⟩ := H
      refine ea_sld (pc := 1385) dL_law_1385 z736 ?_
      obtain ⟨a743, e744, f741, g742, H⟩ := H
      refine ea_deref2 e744 ?_
      obtain ⟨d737, xc745, h738, m739, q740, H⟩ := H
      refine ea_callV (pc := 1386) (As := [vI ((ea_q h).2 (Int32.toNatClampNeg (x3 + (1 : Int32)))), vI ((ea_q h).2 (Int32.toNatClampNeg (x3 + (2 : Int32))))]) (st := []) dL_law_1386 kX11_seen m739 q740 rfl (Nat.le_of_ble_eq_true rfl) ew_1276 ew_1277 ew_1278 (ci := 11) rfl (by decide) f741 g742 ?_
      refine ea_aload_n (pc := 1389) dL_law_1389 rfl 2 rfl ?_
      refine ea_aload_nO (pc := 1390) dL_law_1390 rfl 0 rfl ?_
      refine ea_iload_n (pc := 1391) dL_law_1391 rfl 3 rfl ?_
      refine ea_iconst (pc := 1392) dL_law_1392 (v := 1) rfl ?_
      refine ea_iadd (pc := 1393) dL_law_1393 ?_
      obtain ⟨z746, H⟩ := H
      refine ea_sld (pc := 1394) dL_law_1394 z746 ?_
      refine ea_aload_nO (pc := 1395) dL_law_1395 rfl 0 rfl ?_
      refine ea_iload_n (pc := 1396) dL_law_1396 rfl 3 rfl ?_
      refine ea_iconst (pc := 1397) dL_law_1397 (v := 2) rfl ?_
      refine ea_iadd (pc := 1398) dL_law_1398 ?_
      obtain ⟨z747, H⟩ := H
      refine ea_sld (pc := 1399) dL_law_1399 z747 ?_
      obtain ⟨a754, e755, f752, g753, H⟩ := H
      refine ea_deref2 e755 ?_
      obtain ⟨d748, xc756, h749, m750, q751, H⟩ := H
      refine ea_callV (pc := 1400) (As := [vI ((ea_q h738).2 (Int32.toNatClampNeg (x3 + (1 : Int32)))), vI ((ea_q h738).2 (Int32.toNatClampNeg (x3 + (2 : Int32))))]) (st := [vI xc745]) dL_law_1400 kX12_seen m750 q751 rfl (Nat.le_of_ble_eq_true rfl) ew_2143 ew_2144 ew_2145 (ci := 12) rfl (by decide) f752 g753 ?_
      refine ea_icmp_eq (pc := 1403) (tgt := 1574) dL_law_1403 rfl (fun c757 => ?_) (fun c757 => ?_)
      · have H := H.1 c757
        refine ea_iinc (pc := 1574) (v := 7) (lv' := [(0, vO 0), (1, vR r1), (2, vR r2), (3, vI (x3 + 7))]) dL_law_1574 3 rfl rfl (Nat.le_of_ble_eq_true rfl) [1, 2, 3, 0] rfl ?_
        refine ea_goto (pc := 1577) (tgt := 18) dL_law_1577 rfl ?_
        exact H
      · have H := H.2 c757
        refine ea_iconst (pc := 1406) dL_law_1406 (v := 0) rfl ?_
        obtain ⟨rfl, rfl⟩ := H
        exact ea_ireturn (pc := 1407) dL_law_1407 rfl (ea_bn (Or.inl rfl))
    by_cases qc34 : Int32.toInt (((ea_q h).2 (Int32.toNatClampNeg x3)) &&& (63 : Int32)) = 33
    · have H := H.2.2.2.2.2.2.2.2.2.2.2.2.2.2.2.2.2.2.2.2.2.2.2.2.2.2.2.2.2.2.2.2.2.1 qc34
      refine ea_tswIn (pc := 33) (tgt := 1408) dL_law_33 (by omega) (by omega) (by rw [qc34]; rfl) rfl ?_
      refine ea_aload_n (pc := 1408) dL_law_1408 rfl 1 rfl ?_
      refine ea_aload_nO (pc := 1409) dL_law_1409 rfl 0 rfl ?_
      refine ea_iload_n (pc := 1410) dL_law_1410 rfl 3 rfl ?_
      refine ea_iconst (pc := 1411) dL_law_1411 (v := 1) rfl ?_
      refine ea_iadd (pc := 1412) dL_law_1412 ?_
      obtain ⟨z758, H⟩ := H
      refine ea_sld (pc := 1413) dL_law_1413 z758 ?_
      refine ea_aload_nO (pc := 1414) dL_law_1414 rfl 0 rfl ?_
      refine ea_iload_n (pc := 1415) dL_law_1415 rfl 3 rfl ?_
      refine ea_iconst (pc := 1416) dL_law_1416 (v := 2) rfl ?_
      refine ea_iadd (pc := 1417) dL_law_1417 ?_
      obtain ⟨z759, H⟩ := H
      refine ea_sld (pc := 1418) dL_law_1418 z759 ?_
      obtain ⟨a766, e767, f764, g765, H⟩ := H
      refine ea_deref2 e767 ?_
      obtain ⟨d760, xc768, h761, m762, q763, H⟩ := H
      refine ea_callV (pc := 1419) (As := [vI ((ea_q h).2 (Int32.toNatClampNeg (x3 + (1 : Int32)))), vI ((ea_q h).2 (Int32.toNatClampNeg (x3 + (2 : Int32))))]) (st := []) dL_law_1419 kX11_clock m762 q763 rfl (Nat.le_of_ble_eq_true rfl) ew_1287 ew_1288 ew_1289 (ci := 11) rfl (by decide) f764 g765 ?_
      refine ea_aload_n (pc := 1422) dL_law_1422 rfl 2 rfl ?_
      refine ea_aload_nO (pc := 1423) dL_law_1423 rfl 0 rfl ?_
      refine ea_iload_n (pc := 1424) dL_law_1424 rfl 3 rfl ?_
      refine ea_iconst (pc := 1425) dL_law_1425 (v := 1) rfl ?_
      refine ea_iadd (pc := 1426) dL_law_1426 ?_
      obtain ⟨z769, H⟩ := H
      refine ea_sld (pc := 1427) dL_law_1427 z769 ?_
      refine ea_aload_nO (pc := 1428) dL_law_1428 rfl 0 rfl ?_
      refine ea_iload_n (pc := 1429) dL_law_1429 rfl 3 rfl ?_
      refine ea_iconst (pc := 1430) dL_law_1430 (v := 2) rfl ?_
      refine ea_iadd (pc := 1431) dL_law_1431 ?_
      obtain ⟨z770, H⟩ := H
      refine ea_sld (pc := 1432) dL_law_1432 z770 ?_
      obtain ⟨a777, e778, f775, g776, H⟩ := H
      refine ea_deref2 e778 ?_
      obtain ⟨d771, xc779, h772, m773, q774, H⟩ := H
      refine ea_callV (pc := 1433) (As := [vI ((ea_q h761).2 (Int32.toNatClampNeg (x3 + (1 : Int32)))), vI ((ea_q h761).2 (Int32.toNatClampNeg (x3 + (2 : Int32))))]) (st := [vI xc768]) dL_law_1433 kX12_clock m773 q774 rfl (Nat.le_of_ble_eq_true rfl) ew_2155 ew_2156 ew_2157 (ci := 12) rfl (by decide) f775 g776 ?_
      refine ea_icmp_eq (pc := 1436) (tgt := 1574) dL_law_1436 rfl (fun c780 => ?_) (fun c780 => ?_)
      · have H := H.1 c780
        refine ea_iinc (pc := 1574) (v := 7) (lv' := [(0, vO 0), (1, vR r1), (2, vR r2), (3, vI (x3 + 7))]) dL_law_1574 3 rfl rfl (Nat.le_of_ble_eq_true rfl) [1, 2, 3, 0] rfl ?_
        refine ea_goto (pc := 1577) (tgt := 18) dL_law_1577 rfl ?_
        exact H
      · have H := H.2 c780
        refine ea_iconst (pc := 1439) dL_law_1439 (v := 0) rfl ?_
        obtain ⟨rfl, rfl⟩ := H
        exact ea_ireturn (pc := 1440) dL_law_1440 rfl (ea_bn (Or.inl rfl))
    by_cases qc35 : Int32.toInt (((ea_q h).2 (Int32.toNatClampNeg x3)) &&& (63 : Int32)) = 34
    · have H := H.2.2.2.2.2.2.2.2.2.2.2.2.2.2.2.2.2.2.2.2.2.2.2.2.2.2.2.2.2.2.2.2.2.2.1 qc35
      refine ea_tswIn (pc := 33) (tgt := 1441) dL_law_33 (by omega) (by omega) (by rw [qc35]; rfl) rfl ?_
      refine ea_aload_n (pc := 1441) dL_law_1441 rfl 1 rfl ?_
      refine ea_aload_nO (pc := 1442) dL_law_1442 rfl 0 rfl ?_
      refine ea_iload_n (pc := 1443) dL_law_1443 rfl 3 rfl ?_
      refine ea_iconst (pc := 1444) dL_law_1444 (v := 1) rfl ?_
      refine ea_iadd (pc := 1445) dL_law_1445 ?_
      obtain ⟨z781, H⟩ := H
      refine ea_sld (pc := 1446) dL_law_1446 z781 ?_
      refine ea_aload_nO (pc := 1447) dL_law_1447 rfl 0 rfl ?_
      refine ea_iload_n (pc := 1448) dL_law_1448 rfl 3 rfl ?_
      refine ea_iconst (pc := 1449) dL_law_1449 (v := 2) rfl ?_
      refine ea_iadd (pc := 1450) dL_law_1450 ?_
      obtain ⟨z782, H⟩ := H
      refine ea_sld (pc := 1451) dL_law_1451 z782 ?_
      refine ea_aload_nO (pc := 1452) dL_law_1452 rfl 0 rfl ?_
      refine ea_iload_n (pc := 1453) dL_law_1453 rfl 3 rfl ?_
      refine ea_iconst (pc := 1454) dL_law_1454 (v := 3) rfl ?_
      refine ea_iadd (pc := 1455) dL_law_1455 ?_
      obtain ⟨z783, H⟩ := H
      refine ea_sld (pc := 1456) dL_law_1456 z783 ?_
      obtain ⟨a790, e791, f788, g789, H⟩ := H
      refine ea_deref3 e791 ?_
      obtain ⟨d784, xc792, h785, m786, q787, H⟩ := H
      refine ea_callV (pc := 1457) (As := [vI ((ea_q h).2 (Int32.toNatClampNeg (x3 + (1 : Int32)))), vI ((ea_q h).2 (Int32.toNatClampNeg (x3 + (2 : Int32)))), vI ((ea_q h).2 (Int32.toNatClampNeg (x3 + (3 : Int32))))]) (st := []) dL_law_1457 kX11_trueMinute m786 q787 rfl (Nat.le_of_ble_eq_true rfl) ew_1291 ew_1292 ew_1293 (ci := 11) rfl (by decide) f788 g789 ?_
      refine ea_aload_n (pc := 1460) dL_law_1460 rfl 2 rfl ?_
      refine ea_aload_nO (pc := 1461) dL_law_1461 rfl 0 rfl ?_
      refine ea_iload_n (pc := 1462) dL_law_1462 rfl 3 rfl ?_
      refine ea_iconst (pc := 1463) dL_law_1463 (v := 1) rfl ?_
      refine ea_iadd (pc := 1464) dL_law_1464 ?_
      obtain ⟨z793, H⟩ := H
      refine ea_sld (pc := 1465) dL_law_1465 z793 ?_
      refine ea_aload_nO (pc := 1466) dL_law_1466 rfl 0 rfl ?_
      refine ea_iload_n (pc := 1467) dL_law_1467 rfl 3 rfl ?_
      refine ea_iconst (pc := 1468) dL_law_1468 (v := 2) rfl ?_
      refine ea_iadd (pc := 1469) dL_law_1469 ?_
      obtain ⟨z794, H⟩ := H
      refine ea_sld (pc := 1470) dL_law_1470 z794 ?_
      refine ea_aload_nO (pc := 1471) dL_law_1471 rfl 0 rfl ?_
      refine ea_iload_n (pc := 1472) dL_law_1472 rfl 3 rfl ?_
      refine ea_iconst (pc := 1473) dL_law_1473 (v := 3) rfl ?_
      refine ea_iadd (pc := 1474) dL_law_1474 ?_
      obtain ⟨z795, H⟩ := H
      refine ea_sld (pc := 1475) dL_law_1475 z795 ?_
      obtain ⟨a802, e803, f800, g801, H⟩ := H
      refine ea_deref3 e803 ?_
      obtain ⟨d796, xc804, h797, m798, q799, H⟩ := H
      refine ea_callV (pc := 1476) (As := [vI ((ea_q h785).2 (Int32.toNatClampNeg (x3 + (1 : Int32)))), vI ((ea_q h785).2 (Int32.toNatClampNeg (x3 + (2 : Int32)))), vI ((ea_q h785).2 (Int32.toNatClampNeg (x3 + (3 : Int32))))]) (st := [vI xc792]) dL_law_1476 kX12_trueMinute m798 q799 rfl (Nat.le_of_ble_eq_true rfl) ew_2159 ew_2160 ew_2161 (ci := 12) rfl (by decide) f800 g801 ?_
      refine ea_icmp_eq (pc := 1479) (tgt := 1574) dL_law_1479 rfl (fun c805 => ?_) (fun c805 => ?_)
      · have H := H.1 c805
        refine ea_iinc (pc := 1574) (v := 7) (lv' := [(0, vO 0), (1, vR r1), (2, vR r2), (3, vI (x3 + 7))]) dL_law_1574 3 rfl rfl (Nat.le_of_ble_eq_true rfl) [1, 2, 3, 0] rfl ?_
        refine ea_goto (pc := 1577) (tgt := 18) dL_law_1577 rfl ?_
        exact H
      · have H := H.2 c805
        refine ea_iconst (pc := 1482) dL_law_1482 (v := 0) rfl ?_
        obtain ⟨rfl, rfl⟩ := H
        exact ea_ireturn (pc := 1483) dL_law_1483 rfl (ea_bn (Or.inl rfl))
    by_cases qc36 : Int32.toInt (((ea_q h).2 (Int32.toNatClampNeg x3)) &&& (63 : Int32)) = 35
    · have H := H.2.2.2.2.2.2.2.2.2.2.2.2.2.2.2.2.2.2.2.2.2.2.2.2.2.2.2.2.2.2.2.2.2.2.2.1 qc36
      refine ea_tswIn (pc := 33) (tgt := 1484) dL_law_33 (by omega) (by omega) (by rw [qc36]; rfl) rfl ?_
      refine ea_aload_n (pc := 1484) dL_law_1484 rfl 1 rfl ?_
      refine ea_aload_nO (pc := 1485) dL_law_1485 rfl 0 rfl ?_
      refine ea_iload_n (pc := 1486) dL_law_1486 rfl 3 rfl ?_
      refine ea_iconst (pc := 1487) dL_law_1487 (v := 1) rfl ?_
      refine ea_iadd (pc := 1488) dL_law_1488 ?_
      obtain ⟨z806, H⟩ := H
      refine ea_sld (pc := 1489) dL_law_1489 z806 ?_
      obtain ⟨a813, e814, f811, g812, H⟩ := H
      refine ea_deref1 e814 ?_
      obtain ⟨d807, yc815, h808, m809, q810, H⟩ := H
      refine ea_callV (pc := 1490) (As := [vI ((ea_q h).2 (Int32.toNatClampNeg (x3 + (1 : Int32))))]) (st := []) dL_law_1490 kX11_tried m809 q810 rfl (Nat.le_of_ble_eq_true rfl) ew_1307 ew_1308 ew_1309 (ci := 11) rfl (by decide) f811 g812 ?_
      refine ea_aload_n (pc := 1493) dL_law_1493 rfl 2 rfl ?_
      refine ea_aload_nO (pc := 1494) dL_law_1494 rfl 0 rfl ?_
      refine ea_iload_n (pc := 1495) dL_law_1495 rfl 3 rfl ?_
      refine ea_iconst (pc := 1496) dL_law_1496 (v := 1) rfl ?_
      refine ea_iadd (pc := 1497) dL_law_1497 ?_
      obtain ⟨z816, H⟩ := H
      refine ea_sld (pc := 1498) dL_law_1498 z816 ?_
      obtain ⟨a823, e824, f821, g822, H⟩ := H
      refine ea_deref1 e824 ?_
      obtain ⟨d817, yc825, h818, m819, q820, H⟩ := H
      refine ea_callV (pc := 1499) (As := [vI ((ea_q h808).2 (Int32.toNatClampNeg (x3 + (1 : Int32))))]) (st := [vJ yc815]) dL_law_1499 kX12_tried m819 q820 rfl (Nat.le_of_ble_eq_true rfl) ew_2167 ew_2168 ew_2169 (ci := 12) rfl (by decide) f821 g822 ?_
      refine ea_lcmp (pc := 1502) dL_law_1502 ?_
      refine ea_if_eq (pc := 1503) (tgt := 1574) dL_law_1503 rfl (fun c826 => ?_) (fun c826 => ?_)
      · have H := H.1 c826
        refine ea_iinc (pc := 1574) (v := 7) (lv' := [(0, vO 0), (1, vR r1), (2, vR r2), (3, vI (x3 + 7))]) dL_law_1574 3 rfl rfl (Nat.le_of_ble_eq_true rfl) [1, 2, 3, 0] rfl ?_
        refine ea_goto (pc := 1577) (tgt := 18) dL_law_1577 rfl ?_
        exact H
      · have H := H.2 c826
        refine ea_iconst (pc := 1506) dL_law_1506 (v := 0) rfl ?_
        obtain ⟨rfl, rfl⟩ := H
        exact ea_ireturn (pc := 1507) dL_law_1507 rfl (ea_bn (Or.inl rfl))
    by_cases qc37 : Int32.toInt (((ea_q h).2 (Int32.toNatClampNeg x3)) &&& (63 : Int32)) = 36
    · have H := H.2.2.2.2.2.2.2.2.2.2.2.2.2.2.2.2.2.2.2.2.2.2.2.2.2.2.2.2.2.2.2.2.2.2.2.2.1 qc37
      refine ea_tswIn (pc := 33) (tgt := 1508) dL_law_33 (by omega) (by omega) (by rw [qc37]; rfl) rfl ?_
      refine ea_aload_n (pc := 1508) dL_law_1508 rfl 1 rfl ?_
      refine ea_aload_nO (pc := 1509) dL_law_1509 rfl 0 rfl ?_
      refine ea_iload_n (pc := 1510) dL_law_1510 rfl 3 rfl ?_
      refine ea_iconst (pc := 1511) dL_law_1511 (v := 1) rfl ?_
      refine ea_iadd (pc := 1512) dL_law_1512 ?_
      obtain ⟨z827, H⟩ := H
      refine ea_sld (pc := 1513) dL_law_1513 z827 ?_
      refine ea_aload_nO (pc := 1514) dL_law_1514 rfl 0 rfl ?_
      refine ea_iload_n (pc := 1515) dL_law_1515 rfl 3 rfl ?_
      refine ea_iconst (pc := 1516) dL_law_1516 (v := 2) rfl ?_
      refine ea_iadd (pc := 1517) dL_law_1517 ?_
      obtain ⟨z828, H⟩ := H
      refine ea_sld (pc := 1518) dL_law_1518 z828 ?_
      refine ea_aload_nO (pc := 1519) dL_law_1519 rfl 0 rfl ?_
      refine ea_iload_n (pc := 1520) dL_law_1520 rfl 3 rfl ?_
      refine ea_iconst (pc := 1521) dL_law_1521 (v := 3) rfl ?_
      refine ea_iadd (pc := 1522) dL_law_1522 ?_
      obtain ⟨z829, H⟩ := H
      refine ea_sld (pc := 1523) dL_law_1523 z829 ?_
      obtain ⟨a836, e837, f834, g835, H⟩ := H
      refine ea_deref3 e837 ?_
      obtain ⟨d830, xc838, h831, m832, q833, H⟩ := H
      refine ea_callV (pc := 1524) (As := [vI ((ea_q h).2 (Int32.toNatClampNeg (x3 + (1 : Int32)))), vI ((ea_q h).2 (Int32.toNatClampNeg (x3 + (2 : Int32)))), vI ((ea_q h).2 (Int32.toNatClampNeg (x3 + (3 : Int32))))]) (st := []) dL_law_1524 kX11_whatIf m832 q833 rfl (Nat.le_of_ble_eq_true rfl) ew_1312 ew_1313 ew_1314 (ci := 11) rfl (by decide) f834 g835 ?_
      refine ea_aload_n (pc := 1527) dL_law_1527 rfl 2 rfl ?_
      refine ea_aload_nO (pc := 1528) dL_law_1528 rfl 0 rfl ?_
      refine ea_iload_n (pc := 1529) dL_law_1529 rfl 3 rfl ?_
      refine ea_iconst (pc := 1530) dL_law_1530 (v := 1) rfl ?_
      refine ea_iadd (pc := 1531) dL_law_1531 ?_
      obtain ⟨z839, H⟩ := H
      refine ea_sld (pc := 1532) dL_law_1532 z839 ?_
      refine ea_aload_nO (pc := 1533) dL_law_1533 rfl 0 rfl ?_
      refine ea_iload_n (pc := 1534) dL_law_1534 rfl 3 rfl ?_
      refine ea_iconst (pc := 1535) dL_law_1535 (v := 2) rfl ?_
      refine ea_iadd (pc := 1536) dL_law_1536 ?_
      obtain ⟨z840, H⟩ := H
      refine ea_sld (pc := 1537) dL_law_1537 z840 ?_
      refine ea_aload_nO (pc := 1538) dL_law_1538 rfl 0 rfl ?_
      refine ea_iload_n (pc := 1539) dL_law_1539 rfl 3 rfl ?_
      refine ea_iconst (pc := 1540) dL_law_1540 (v := 3) rfl ?_
      refine ea_iadd (pc := 1541) dL_law_1541 ?_
      obtain ⟨z841, H⟩ := H
      refine ea_sld (pc := 1542) dL_law_1542 z841 ?_
      obtain ⟨a848, e849, f846, g847, H⟩ := H
      refine ea_deref3 e849 ?_
      obtain ⟨d842, xc850, h843, m844, q845, H⟩ := H
      refine ea_callV (pc := 1543) (As := [vI ((ea_q h831).2 (Int32.toNatClampNeg (x3 + (1 : Int32)))), vI ((ea_q h831).2 (Int32.toNatClampNeg (x3 + (2 : Int32)))), vI ((ea_q h831).2 (Int32.toNatClampNeg (x3 + (3 : Int32))))]) (st := [vI xc838]) dL_law_1543 kX12_whatIf m844 q845 rfl (Nat.le_of_ble_eq_true rfl) ew_2171 ew_2172 ew_2173 (ci := 12) rfl (by decide) f846 g847 ?_
      refine ea_icmp_eq (pc := 1546) (tgt := 1574) dL_law_1546 rfl (fun c851 => ?_) (fun c851 => ?_)
      · have H := H.1 c851
        refine ea_iinc (pc := 1574) (v := 7) (lv' := [(0, vO 0), (1, vR r1), (2, vR r2), (3, vI (x3 + 7))]) dL_law_1574 3 rfl rfl (Nat.le_of_ble_eq_true rfl) [1, 2, 3, 0] rfl ?_
        refine ea_goto (pc := 1577) (tgt := 18) dL_law_1577 rfl ?_
        exact H
      · have H := H.2 c851
        refine ea_iconst (pc := 1549) dL_law_1549 (v := 0) rfl ?_
        obtain ⟨rfl, rfl⟩ := H
        exact ea_ireturn (pc := 1550) dL_law_1550 rfl (ea_bn (Or.inl rfl))
    by_cases qc38 : Int32.toInt (((ea_q h).2 (Int32.toNatClampNeg x3)) &&& (63 : Int32)) = 37
    · have H := H.2.2.2.2.2.2.2.2.2.2.2.2.2.2.2.2.2.2.2.2.2.2.2.2.2.2.2.2.2.2.2.2.2.2.2.2.2.1 qc38
      refine ea_tswIn (pc := 33) (tgt := 1551) dL_law_33 (by omega) (by omega) (by rw [qc38]; rfl) rfl ?_
      refine ea_aload_n (pc := 1551) dL_law_1551 rfl 1 rfl ?_
      refine ea_aload_nO (pc := 1552) dL_law_1552 rfl 0 rfl ?_
      refine ea_iload_n (pc := 1553) dL_law_1553 rfl 3 rfl ?_
      refine ea_iconst (pc := 1554) dL_law_1554 (v := 1) rfl ?_
      refine ea_iadd (pc := 1555) dL_law_1555 ?_
      obtain ⟨z852, H⟩ := H
      refine ea_sld (pc := 1556) dL_law_1556 z852 ?_
      obtain ⟨a859, e860, f857, g858, H⟩ := H
      refine ea_deref1 e860 ?_
      obtain ⟨d853, xc861, h854, m855, q856, H⟩ := H
      refine ea_callV (pc := 1557) (As := [vI ((ea_q h).2 (Int32.toNatClampNeg (x3 + (1 : Int32))))]) (st := []) dL_law_1557 kX11_seats m855 q856 rfl (Nat.le_of_ble_eq_true rfl) ew_1329 ew_1330 ew_1331 (ci := 11) rfl (by decide) f857 g858 ?_
      refine ea_aload_n (pc := 1560) dL_law_1560 rfl 2 rfl ?_
      refine ea_aload_nO (pc := 1561) dL_law_1561 rfl 0 rfl ?_
      refine ea_iload_n (pc := 1562) dL_law_1562 rfl 3 rfl ?_
      refine ea_iconst (pc := 1563) dL_law_1563 (v := 1) rfl ?_
      refine ea_iadd (pc := 1564) dL_law_1564 ?_
      obtain ⟨z862, H⟩ := H
      refine ea_sld (pc := 1565) dL_law_1565 z862 ?_
      obtain ⟨a869, e870, f867, g868, H⟩ := H
      refine ea_deref1 e870 ?_
      obtain ⟨d863, xc871, h864, m865, q866, H⟩ := H
      refine ea_callV (pc := 1566) (As := [vI ((ea_q h854).2 (Int32.toNatClampNeg (x3 + (1 : Int32))))]) (st := [vI xc861]) dL_law_1566 kX12_seats m865 q866 rfl (Nat.le_of_ble_eq_true rfl) ew_2187 ew_2188 ew_2189 (ci := 12) rfl (by decide) f867 g868 ?_
      refine ea_icmp_eq (pc := 1569) (tgt := 1574) dL_law_1569 rfl (fun c872 => ?_) (fun c872 => ?_)
      · have H := H.1 c872
        refine ea_iinc (pc := 1574) (v := 7) (lv' := [(0, vO 0), (1, vR r1), (2, vR r2), (3, vI (x3 + 7))]) dL_law_1574 3 rfl rfl (Nat.le_of_ble_eq_true rfl) [1, 2, 3, 0] rfl ?_
        refine ea_goto (pc := 1577) (tgt := 18) dL_law_1577 rfl ?_
        exact H
      · have H := H.2 c872
        refine ea_iconst (pc := 1572) dL_law_1572 (v := 0) rfl ?_
        obtain ⟨rfl, rfl⟩ := H
        exact ea_ireturn (pc := 1573) dL_law_1573 rfl (ea_bn (Or.inl rfl))
    have qd : Int32.toInt (((ea_q h).2 (Int32.toNatClampNeg x3)) &&& (63 : Int32)) < 0 ∨ 37 < Int32.toInt (((ea_q h).2 (Int32.toNatClampNeg x3)) &&& (63 : Int32)) := by omega
    have H := H.2.2.2.2.2.2.2.2.2.2.2.2.2.2.2.2.2.2.2.2.2.2.2.2.2.2.2.2.2.2.2.2.2.2.2.2.2.2 qd
    refine ea_tswOut (pc := 33) (tgt := 1574) dL_law_33 qd rfl ?_
    refine ea_iinc (pc := 1574) (v := 7) (lv' := [(0, vO 0), (1, vR r1), (2, vR r2), (3, vI (x3 + 7))]) dL_law_1574 3 rfl rfl (Nat.le_of_ble_eq_true rfl) [1, 2, 3, 0] rfl ?_
    refine ea_goto (pc := 1577) (tgt := 18) dL_law_1577 rfl ?_
    exact H
set_option maxRecDepth 100000 in
set_option maxHeartbeats 0 in
theorem bL_law_336 {d : Nat} {h0 hE h : ea_H} {rv : Option ea_V} {r1 : Option Nat} {r2 : Option Nat} {x3 : Int32} {sx0 : Int32} {sx1 : Int32} {sx2 : Int32} {sx3 : Int32} {sx4 : Int32} {sr5 : Option Nat} (H : ∃ a7, sr5 = some a7 ∧ a7 < ea_n h ∧ ea_c h a7 = 11 ∧ ∃ (d1 : Nat) (xc9 : Int32) (h2 : ea_H), ea_Met mX11_stop d1 [vR (some a7), vI sx4, vI sx3, vI sx2, vI sx1, vI sx0] h (some (vI xc9)) h2 ∧ d1 + 1 ≤ d ∧ vp_in (x3 + (1 : Int32)) (ea_q h2).1 ∧ vp_in (x3 + (2 : Int32)) (ea_q h2).1 ∧ vp_in (x3 + (3 : Int32)) (ea_q h2).1 ∧ vp_in (x3 + (4 : Int32)) (ea_q h2).1 ∧ vp_in (x3 + (5 : Int32)) (ea_q h2).1 ∧ (((ea_q h2).2 (Int32.toNatClampNeg (x3 + (5 : Int32)))) = (0 : Int32) → ea_W mL_law d h0 rv hE 373 [(0, vO 0), (1, vR r1), (2, vR r2), (3, vI x3)] [vI 0, vI ((ea_q h2).2 (Int32.toNatClampNeg (x3 + (4 : Int32)))), vI ((ea_q h2).2 (Int32.toNatClampNeg (x3 + (3 : Int32)))), vI ((ea_q h2).2 (Int32.toNatClampNeg (x3 + (2 : Int32)))), vI ((ea_q h2).2 (Int32.toNatClampNeg (x3 + (1 : Int32)))), vR r2, vI xc9] h2) ∧ (¬ ((ea_q h2).2 (Int32.toNatClampNeg (x3 + (5 : Int32)))) = (0 : Int32) → ea_W mL_law d h0 rv hE 373 [(0, vO 0), (1, vR r1), (2, vR r2), (3, vI x3)] [vI 1, vI ((ea_q h2).2 (Int32.toNatClampNeg (x3 + (4 : Int32)))), vI ((ea_q h2).2 (Int32.toNatClampNeg (x3 + (3 : Int32)))), vI ((ea_q h2).2 (Int32.toNatClampNeg (x3 + (2 : Int32)))), vI ((ea_q h2).2 (Int32.toNatClampNeg (x3 + (1 : Int32)))), vR r2, vI xc9] h2)) : ea_W mL_law d h0 rv hE 336 [(0, vO 0), (1, vR r1), (2, vR r2), (3, vI x3)] [vI sx0, vI sx1, vI sx2, vI sx3, vI sx4, vR sr5] h := by
  obtain ⟨a7, e8, f5, g6, H⟩ := H
  refine ea_deref5 e8 ?_
  obtain ⟨d1, xc9, h2, m3, q4, H⟩ := H
  refine ea_callV (pc := 336) (As := [vI sx4, vI sx3, vI sx2, vI sx1, vI sx0]) (st := []) dL_law_336 kX11_stop m3 q4 rfl (Nat.le_of_ble_eq_true rfl) ew_514 ew_515 ew_516 (ci := 11) rfl (by decide) f5 g6 ?_
  refine ea_aload_n (pc := 339) dL_law_339 rfl 2 rfl ?_
  refine ea_aload_nO (pc := 340) dL_law_340 rfl 0 rfl ?_
  refine ea_iload_n (pc := 341) dL_law_341 rfl 3 rfl ?_
  refine ea_iconst (pc := 342) dL_law_342 (v := 1) rfl ?_
  refine ea_iadd (pc := 343) dL_law_343 ?_
  obtain ⟨z10, H⟩ := H
  refine ea_sld (pc := 344) dL_law_344 z10 ?_
  refine ea_aload_nO (pc := 345) dL_law_345 rfl 0 rfl ?_
  refine ea_iload_n (pc := 346) dL_law_346 rfl 3 rfl ?_
  refine ea_iconst (pc := 347) dL_law_347 (v := 2) rfl ?_
  refine ea_iadd (pc := 348) dL_law_348 ?_
  obtain ⟨z11, H⟩ := H
  refine ea_sld (pc := 349) dL_law_349 z11 ?_
  refine ea_aload_nO (pc := 350) dL_law_350 rfl 0 rfl ?_
  refine ea_iload_n (pc := 351) dL_law_351 rfl 3 rfl ?_
  refine ea_iconst (pc := 352) dL_law_352 (v := 3) rfl ?_
  refine ea_iadd (pc := 353) dL_law_353 ?_
  obtain ⟨z12, H⟩ := H
  refine ea_sld (pc := 354) dL_law_354 z12 ?_
  refine ea_aload_nO (pc := 355) dL_law_355 rfl 0 rfl ?_
  refine ea_iload_n (pc := 356) dL_law_356 rfl 3 rfl ?_
  refine ea_iconst (pc := 357) dL_law_357 (v := 4) rfl ?_
  refine ea_iadd (pc := 358) dL_law_358 ?_
  obtain ⟨z13, H⟩ := H
  refine ea_sld (pc := 359) dL_law_359 z13 ?_
  refine ea_aload_nO (pc := 360) dL_law_360 rfl 0 rfl ?_
  refine ea_iload_n (pc := 361) dL_law_361 rfl 3 rfl ?_
  refine ea_iconst (pc := 362) dL_law_362 (v := 5) rfl ?_
  refine ea_iadd (pc := 363) dL_law_363 ?_
  obtain ⟨z14, H⟩ := H
  refine ea_sld (pc := 364) dL_law_364 z14 ?_
  refine ea_if_eq (pc := 365) (tgt := 372) dL_law_365 rfl (fun c15 => ?_) (fun c15 => ?_)
  · have H := H.1 c15
    refine ea_iconst (pc := 372) dL_law_372 (v := 0) rfl ?_
    exact H
  · have H := H.2 c15
    refine ea_iconst (pc := 368) dL_law_368 (v := 1) rfl ?_
    refine ea_goto (pc := 369) (tgt := 373) dL_law_369 rfl ?_
    exact H
set_option maxRecDepth 100000 in
set_option maxHeartbeats 0 in
theorem bL_law_373 {d : Nat} {h0 hE h : ea_H} {rv : Option ea_V} {r1 : Option Nat} {r2 : Option Nat} {x3 : Int32} {sx0 : Int32} {sx1 : Int32} {sx2 : Int32} {sx3 : Int32} {sx4 : Int32} {sr5 : Option Nat} {sx6 : Int32} (H : ∃ a7, sr5 = some a7 ∧ a7 < ea_n h ∧ ea_c h a7 = 12 ∧ ∃ (d1 : Nat) (xc9 : Int32) (h2 : ea_H), ea_Met mX12_stop d1 [vR (some a7), vI sx4, vI sx3, vI sx2, vI sx1, vI sx0] h (some (vI xc9)) h2 ∧ d1 + 1 ≤ d ∧ (sx6 = xc9 → ea_W mL_law d h0 rv hE 18 [(0, vO 0), (1, vR r1), (2, vR r2), (3, vI (x3 + 7))] [] h2) ∧ (¬ sx6 = xc9 → rv = some (vI 0) ∧ hE = h2)) : ea_W mL_law d h0 rv hE 373 [(0, vO 0), (1, vR r1), (2, vR r2), (3, vI x3)] [vI sx0, vI sx1, vI sx2, vI sx3, vI sx4, vR sr5, vI sx6] h := by
  obtain ⟨a7, e8, f5, g6, H⟩ := H
  refine ea_deref5 e8 ?_
  obtain ⟨d1, xc9, h2, m3, q4, H⟩ := H
  refine ea_callV (pc := 373) (As := [vI sx4, vI sx3, vI sx2, vI sx1, vI sx0]) (st := [vI sx6]) dL_law_373 kX12_stop m3 q4 rfl (Nat.le_of_ble_eq_true rfl) ew_1732 ew_1733 ew_1734 (ci := 12) rfl (by decide) f5 g6 ?_
  refine ea_icmp_eq (pc := 376) (tgt := 1574) dL_law_376 rfl (fun c10 => ?_) (fun c10 => ?_)
  · have H := H.1 c10
    refine ea_iinc (pc := 1574) (v := 7) (lv' := [(0, vO 0), (1, vR r1), (2, vR r2), (3, vI (x3 + 7))]) dL_law_1574 3 rfl rfl (Nat.le_of_ble_eq_true rfl) [1, 2, 3, 0] rfl ?_
    refine ea_goto (pc := 1577) (tgt := 18) dL_law_1577 rfl ?_
    exact H
  · have H := H.2 c10
    refine ea_iconst (pc := 379) dL_law_379 (v := 0) rfl ?_
    obtain ⟨rfl, rfl⟩ := H
    exact ea_ireturn (pc := 380) dL_law_380 rfl (ea_bn (Or.inl rfl))
