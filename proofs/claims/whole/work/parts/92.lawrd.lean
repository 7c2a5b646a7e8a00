/-! the law: its code, what holds at its head, a word of the script -/
theorem dw_0 : decode code 0 = .ok (.new 8, 3) := by decide +kernel
theorem dw_3 : decode code 3 = .ok (.dup, 1) := by decide +kernel
theorem dw_4 : decode code 4 = .ok (.invokespecial 17, 3) := by decide +kernel
theorem dw_7 : decode code 7 = .ok (.astore_n 1, 1) := by decide +kernel
theorem dw_8 : decode code 8 = .ok (.new 18, 3) := by decide +kernel
theorem dw_11 : decode code 11 = .ok (.dup, 1) := by decide +kernel
theorem dw_12 : decode code 12 = .ok (.invokespecial 20, 3) := by decide +kernel
theorem dw_15 : decode code 15 = .ok (.astore_n 2, 1) := by decide +kernel
theorem dw_16 : decode code 16 = .ok (.iconst 1, 1) := by decide +kernel
theorem dw_17 : decode code 17 = .ok (.newarray .long, 2) := by decide +kernel
theorem dw_19 : decode code 19 = .ok (.astore_n 3, 1) := by decide +kernel
theorem dw_20 : decode code 20 = .ok (.iconst 0, 1) := by decide +kernel
theorem dw_21 : decode code 21 = .ok (.istore 4, 2) := by decide +kernel
theorem dw_23 : decode code 23 = .ok (.iload 4, 2) := by decide +kernel
theorem dw_25 : decode code 25 = .ok (.aload_n 0, 1) := by decide +kernel
theorem dw_26 : decode code 26 = .ok (.arraylength, 1) := by decide +kernel
theorem dw_27 : decode code 27 = .ok (.bipush 6, 2) := by decide +kernel
theorem dw_29 : decode code 29 = .ok (.isub, 1) := by decide +kernel
theorem dw_30 : decode code 30 = .ok (.if_icmp .gt 1623, 3) := by decide +kernel
theorem dw_33 : decode code 33 = .ok (.aload_n 0, 1) := by decide +kernel
theorem dw_34 : decode code 34 = .ok (.iload 4, 2) := by decide +kernel
theorem dw_36 : decode code 36 = .ok (.iaload, 1) := by decide +kernel
theorem dw_37 : decode code 37 = .ok (.bipush 63, 2) := by decide +kernel
theorem dw_39 : decode code 39 = .ok (.iand, 1) := by decide +kernel
theorem dw_40 : decode code 40 = .ok (.tableswitch 1607 0 36 #[164, 189, 262, 311, 372, 397, 458, 495, 520, 545, 594, 607, 644, 669, 682, 719, 756, 805, 854, 879, 904, 953, 966, 1015, 1052, 1101, 1126, 1175, 1212, 1261, 1286, 1311, 1336, 1361, 1442, 1509, 1582], 164) := by decide +kernel
theorem dw_204 : decode code 204 = .ok (.aload_n 1, 1) := by decide +kernel
theorem dw_205 : decode code 205 = .ok (.aload_n 0, 1) := by decide +kernel
theorem dw_206 : decode code 206 = .ok (.iload 4, 2) := by decide +kernel
theorem dw_208 : decode code 208 = .ok (.iconst 1, 1) := by decide +kernel
theorem dw_209 : decode code 209 = .ok (.iadd, 1) := by decide +kernel
theorem dw_210 : decode code 210 = .ok (.iaload, 1) := by decide +kernel
theorem dw_211 : decode code 211 = .ok (.invokevirtual 21, 3) := by decide +kernel
theorem dw_214 : decode code 214 = .ok (.aload_n 2, 1) := by decide +kernel
theorem dw_215 : decode code 215 = .ok (.aload_n 0, 1) := by decide +kernel
theorem dw_216 : decode code 216 = .ok (.iload 4, 2) := by decide +kernel
theorem dw_218 : decode code 218 = .ok (.iconst 1, 1) := by decide +kernel
theorem dw_219 : decode code 219 = .ok (.iadd, 1) := by decide +kernel
theorem dw_220 : decode code 220 = .ok (.iaload, 1) := by decide +kernel
theorem dw_221 : decode code 221 = .ok (.invokevirtual 25, 3) := by decide +kernel
theorem dw_224 : decode code 224 = .ok (.if_icmp .eq 1423, 3) := by decide +kernel
theorem dw_227 : decode code 227 = .ok (.iconst 0, 1) := by decide +kernel
theorem dw_228 : decode code 228 = .ok (.ireturn, 1) := by decide +kernel
theorem dw_229 : decode code 229 = .ok (.aload_n 1, 1) := by decide +kernel
theorem dw_230 : decode code 230 = .ok (.aload_n 0, 1) := by decide +kernel
theorem dw_231 : decode code 231 = .ok (.iload 4, 2) := by decide +kernel
theorem dw_233 : decode code 233 = .ok (.iconst 1, 1) := by decide +kernel
theorem dw_234 : decode code 234 = .ok (.iadd, 1) := by decide +kernel
theorem dw_235 : decode code 235 = .ok (.iaload, 1) := by decide +kernel
theorem dw_236 : decode code 236 = .ok (.aload_n 0, 1) := by decide +kernel
theorem dw_237 : decode code 237 = .ok (.iload 4, 2) := by decide +kernel
theorem dw_239 : decode code 239 = .ok (.iconst 2, 1) := by decide +kernel
theorem dw_240 : decode code 240 = .ok (.iadd, 1) := by decide +kernel
theorem dw_241 : decode code 241 = .ok (.iaload, 1) := by decide +kernel
theorem dw_242 : decode code 242 = .ok (.aload_n 0, 1) := by decide +kernel
theorem dw_243 : decode code 243 = .ok (.iload 4, 2) := by decide +kernel
theorem dw_245 : decode code 245 = .ok (.iconst 3, 1) := by decide +kernel
theorem dw_246 : decode code 246 = .ok (.iadd, 1) := by decide +kernel
theorem dw_247 : decode code 247 = .ok (.iaload, 1) := by decide +kernel
theorem dw_248 : decode code 248 = .ok (.aload_n 0, 1) := by decide +kernel
theorem dw_249 : decode code 249 = .ok (.iload 4, 2) := by decide +kernel
theorem dw_251 : decode code 251 = .ok (.iconst 4, 1) := by decide +kernel
theorem dw_252 : decode code 252 = .ok (.iadd, 1) := by decide +kernel
theorem dw_253 : decode code 253 = .ok (.iaload, 1) := by decide +kernel
theorem dw_254 : decode code 254 = .ok (.aload_n 0, 1) := by decide +kernel
theorem dw_255 : decode code 255 = .ok (.iload 4, 2) := by decide +kernel
theorem dw_257 : decode code 257 = .ok (.iconst 5, 1) := by decide +kernel
theorem dw_258 : decode code 258 = .ok (.iadd, 1) := by decide +kernel
theorem dw_259 : decode code 259 = .ok (.iaload, 1) := by decide +kernel
theorem dw_260 : decode code 260 = .ok (.invokevirtual 26, 3) := by decide +kernel
theorem dw_263 : decode code 263 = .ok (.aload_n 2, 1) := by decide +kernel
theorem dw_264 : decode code 264 = .ok (.aload_n 0, 1) := by decide +kernel
theorem dw_265 : decode code 265 = .ok (.iload 4, 2) := by decide +kernel
theorem dw_267 : decode code 267 = .ok (.iconst 1, 1) := by decide +kernel
theorem dw_268 : decode code 268 = .ok (.iadd, 1) := by decide +kernel
theorem dw_269 : decode code 269 = .ok (.iaload, 1) := by decide +kernel
theorem dw_270 : decode code 270 = .ok (.aload_n 0, 1) := by decide +kernel
theorem dw_271 : decode code 271 = .ok (.iload 4, 2) := by decide +kernel
theorem dw_273 : decode code 273 = .ok (.iconst 2, 1) := by decide +kernel
theorem dw_274 : decode code 274 = .ok (.iadd, 1) := by decide +kernel
theorem dw_275 : decode code 275 = .ok (.iaload, 1) := by decide +kernel
theorem dw_276 : decode code 276 = .ok (.aload_n 0, 1) := by decide +kernel
theorem dw_277 : decode code 277 = .ok (.iload 4, 2) := by decide +kernel
theorem dw_279 : decode code 279 = .ok (.iconst 3, 1) := by decide +kernel
theorem dw_280 : decode code 280 = .ok (.iadd, 1) := by decide +kernel
theorem dw_281 : decode code 281 = .ok (.iaload, 1) := by decide +kernel
theorem dw_282 : decode code 282 = .ok (.aload_n 0, 1) := by decide +kernel
theorem dw_283 : decode code 283 = .ok (.iload 4, 2) := by decide +kernel
theorem dw_285 : decode code 285 = .ok (.iconst 4, 1) := by decide +kernel
theorem dw_286 : decode code 286 = .ok (.iadd, 1) := by decide +kernel
theorem dw_287 : decode code 287 = .ok (.iaload, 1) := by decide +kernel
theorem dw_288 : decode code 288 = .ok (.aload_n 0, 1) := by decide +kernel
theorem dw_289 : decode code 289 = .ok (.iload 4, 2) := by decide +kernel
theorem dw_291 : decode code 291 = .ok (.iconst 5, 1) := by decide +kernel
theorem dw_292 : decode code 292 = .ok (.iadd, 1) := by decide +kernel
theorem dw_293 : decode code 293 = .ok (.iaload, 1) := by decide +kernel
theorem dw_294 : decode code 294 = .ok (.invokevirtual 30, 3) := by decide +kernel
theorem dw_297 : decode code 297 = .ok (.if_icmp .eq 1350, 3) := by decide +kernel
theorem dw_300 : decode code 300 = .ok (.iconst 0, 1) := by decide +kernel
theorem dw_301 : decode code 301 = .ok (.ireturn, 1) := by decide +kernel
theorem dw_302 : decode code 302 = .ok (.aload_n 1, 1) := by decide +kernel
theorem dw_303 : decode code 303 = .ok (.aload_n 0, 1) := by decide +kernel
theorem dw_304 : decode code 304 = .ok (.iload 4, 2) := by decide +kernel
theorem dw_306 : decode code 306 = .ok (.iconst 1, 1) := by decide +kernel
theorem dw_307 : decode code 307 = .ok (.iadd, 1) := by decide +kernel
theorem dw_308 : decode code 308 = .ok (.iaload, 1) := by decide +kernel
theorem dw_309 : decode code 309 = .ok (.aload_n 0, 1) := by decide +kernel
theorem dw_310 : decode code 310 = .ok (.iload 4, 2) := by decide +kernel
theorem dw_312 : decode code 312 = .ok (.iconst 2, 1) := by decide +kernel
theorem dw_313 : decode code 313 = .ok (.iadd, 1) := by decide +kernel
theorem dw_314 : decode code 314 = .ok (.iaload, 1) := by decide +kernel
theorem dw_315 : decode code 315 = .ok (.aload_n 0, 1) := by decide +kernel
theorem dw_316 : decode code 316 = .ok (.iload 4, 2) := by decide +kernel
theorem dw_318 : decode code 318 = .ok (.iconst 3, 1) := by decide +kernel
theorem dw_319 : decode code 319 = .ok (.iadd, 1) := by decide +kernel
theorem dw_320 : decode code 320 = .ok (.iaload, 1) := by decide +kernel
theorem dw_321 : decode code 321 = .ok (.invokevirtual 31, 3) := by decide +kernel
theorem dw_324 : decode code 324 = .ok (.aload_n 2, 1) := by decide +kernel
theorem dw_325 : decode code 325 = .ok (.aload_n 0, 1) := by decide +kernel
theorem dw_326 : decode code 326 = .ok (.iload 4, 2) := by decide +kernel
theorem dw_328 : decode code 328 = .ok (.iconst 1, 1) := by decide +kernel
theorem dw_329 : decode code 329 = .ok (.iadd, 1) := by decide +kernel
theorem dw_330 : decode code 330 = .ok (.iaload, 1) := by decide +kernel
theorem dw_331 : decode code 331 = .ok (.aload_n 0, 1) := by decide +kernel
theorem dw_332 : decode code 332 = .ok (.iload 4, 2) := by decide +kernel
theorem dw_334 : decode code 334 = .ok (.iconst 2, 1) := by decide +kernel
theorem dw_335 : decode code 335 = .ok (.iadd, 1) := by decide +kernel
theorem dw_336 : decode code 336 = .ok (.iaload, 1) := by decide +kernel
theorem dw_337 : decode code 337 = .ok (.aload_n 0, 1) := by decide +kernel
theorem dw_338 : decode code 338 = .ok (.iload 4, 2) := by decide +kernel
theorem dw_340 : decode code 340 = .ok (.iconst 3, 1) := by decide +kernel
theorem dw_341 : decode code 341 = .ok (.iadd, 1) := by decide +kernel
theorem dw_342 : decode code 342 = .ok (.iaload, 1) := by decide +kernel
theorem dw_343 : decode code 343 = .ok (.invokevirtual 35, 3) := by decide +kernel
theorem dw_346 : decode code 346 = .ok (.if_icmp .eq 1301, 3) := by decide +kernel
theorem dw_349 : decode code 349 = .ok (.iconst 0, 1) := by decide +kernel
theorem dw_350 : decode code 350 = .ok (.ireturn, 1) := by decide +kernel
theorem dw_351 : decode code 351 = .ok (.aload_n 1, 1) := by decide +kernel
theorem dw_352 : decode code 352 = .ok (.aload_n 0, 1) := by decide +kernel
theorem dw_353 : decode code 353 = .ok (.iload 4, 2) := by decide +kernel
theorem dw_355 : decode code 355 = .ok (.iconst 1, 1) := by decide +kernel
theorem dw_356 : decode code 356 = .ok (.iadd, 1) := by decide +kernel
theorem dw_357 : decode code 357 = .ok (.iaload, 1) := by decide +kernel
theorem dw_358 : decode code 358 = .ok (.aload_n 0, 1) := by decide +kernel
theorem dw_359 : decode code 359 = .ok (.iload 4, 2) := by decide +kernel
theorem dw_361 : decode code 361 = .ok (.iconst 2, 1) := by decide +kernel
theorem dw_362 : decode code 362 = .ok (.iadd, 1) := by decide +kernel
theorem dw_363 : decode code 363 = .ok (.iaload, 1) := by decide +kernel
theorem dw_364 : decode code 364 = .ok (.aload_n 0, 1) := by decide +kernel
theorem dw_365 : decode code 365 = .ok (.iload 4, 2) := by decide +kernel
theorem dw_367 : decode code 367 = .ok (.iconst 3, 1) := by decide +kernel
theorem dw_368 : decode code 368 = .ok (.iadd, 1) := by decide +kernel
theorem dw_369 : decode code 369 = .ok (.iaload, 1) := by decide +kernel
theorem dw_370 : decode code 370 = .ok (.aload_n 0, 1) := by decide +kernel
theorem dw_371 : decode code 371 = .ok (.iload 4, 2) := by decide +kernel
theorem dw_373 : decode code 373 = .ok (.iconst 4, 1) := by decide +kernel
theorem dw_374 : decode code 374 = .ok (.iadd, 1) := by decide +kernel
theorem dw_375 : decode code 375 = .ok (.iaload, 1) := by decide +kernel
theorem dw_376 : decode code 376 = .ok (.invokevirtual 36, 3) := by decide +kernel
theorem dw_379 : decode code 379 = .ok (.aload_n 2, 1) := by decide +kernel
theorem dw_380 : decode code 380 = .ok (.aload_n 0, 1) := by decide +kernel
theorem dw_381 : decode code 381 = .ok (.iload 4, 2) := by decide +kernel
theorem dw_383 : decode code 383 = .ok (.iconst 1, 1) := by decide +kernel
theorem dw_384 : decode code 384 = .ok (.iadd, 1) := by decide +kernel
theorem dw_385 : decode code 385 = .ok (.iaload, 1) := by decide +kernel
theorem dw_386 : decode code 386 = .ok (.aload_n 0, 1) := by decide +kernel
theorem dw_387 : decode code 387 = .ok (.iload 4, 2) := by decide +kernel
theorem dw_389 : decode code 389 = .ok (.iconst 2, 1) := by decide +kernel
theorem dw_390 : decode code 390 = .ok (.iadd, 1) := by decide +kernel
theorem dw_391 : decode code 391 = .ok (.iaload, 1) := by decide +kernel
theorem dw_392 : decode code 392 = .ok (.aload_n 0, 1) := by decide +kernel
theorem dw_393 : decode code 393 = .ok (.iload 4, 2) := by decide +kernel
theorem dw_395 : decode code 395 = .ok (.iconst 3, 1) := by decide +kernel
theorem dw_396 : decode code 396 = .ok (.iadd, 1) := by decide +kernel
theorem dw_397 : decode code 397 = .ok (.iaload, 1) := by decide +kernel
theorem dw_398 : decode code 398 = .ok (.aload_n 0, 1) := by decide +kernel
theorem dw_399 : decode code 399 = .ok (.iload 4, 2) := by decide +kernel
theorem dw_401 : decode code 401 = .ok (.iconst 4, 1) := by decide +kernel
theorem dw_402 : decode code 402 = .ok (.iadd, 1) := by decide +kernel
theorem dw_403 : decode code 403 = .ok (.iaload, 1) := by decide +kernel
theorem dw_404 : decode code 404 = .ok (.invokevirtual 40, 3) := by decide +kernel
theorem dw_407 : decode code 407 = .ok (.if_icmp .eq 1240, 3) := by decide +kernel
theorem dw_410 : decode code 410 = .ok (.iconst 0, 1) := by decide +kernel
theorem dw_411 : decode code 411 = .ok (.ireturn, 1) := by decide +kernel
theorem dw_412 : decode code 412 = .ok (.aload_n 1, 1) := by decide +kernel
theorem dw_413 : decode code 413 = .ok (.aload_n 0, 1) := by decide +kernel
theorem dw_414 : decode code 414 = .ok (.iload 4, 2) := by decide +kernel
theorem dw_416 : decode code 416 = .ok (.iconst 1, 1) := by decide +kernel
theorem dw_417 : decode code 417 = .ok (.iadd, 1) := by decide +kernel
theorem dw_418 : decode code 418 = .ok (.iaload, 1) := by decide +kernel
theorem dw_419 : decode code 419 = .ok (.invokevirtual 41, 3) := by decide +kernel
theorem dw_422 : decode code 422 = .ok (.aload_n 2, 1) := by decide +kernel
theorem dw_423 : decode code 423 = .ok (.aload_n 0, 1) := by decide +kernel
theorem dw_424 : decode code 424 = .ok (.iload 4, 2) := by decide +kernel
theorem dw_426 : decode code 426 = .ok (.iconst 1, 1) := by decide +kernel
theorem dw_427 : decode code 427 = .ok (.iadd, 1) := by decide +kernel
theorem dw_428 : decode code 428 = .ok (.iaload, 1) := by decide +kernel
theorem dw_429 : decode code 429 = .ok (.invokevirtual 44, 3) := by decide +kernel
theorem dw_432 : decode code 432 = .ok (.if_icmp .eq 1215, 3) := by decide +kernel
theorem dw_435 : decode code 435 = .ok (.iconst 0, 1) := by decide +kernel
theorem dw_436 : decode code 436 = .ok (.ireturn, 1) := by decide +kernel
theorem dw_437 : decode code 437 = .ok (.aload_n 1, 1) := by decide +kernel
theorem dw_438 : decode code 438 = .ok (.aload_n 0, 1) := by decide +kernel
theorem dw_439 : decode code 439 = .ok (.iload 4, 2) := by decide +kernel
theorem dw_441 : decode code 441 = .ok (.iconst 1, 1) := by decide +kernel
theorem dw_442 : decode code 442 = .ok (.iadd, 1) := by decide +kernel
theorem dw_443 : decode code 443 = .ok (.iaload, 1) := by decide +kernel
theorem dw_444 : decode code 444 = .ok (.aload_n 0, 1) := by decide +kernel
theorem dw_445 : decode code 445 = .ok (.iload 4, 2) := by decide +kernel
theorem dw_447 : decode code 447 = .ok (.iconst 2, 1) := by decide +kernel
theorem dw_448 : decode code 448 = .ok (.iadd, 1) := by decide +kernel
theorem dw_449 : decode code 449 = .ok (.iaload, 1) := by decide +kernel
theorem dw_450 : decode code 450 = .ok (.aload_n 0, 1) := by decide +kernel
theorem dw_451 : decode code 451 = .ok (.iload 4, 2) := by decide +kernel
theorem dw_453 : decode code 453 = .ok (.iconst 3, 1) := by decide +kernel
theorem dw_454 : decode code 454 = .ok (.iadd, 1) := by decide +kernel
theorem dw_455 : decode code 455 = .ok (.iaload, 1) := by decide +kernel
theorem dw_456 : decode code 456 = .ok (.aload_n 0, 1) := by decide +kernel
theorem dw_457 : decode code 457 = .ok (.iload 4, 2) := by decide +kernel
theorem dw_459 : decode code 459 = .ok (.iconst 4, 1) := by decide +kernel
theorem dw_460 : decode code 460 = .ok (.iadd, 1) := by decide +kernel
theorem dw_461 : decode code 461 = .ok (.iaload, 1) := by decide +kernel
theorem dw_462 : decode code 462 = .ok (.invokevirtual 45, 3) := by decide +kernel
theorem dw_465 : decode code 465 = .ok (.aload_n 2, 1) := by decide +kernel
theorem dw_466 : decode code 466 = .ok (.aload_n 0, 1) := by decide +kernel
theorem dw_467 : decode code 467 = .ok (.iload 4, 2) := by decide +kernel
theorem dw_469 : decode code 469 = .ok (.iconst 1, 1) := by decide +kernel
theorem dw_470 : decode code 470 = .ok (.iadd, 1) := by decide +kernel
theorem dw_471 : decode code 471 = .ok (.iaload, 1) := by decide +kernel
theorem dw_472 : decode code 472 = .ok (.aload_n 0, 1) := by decide +kernel
theorem dw_473 : decode code 473 = .ok (.iload 4, 2) := by decide +kernel
theorem dw_475 : decode code 475 = .ok (.iconst 2, 1) := by decide +kernel
theorem dw_476 : decode code 476 = .ok (.iadd, 1) := by decide +kernel
theorem dw_477 : decode code 477 = .ok (.iaload, 1) := by decide +kernel
theorem dw_478 : decode code 478 = .ok (.aload_n 0, 1) := by decide +kernel
theorem dw_479 : decode code 479 = .ok (.iload 4, 2) := by decide +kernel
theorem dw_481 : decode code 481 = .ok (.iconst 3, 1) := by decide +kernel
theorem dw_482 : decode code 482 = .ok (.iadd, 1) := by decide +kernel
theorem dw_483 : decode code 483 = .ok (.iaload, 1) := by decide +kernel
theorem dw_484 : decode code 484 = .ok (.aload_n 0, 1) := by decide +kernel
theorem dw_485 : decode code 485 = .ok (.iload 4, 2) := by decide +kernel
theorem dw_487 : decode code 487 = .ok (.iconst 4, 1) := by decide +kernel
theorem dw_488 : decode code 488 = .ok (.iadd, 1) := by decide +kernel
theorem dw_489 : decode code 489 = .ok (.iaload, 1) := by decide +kernel
theorem dw_490 : decode code 490 = .ok (.invokevirtual 48, 3) := by decide +kernel
theorem dw_493 : decode code 493 = .ok (.if_icmp .eq 1154, 3) := by decide +kernel
theorem dw_496 : decode code 496 = .ok (.iconst 0, 1) := by decide +kernel
theorem dw_497 : decode code 497 = .ok (.ireturn, 1) := by decide +kernel
theorem dw_498 : decode code 498 = .ok (.aload_n 1, 1) := by decide +kernel
theorem dw_499 : decode code 499 = .ok (.aload_n 0, 1) := by decide +kernel
theorem dw_500 : decode code 500 = .ok (.iload 4, 2) := by decide +kernel
theorem dw_502 : decode code 502 = .ok (.iconst 1, 1) := by decide +kernel
theorem dw_503 : decode code 503 = .ok (.iadd, 1) := by decide +kernel
theorem dw_504 : decode code 504 = .ok (.iaload, 1) := by decide +kernel
theorem dw_505 : decode code 505 = .ok (.aload_n 0, 1) := by decide +kernel
theorem dw_506 : decode code 506 = .ok (.iload 4, 2) := by decide +kernel
theorem dw_508 : decode code 508 = .ok (.iconst 2, 1) := by decide +kernel
theorem dw_509 : decode code 509 = .ok (.iadd, 1) := by decide +kernel
theorem dw_510 : decode code 510 = .ok (.iaload, 1) := by decide +kernel
theorem dw_511 : decode code 511 = .ok (.invokevirtual 49, 3) := by decide +kernel
theorem dw_514 : decode code 514 = .ok (.aload_n 2, 1) := by decide +kernel
theorem dw_515 : decode code 515 = .ok (.aload_n 0, 1) := by decide +kernel
theorem dw_516 : decode code 516 = .ok (.iload 4, 2) := by decide +kernel
theorem dw_518 : decode code 518 = .ok (.iconst 1, 1) := by decide +kernel
theorem dw_519 : decode code 519 = .ok (.iadd, 1) := by decide +kernel
theorem dw_520 : decode code 520 = .ok (.iaload, 1) := by decide +kernel
theorem dw_521 : decode code 521 = .ok (.aload_n 0, 1) := by decide +kernel
theorem dw_522 : decode code 522 = .ok (.iload 4, 2) := by decide +kernel
theorem dw_524 : decode code 524 = .ok (.iconst 2, 1) := by decide +kernel
theorem dw_525 : decode code 525 = .ok (.iadd, 1) := by decide +kernel
theorem dw_526 : decode code 526 = .ok (.iaload, 1) := by decide +kernel
theorem dw_527 : decode code 527 = .ok (.invokevirtual 53, 3) := by decide +kernel
theorem dw_530 : decode code 530 = .ok (.if_icmp .eq 1117, 3) := by decide +kernel
theorem dw_533 : decode code 533 = .ok (.iconst 0, 1) := by decide +kernel
theorem dw_534 : decode code 534 = .ok (.ireturn, 1) := by decide +kernel
theorem dw_535 : decode code 535 = .ok (.aload_n 1, 1) := by decide +kernel
theorem dw_536 : decode code 536 = .ok (.aload_n 0, 1) := by decide +kernel
theorem dw_537 : decode code 537 = .ok (.iload 4, 2) := by decide +kernel
theorem dw_539 : decode code 539 = .ok (.iconst 1, 1) := by decide +kernel
theorem dw_540 : decode code 540 = .ok (.iadd, 1) := by decide +kernel
theorem dw_541 : decode code 541 = .ok (.iaload, 1) := by decide +kernel
theorem dw_542 : decode code 542 = .ok (.invokevirtual 54, 3) := by decide +kernel
theorem dw_545 : decode code 545 = .ok (.aload_n 2, 1) := by decide +kernel
theorem dw_546 : decode code 546 = .ok (.aload_n 0, 1) := by decide +kernel
theorem dw_547 : decode code 547 = .ok (.iload 4, 2) := by decide +kernel
theorem dw_549 : decode code 549 = .ok (.iconst 1, 1) := by decide +kernel
theorem dw_550 : decode code 550 = .ok (.iadd, 1) := by decide +kernel
theorem dw_551 : decode code 551 = .ok (.iaload, 1) := by decide +kernel
theorem dw_552 : decode code 552 = .ok (.invokevirtual 57, 3) := by decide +kernel
theorem dw_555 : decode code 555 = .ok (.if_icmp .eq 1092, 3) := by decide +kernel
theorem dw_558 : decode code 558 = .ok (.iconst 0, 1) := by decide +kernel
theorem dw_559 : decode code 559 = .ok (.ireturn, 1) := by decide +kernel
theorem dw_560 : decode code 560 = .ok (.aload_n 1, 1) := by decide +kernel
theorem dw_561 : decode code 561 = .ok (.aload_n 0, 1) := by decide +kernel
theorem dw_562 : decode code 562 = .ok (.iload 4, 2) := by decide +kernel
theorem dw_564 : decode code 564 = .ok (.iconst 1, 1) := by decide +kernel
theorem dw_565 : decode code 565 = .ok (.iadd, 1) := by decide +kernel
theorem dw_566 : decode code 566 = .ok (.iaload, 1) := by decide +kernel
theorem dw_567 : decode code 567 = .ok (.invokevirtual 58, 3) := by decide +kernel
theorem dw_570 : decode code 570 = .ok (.aload_n 2, 1) := by decide +kernel
theorem dw_571 : decode code 571 = .ok (.aload_n 0, 1) := by decide +kernel
theorem dw_572 : decode code 572 = .ok (.iload 4, 2) := by decide +kernel
theorem dw_574 : decode code 574 = .ok (.iconst 1, 1) := by decide +kernel
theorem dw_575 : decode code 575 = .ok (.iadd, 1) := by decide +kernel
theorem dw_576 : decode code 576 = .ok (.iaload, 1) := by decide +kernel
theorem dw_577 : decode code 577 = .ok (.invokevirtual 61, 3) := by decide +kernel
theorem dw_580 : decode code 580 = .ok (.if_icmp .eq 1067, 3) := by decide +kernel
theorem dw_583 : decode code 583 = .ok (.iconst 0, 1) := by decide +kernel
theorem dw_584 : decode code 584 = .ok (.ireturn, 1) := by decide +kernel
theorem dw_585 : decode code 585 = .ok (.aload_n 1, 1) := by decide +kernel
theorem dw_586 : decode code 586 = .ok (.aload_n 0, 1) := by decide +kernel
theorem dw_587 : decode code 587 = .ok (.iload 4, 2) := by decide +kernel
theorem dw_589 : decode code 589 = .ok (.iconst 1, 1) := by decide +kernel
theorem dw_590 : decode code 590 = .ok (.iadd, 1) := by decide +kernel
theorem dw_591 : decode code 591 = .ok (.iaload, 1) := by decide +kernel
theorem dw_592 : decode code 592 = .ok (.aload_n 0, 1) := by decide +kernel
theorem dw_593 : decode code 593 = .ok (.iload 4, 2) := by decide +kernel
theorem dw_595 : decode code 595 = .ok (.iconst 2, 1) := by decide +kernel
theorem dw_596 : decode code 596 = .ok (.iadd, 1) := by decide +kernel
theorem dw_597 : decode code 597 = .ok (.iaload, 1) := by decide +kernel
theorem dw_598 : decode code 598 = .ok (.aload_n 0, 1) := by decide +kernel
theorem dw_599 : decode code 599 = .ok (.iload 4, 2) := by decide +kernel
theorem dw_601 : decode code 601 = .ok (.iconst 3, 1) := by decide +kernel
theorem dw_602 : decode code 602 = .ok (.iadd, 1) := by decide +kernel
theorem dw_603 : decode code 603 = .ok (.iaload, 1) := by decide +kernel
theorem dw_604 : decode code 604 = .ok (.invokevirtual 62, 3) := by decide +kernel
theorem dw_607 : decode code 607 = .ok (.aload_n 2, 1) := by decide +kernel
theorem dw_608 : decode code 608 = .ok (.aload_n 0, 1) := by decide +kernel
theorem dw_609 : decode code 609 = .ok (.iload 4, 2) := by decide +kernel
theorem dw_611 : decode code 611 = .ok (.iconst 1, 1) := by decide +kernel
theorem dw_612 : decode code 612 = .ok (.iadd, 1) := by decide +kernel
theorem dw_613 : decode code 613 = .ok (.iaload, 1) := by decide +kernel
theorem dw_614 : decode code 614 = .ok (.aload_n 0, 1) := by decide +kernel
theorem dw_615 : decode code 615 = .ok (.iload 4, 2) := by decide +kernel
theorem dw_617 : decode code 617 = .ok (.iconst 2, 1) := by decide +kernel
theorem dw_618 : decode code 618 = .ok (.iadd, 1) := by decide +kernel
theorem dw_619 : decode code 619 = .ok (.iaload, 1) := by decide +kernel
theorem dw_620 : decode code 620 = .ok (.aload_n 0, 1) := by decide +kernel
theorem dw_621 : decode code 621 = .ok (.iload 4, 2) := by decide +kernel
theorem dw_623 : decode code 623 = .ok (.iconst 3, 1) := by decide +kernel
theorem dw_624 : decode code 624 = .ok (.iadd, 1) := by decide +kernel
theorem dw_625 : decode code 625 = .ok (.iaload, 1) := by decide +kernel
theorem dw_626 : decode code 626 = .ok (.invokevirtual 65, 3) := by decide +kernel
theorem dw_629 : decode code 629 = .ok (.if_icmp .eq 1018, 3) := by decide +kernel
theorem dw_632 : decode code 632 = .ok (.iconst 0, 1) := by decide +kernel
theorem dw_633 : decode code 633 = .ok (.ireturn, 1) := by decide +kernel
theorem dw_634 : decode code 634 = .ok (.aload_n 1, 1) := by decide +kernel
theorem dw_635 : decode code 635 = .ok (.invokevirtual 66, 3) := by decide +kernel
theorem dw_638 : decode code 638 = .ok (.aload_n 2, 1) := by decide +kernel
theorem dw_639 : decode code 639 = .ok (.invokevirtual 70, 3) := by decide +kernel
theorem dw_642 : decode code 642 = .ok (.if_icmp .eq 1005, 3) := by decide +kernel
theorem dw_645 : decode code 645 = .ok (.iconst 0, 1) := by decide +kernel
theorem dw_646 : decode code 646 = .ok (.ireturn, 1) := by decide +kernel
theorem dw_647 : decode code 647 = .ok (.aload_n 1, 1) := by decide +kernel
theorem dw_648 : decode code 648 = .ok (.aload_n 0, 1) := by decide +kernel
theorem dw_649 : decode code 649 = .ok (.iload 4, 2) := by decide +kernel
theorem dw_651 : decode code 651 = .ok (.iconst 1, 1) := by decide +kernel
theorem dw_652 : decode code 652 = .ok (.iadd, 1) := by decide +kernel
theorem dw_653 : decode code 653 = .ok (.iaload, 1) := by decide +kernel
theorem dw_654 : decode code 654 = .ok (.aload_n 0, 1) := by decide +kernel
theorem dw_655 : decode code 655 = .ok (.iload 4, 2) := by decide +kernel
theorem dw_657 : decode code 657 = .ok (.iconst 2, 1) := by decide +kernel
theorem dw_658 : decode code 658 = .ok (.iadd, 1) := by decide +kernel
theorem dw_659 : decode code 659 = .ok (.iaload, 1) := by decide +kernel
theorem dw_660 : decode code 660 = .ok (.invokevirtual 71, 3) := by decide +kernel
theorem dw_663 : decode code 663 = .ok (.aload_n 2, 1) := by decide +kernel
theorem dw_664 : decode code 664 = .ok (.aload_n 0, 1) := by decide +kernel
theorem dw_665 : decode code 665 = .ok (.iload 4, 2) := by decide +kernel
theorem dw_667 : decode code 667 = .ok (.iconst 1, 1) := by decide +kernel
theorem dw_668 : decode code 668 = .ok (.iadd, 1) := by decide +kernel
theorem dw_669 : decode code 669 = .ok (.iaload, 1) := by decide +kernel
theorem dw_670 : decode code 670 = .ok (.aload_n 0, 1) := by decide +kernel
theorem dw_671 : decode code 671 = .ok (.iload 4, 2) := by decide +kernel
theorem dw_673 : decode code 673 = .ok (.iconst 2, 1) := by decide +kernel
theorem dw_674 : decode code 674 = .ok (.iadd, 1) := by decide +kernel
theorem dw_675 : decode code 675 = .ok (.iaload, 1) := by decide +kernel
theorem dw_676 : decode code 676 = .ok (.invokevirtual 74, 3) := by decide +kernel
theorem dw_679 : decode code 679 = .ok (.if_icmp .eq 968, 3) := by decide +kernel
theorem dw_682 : decode code 682 = .ok (.iconst 0, 1) := by decide +kernel
theorem dw_683 : decode code 683 = .ok (.ireturn, 1) := by decide +kernel
theorem dw_684 : decode code 684 = .ok (.aload_n 1, 1) := by decide +kernel
theorem dw_685 : decode code 685 = .ok (.aload_n 0, 1) := by decide +kernel
theorem dw_686 : decode code 686 = .ok (.iload 4, 2) := by decide +kernel
theorem dw_688 : decode code 688 = .ok (.iconst 1, 1) := by decide +kernel
theorem dw_689 : decode code 689 = .ok (.iadd, 1) := by decide +kernel
theorem dw_690 : decode code 690 = .ok (.iaload, 1) := by decide +kernel
theorem dw_691 : decode code 691 = .ok (.invokevirtual 75, 3) := by decide +kernel
theorem dw_694 : decode code 694 = .ok (.aload_n 2, 1) := by decide +kernel
theorem dw_695 : decode code 695 = .ok (.aload_n 0, 1) := by decide +kernel
theorem dw_696 : decode code 696 = .ok (.iload 4, 2) := by decide +kernel
theorem dw_698 : decode code 698 = .ok (.iconst 1, 1) := by decide +kernel
theorem dw_699 : decode code 699 = .ok (.iadd, 1) := by decide +kernel
theorem dw_700 : decode code 700 = .ok (.iaload, 1) := by decide +kernel
theorem dw_701 : decode code 701 = .ok (.invokevirtual 78, 3) := by decide +kernel
theorem dw_704 : decode code 704 = .ok (.if_icmp .eq 943, 3) := by decide +kernel
theorem dw_707 : decode code 707 = .ok (.iconst 0, 1) := by decide +kernel
theorem dw_708 : decode code 708 = .ok (.ireturn, 1) := by decide +kernel
theorem dw_709 : decode code 709 = .ok (.aload_n 1, 1) := by decide +kernel
theorem dw_710 : decode code 710 = .ok (.invokevirtual 79, 3) := by decide +kernel
theorem dw_713 : decode code 713 = .ok (.aload_n 2, 1) := by decide +kernel
theorem dw_714 : decode code 714 = .ok (.invokevirtual 82, 3) := by decide +kernel
theorem dw_717 : decode code 717 = .ok (.if_icmp .eq 930, 3) := by decide +kernel
theorem dw_720 : decode code 720 = .ok (.iconst 0, 1) := by decide +kernel
theorem dw_721 : decode code 721 = .ok (.ireturn, 1) := by decide +kernel
theorem dw_722 : decode code 722 = .ok (.aload_n 1, 1) := by decide +kernel
theorem dw_723 : decode code 723 = .ok (.aload_n 0, 1) := by decide +kernel
theorem dw_724 : decode code 724 = .ok (.iload 4, 2) := by decide +kernel
theorem dw_726 : decode code 726 = .ok (.iconst 1, 1) := by decide +kernel
theorem dw_727 : decode code 727 = .ok (.iadd, 1) := by decide +kernel
theorem dw_728 : decode code 728 = .ok (.iaload, 1) := by decide +kernel
theorem dw_729 : decode code 729 = .ok (.aload_n 0, 1) := by decide +kernel
theorem dw_730 : decode code 730 = .ok (.iload 4, 2) := by decide +kernel
theorem dw_732 : decode code 732 = .ok (.iconst 2, 1) := by decide +kernel
theorem dw_733 : decode code 733 = .ok (.iadd, 1) := by decide +kernel
theorem dw_734 : decode code 734 = .ok (.iaload, 1) := by decide +kernel
theorem dw_735 : decode code 735 = .ok (.invokevirtual 83, 3) := by decide +kernel
theorem dw_738 : decode code 738 = .ok (.aload_n 2, 1) := by decide +kernel
theorem dw_739 : decode code 739 = .ok (.aload_n 0, 1) := by decide +kernel
theorem dw_740 : decode code 740 = .ok (.iload 4, 2) := by decide +kernel
theorem dw_742 : decode code 742 = .ok (.iconst 1, 1) := by decide +kernel
theorem dw_743 : decode code 743 = .ok (.iadd, 1) := by decide +kernel
theorem dw_744 : decode code 744 = .ok (.iaload, 1) := by decide +kernel
theorem dw_745 : decode code 745 = .ok (.aload_n 0, 1) := by decide +kernel
theorem dw_746 : decode code 746 = .ok (.iload 4, 2) := by decide +kernel
theorem dw_748 : decode code 748 = .ok (.iconst 2, 1) := by decide +kernel
theorem dw_749 : decode code 749 = .ok (.iadd, 1) := by decide +kernel
theorem dw_750 : decode code 750 = .ok (.iaload, 1) := by decide +kernel
theorem dw_751 : decode code 751 = .ok (.invokevirtual 86, 3) := by decide +kernel
theorem dw_754 : decode code 754 = .ok (.if_icmp .eq 893, 3) := by decide +kernel
theorem dw_757 : decode code 757 = .ok (.iconst 0, 1) := by decide +kernel
theorem dw_758 : decode code 758 = .ok (.ireturn, 1) := by decide +kernel
theorem dw_759 : decode code 759 = .ok (.aload_n 1, 1) := by decide +kernel
theorem dw_760 : decode code 760 = .ok (.aload_n 0, 1) := by decide +kernel
theorem dw_761 : decode code 761 = .ok (.iload 4, 2) := by decide +kernel
theorem dw_763 : decode code 763 = .ok (.iconst 1, 1) := by decide +kernel
theorem dw_764 : decode code 764 = .ok (.iadd, 1) := by decide +kernel
theorem dw_765 : decode code 765 = .ok (.iaload, 1) := by decide +kernel
theorem dw_766 : decode code 766 = .ok (.aload_n 0, 1) := by decide +kernel
theorem dw_767 : decode code 767 = .ok (.iload 4, 2) := by decide +kernel
theorem dw_769 : decode code 769 = .ok (.iconst 2, 1) := by decide +kernel
theorem dw_770 : decode code 770 = .ok (.iadd, 1) := by decide +kernel
theorem dw_771 : decode code 771 = .ok (.iaload, 1) := by decide +kernel
theorem dw_772 : decode code 772 = .ok (.invokevirtual 87, 3) := by decide +kernel
theorem dw_775 : decode code 775 = .ok (.aload_n 2, 1) := by decide +kernel
theorem dw_776 : decode code 776 = .ok (.aload_n 0, 1) := by decide +kernel
theorem dw_777 : decode code 777 = .ok (.iload 4, 2) := by decide +kernel
theorem dw_779 : decode code 779 = .ok (.iconst 1, 1) := by decide +kernel
theorem dw_780 : decode code 780 = .ok (.iadd, 1) := by decide +kernel
theorem dw_781 : decode code 781 = .ok (.iaload, 1) := by decide +kernel
theorem dw_782 : decode code 782 = .ok (.aload_n 0, 1) := by decide +kernel
theorem dw_783 : decode code 783 = .ok (.iload 4, 2) := by decide +kernel
theorem dw_785 : decode code 785 = .ok (.iconst 2, 1) := by decide +kernel
theorem dw_786 : decode code 786 = .ok (.iadd, 1) := by decide +kernel
theorem dw_787 : decode code 787 = .ok (.iaload, 1) := by decide +kernel
theorem dw_788 : decode code 788 = .ok (.invokevirtual 90, 3) := by decide +kernel
theorem dw_791 : decode code 791 = .ok (.if_icmp .eq 856, 3) := by decide +kernel
theorem dw_794 : decode code 794 = .ok (.iconst 0, 1) := by decide +kernel
theorem dw_795 : decode code 795 = .ok (.ireturn, 1) := by decide +kernel
theorem dw_796 : decode code 796 = .ok (.aload_n 1, 1) := by decide +kernel
theorem dw_797 : decode code 797 = .ok (.aload_n 0, 1) := by decide +kernel
theorem dw_798 : decode code 798 = .ok (.iload 4, 2) := by decide +kernel
theorem dw_800 : decode code 800 = .ok (.iconst 1, 1) := by decide +kernel
theorem dw_801 : decode code 801 = .ok (.iadd, 1) := by decide +kernel
theorem dw_802 : decode code 802 = .ok (.iaload, 1) := by decide +kernel
theorem dw_803 : decode code 803 = .ok (.aload_n 0, 1) := by decide +kernel
theorem dw_804 : decode code 804 = .ok (.iload 4, 2) := by decide +kernel
theorem dw_806 : decode code 806 = .ok (.iconst 2, 1) := by decide +kernel
theorem dw_807 : decode code 807 = .ok (.iadd, 1) := by decide +kernel
theorem dw_808 : decode code 808 = .ok (.iaload, 1) := by decide +kernel
theorem dw_809 : decode code 809 = .ok (.aload_n 0, 1) := by decide +kernel
theorem dw_810 : decode code 810 = .ok (.iload 4, 2) := by decide +kernel
theorem dw_812 : decode code 812 = .ok (.iconst 3, 1) := by decide +kernel
theorem dw_813 : decode code 813 = .ok (.iadd, 1) := by decide +kernel
theorem dw_814 : decode code 814 = .ok (.iaload, 1) := by decide +kernel
theorem dw_815 : decode code 815 = .ok (.invokevirtual 91, 3) := by decide +kernel
theorem dw_818 : decode code 818 = .ok (.aload_n 2, 1) := by decide +kernel
theorem dw_819 : decode code 819 = .ok (.aload_n 0, 1) := by decide +kernel
theorem dw_820 : decode code 820 = .ok (.iload 4, 2) := by decide +kernel
theorem dw_822 : decode code 822 = .ok (.iconst 1, 1) := by decide +kernel
theorem dw_823 : decode code 823 = .ok (.iadd, 1) := by decide +kernel
theorem dw_824 : decode code 824 = .ok (.iaload, 1) := by decide +kernel
theorem dw_825 : decode code 825 = .ok (.aload_n 0, 1) := by decide +kernel
theorem dw_826 : decode code 826 = .ok (.iload 4, 2) := by decide +kernel
theorem dw_828 : decode code 828 = .ok (.iconst 2, 1) := by decide +kernel
theorem dw_829 : decode code 829 = .ok (.iadd, 1) := by decide +kernel
theorem dw_830 : decode code 830 = .ok (.iaload, 1) := by decide +kernel
theorem dw_831 : decode code 831 = .ok (.aload_n 0, 1) := by decide +kernel
theorem dw_832 : decode code 832 = .ok (.iload 4, 2) := by decide +kernel
theorem dw_834 : decode code 834 = .ok (.iconst 3, 1) := by decide +kernel
theorem dw_835 : decode code 835 = .ok (.iadd, 1) := by decide +kernel
theorem dw_836 : decode code 836 = .ok (.iaload, 1) := by decide +kernel
theorem dw_837 : decode code 837 = .ok (.invokevirtual 94, 3) := by decide +kernel
theorem dw_840 : decode code 840 = .ok (.if_icmp .eq 807, 3) := by decide +kernel
theorem dw_843 : decode code 843 = .ok (.iconst 0, 1) := by decide +kernel
theorem dw_844 : decode code 844 = .ok (.ireturn, 1) := by decide +kernel
theorem dw_845 : decode code 845 = .ok (.aload_n 1, 1) := by decide +kernel
theorem dw_846 : decode code 846 = .ok (.aload_n 0, 1) := by decide +kernel
theorem dw_847 : decode code 847 = .ok (.iload 4, 2) := by decide +kernel
theorem dw_849 : decode code 849 = .ok (.iconst 1, 1) := by decide +kernel
theorem dw_850 : decode code 850 = .ok (.iadd, 1) := by decide +kernel
theorem dw_851 : decode code 851 = .ok (.iaload, 1) := by decide +kernel
theorem dw_852 : decode code 852 = .ok (.aload_n 0, 1) := by decide +kernel
theorem dw_853 : decode code 853 = .ok (.iload 4, 2) := by decide +kernel
theorem dw_855 : decode code 855 = .ok (.iconst 2, 1) := by decide +kernel
theorem dw_856 : decode code 856 = .ok (.iadd, 1) := by decide +kernel
theorem dw_857 : decode code 857 = .ok (.iaload, 1) := by decide +kernel
theorem dw_858 : decode code 858 = .ok (.aload_n 0, 1) := by decide +kernel
theorem dw_859 : decode code 859 = .ok (.iload 4, 2) := by decide +kernel
theorem dw_861 : decode code 861 = .ok (.iconst 3, 1) := by decide +kernel
theorem dw_862 : decode code 862 = .ok (.iadd, 1) := by decide +kernel
theorem dw_863 : decode code 863 = .ok (.iaload, 1) := by decide +kernel
theorem dw_864 : decode code 864 = .ok (.invokevirtual 95, 3) := by decide +kernel
theorem dw_867 : decode code 867 = .ok (.aload_n 2, 1) := by decide +kernel
theorem dw_868 : decode code 868 = .ok (.aload_n 0, 1) := by decide +kernel
theorem dw_869 : decode code 869 = .ok (.iload 4, 2) := by decide +kernel
theorem dw_871 : decode code 871 = .ok (.iconst 1, 1) := by decide +kernel
theorem dw_872 : decode code 872 = .ok (.iadd, 1) := by decide +kernel
theorem dw_873 : decode code 873 = .ok (.iaload, 1) := by decide +kernel
theorem dw_874 : decode code 874 = .ok (.aload_n 0, 1) := by decide +kernel
theorem dw_875 : decode code 875 = .ok (.iload 4, 2) := by decide +kernel
theorem dw_877 : decode code 877 = .ok (.iconst 2, 1) := by decide +kernel
theorem dw_878 : decode code 878 = .ok (.iadd, 1) := by decide +kernel
theorem dw_879 : decode code 879 = .ok (.iaload, 1) := by decide +kernel
theorem dw_880 : decode code 880 = .ok (.aload_n 0, 1) := by decide +kernel
theorem dw_881 : decode code 881 = .ok (.iload 4, 2) := by decide +kernel
theorem dw_883 : decode code 883 = .ok (.iconst 3, 1) := by decide +kernel
theorem dw_884 : decode code 884 = .ok (.iadd, 1) := by decide +kernel
theorem dw_885 : decode code 885 = .ok (.iaload, 1) := by decide +kernel
theorem dw_886 : decode code 886 = .ok (.invokevirtual 98, 3) := by decide +kernel
theorem dw_889 : decode code 889 = .ok (.if_icmp .eq 758, 3) := by decide +kernel
theorem dw_892 : decode code 892 = .ok (.iconst 0, 1) := by decide +kernel
theorem dw_893 : decode code 893 = .ok (.ireturn, 1) := by decide +kernel
theorem dw_894 : decode code 894 = .ok (.aload_n 1, 1) := by decide +kernel
theorem dw_895 : decode code 895 = .ok (.aload_n 0, 1) := by decide +kernel
theorem dw_896 : decode code 896 = .ok (.iload 4, 2) := by decide +kernel
theorem dw_898 : decode code 898 = .ok (.iconst 1, 1) := by decide +kernel
theorem dw_899 : decode code 899 = .ok (.iadd, 1) := by decide +kernel
theorem dw_900 : decode code 900 = .ok (.iaload, 1) := by decide +kernel
theorem dw_901 : decode code 901 = .ok (.invokevirtual 99, 3) := by decide +kernel
theorem dw_904 : decode code 904 = .ok (.aload_n 2, 1) := by decide +kernel
theorem dw_905 : decode code 905 = .ok (.aload_n 0, 1) := by decide +kernel
theorem dw_906 : decode code 906 = .ok (.iload 4, 2) := by decide +kernel
theorem dw_908 : decode code 908 = .ok (.iconst 1, 1) := by decide +kernel
theorem dw_909 : decode code 909 = .ok (.iadd, 1) := by decide +kernel
theorem dw_910 : decode code 910 = .ok (.iaload, 1) := by decide +kernel
theorem dw_911 : decode code 911 = .ok (.invokevirtual 102, 3) := by decide +kernel
theorem dw_914 : decode code 914 = .ok (.if_icmp .eq 733, 3) := by decide +kernel
theorem dw_917 : decode code 917 = .ok (.iconst 0, 1) := by decide +kernel
theorem dw_918 : decode code 918 = .ok (.ireturn, 1) := by decide +kernel
theorem dw_919 : decode code 919 = .ok (.aload_n 1, 1) := by decide +kernel
theorem dw_920 : decode code 920 = .ok (.aload_n 0, 1) := by decide +kernel
theorem dw_921 : decode code 921 = .ok (.iload 4, 2) := by decide +kernel
theorem dw_923 : decode code 923 = .ok (.iconst 1, 1) := by decide +kernel
theorem dw_924 : decode code 924 = .ok (.iadd, 1) := by decide +kernel
theorem dw_925 : decode code 925 = .ok (.iaload, 1) := by decide +kernel
theorem dw_926 : decode code 926 = .ok (.invokevirtual 103, 3) := by decide +kernel
theorem dw_929 : decode code 929 = .ok (.aload_n 2, 1) := by decide +kernel
theorem dw_930 : decode code 930 = .ok (.aload_n 0, 1) := by decide +kernel
theorem dw_931 : decode code 931 = .ok (.iload 4, 2) := by decide +kernel
theorem dw_933 : decode code 933 = .ok (.iconst 1, 1) := by decide +kernel
theorem dw_934 : decode code 934 = .ok (.iadd, 1) := by decide +kernel
theorem dw_935 : decode code 935 = .ok (.iaload, 1) := by decide +kernel
theorem dw_936 : decode code 936 = .ok (.invokevirtual 106, 3) := by decide +kernel
theorem dw_939 : decode code 939 = .ok (.if_icmp .eq 708, 3) := by decide +kernel
theorem dw_942 : decode code 942 = .ok (.iconst 0, 1) := by decide +kernel
theorem dw_943 : decode code 943 = .ok (.ireturn, 1) := by decide +kernel
theorem dw_944 : decode code 944 = .ok (.aload_n 1, 1) := by decide +kernel
theorem dw_945 : decode code 945 = .ok (.aload_n 0, 1) := by decide +kernel
theorem dw_946 : decode code 946 = .ok (.iload 4, 2) := by decide +kernel
theorem dw_948 : decode code 948 = .ok (.iconst 1, 1) := by decide +kernel
theorem dw_949 : decode code 949 = .ok (.iadd, 1) := by decide +kernel
theorem dw_950 : decode code 950 = .ok (.iaload, 1) := by decide +kernel
theorem dw_951 : decode code 951 = .ok (.aload_n 0, 1) := by decide +kernel
theorem dw_952 : decode code 952 = .ok (.iload 4, 2) := by decide +kernel
theorem dw_954 : decode code 954 = .ok (.iconst 2, 1) := by decide +kernel
theorem dw_955 : decode code 955 = .ok (.iadd, 1) := by decide +kernel
theorem dw_956 : decode code 956 = .ok (.iaload, 1) := by decide +kernel
theorem dw_957 : decode code 957 = .ok (.aload_n 0, 1) := by decide +kernel
theorem dw_958 : decode code 958 = .ok (.iload 4, 2) := by decide +kernel
theorem dw_960 : decode code 960 = .ok (.iconst 3, 1) := by decide +kernel
theorem dw_961 : decode code 961 = .ok (.iadd, 1) := by decide +kernel
theorem dw_962 : decode code 962 = .ok (.iaload, 1) := by decide +kernel
theorem dw_963 : decode code 963 = .ok (.invokevirtual 107, 3) := by decide +kernel
theorem dw_966 : decode code 966 = .ok (.aload_n 2, 1) := by decide +kernel
theorem dw_967 : decode code 967 = .ok (.aload_n 0, 1) := by decide +kernel
theorem dw_968 : decode code 968 = .ok (.iload 4, 2) := by decide +kernel
theorem dw_970 : decode code 970 = .ok (.iconst 1, 1) := by decide +kernel
theorem dw_971 : decode code 971 = .ok (.iadd, 1) := by decide +kernel
theorem dw_972 : decode code 972 = .ok (.iaload, 1) := by decide +kernel
theorem dw_973 : decode code 973 = .ok (.aload_n 0, 1) := by decide +kernel
theorem dw_974 : decode code 974 = .ok (.iload 4, 2) := by decide +kernel
theorem dw_976 : decode code 976 = .ok (.iconst 2, 1) := by decide +kernel
theorem dw_977 : decode code 977 = .ok (.iadd, 1) := by decide +kernel
theorem dw_978 : decode code 978 = .ok (.iaload, 1) := by decide +kernel
theorem dw_979 : decode code 979 = .ok (.aload_n 0, 1) := by decide +kernel
theorem dw_980 : decode code 980 = .ok (.iload 4, 2) := by decide +kernel
theorem dw_982 : decode code 982 = .ok (.iconst 3, 1) := by decide +kernel
theorem dw_983 : decode code 983 = .ok (.iadd, 1) := by decide +kernel
theorem dw_984 : decode code 984 = .ok (.iaload, 1) := by decide +kernel
theorem dw_985 : decode code 985 = .ok (.invokevirtual 110, 3) := by decide +kernel
theorem dw_988 : decode code 988 = .ok (.if_icmp .eq 659, 3) := by decide +kernel
theorem dw_991 : decode code 991 = .ok (.iconst 0, 1) := by decide +kernel
theorem dw_992 : decode code 992 = .ok (.ireturn, 1) := by decide +kernel
theorem dw_993 : decode code 993 = .ok (.aload_n 1, 1) := by decide +kernel
theorem dw_994 : decode code 994 = .ok (.invokevirtual 111, 3) := by decide +kernel
theorem dw_997 : decode code 997 = .ok (.aload_n 2, 1) := by decide +kernel
theorem dw_998 : decode code 998 = .ok (.invokevirtual 114, 3) := by decide +kernel
theorem dw_1001 : decode code 1001 = .ok (.if_icmp .eq 646, 3) := by decide +kernel
theorem dw_1004 : decode code 1004 = .ok (.iconst 0, 1) := by decide +kernel
theorem dw_1005 : decode code 1005 = .ok (.ireturn, 1) := by decide +kernel
theorem dw_1006 : decode code 1006 = .ok (.aload_n 1, 1) := by decide +kernel
theorem dw_1007 : decode code 1007 = .ok (.aload_n 0, 1) := by decide +kernel
theorem dw_1008 : decode code 1008 = .ok (.iload 4, 2) := by decide +kernel
theorem dw_1010 : decode code 1010 = .ok (.iconst 1, 1) := by decide +kernel
theorem dw_1011 : decode code 1011 = .ok (.iadd, 1) := by decide +kernel
theorem dw_1012 : decode code 1012 = .ok (.iaload, 1) := by decide +kernel
theorem dw_1013 : decode code 1013 = .ok (.aload_n 0, 1) := by decide +kernel
theorem dw_1014 : decode code 1014 = .ok (.iload 4, 2) := by decide +kernel
theorem dw_1016 : decode code 1016 = .ok (.iconst 2, 1) := by decide +kernel
theorem dw_1017 : decode code 1017 = .ok (.iadd, 1) := by decide +kernel
theorem dw_1018 : decode code 1018 = .ok (.iaload, 1) := by decide +kernel
theorem dw_1019 : decode code 1019 = .ok (.aload_n 0, 1) := by decide +kernel
theorem dw_1020 : decode code 1020 = .ok (.iload 4, 2) := by decide +kernel
theorem dw_1022 : decode code 1022 = .ok (.iconst 3, 1) := by decide +kernel
theorem dw_1023 : decode code 1023 = .ok (.iadd, 1) := by decide +kernel
theorem dw_1024 : decode code 1024 = .ok (.iaload, 1) := by decide +kernel
theorem dw_1025 : decode code 1025 = .ok (.invokevirtual 115, 3) := by decide +kernel
theorem dw_1028 : decode code 1028 = .ok (.aload_n 2, 1) := by decide +kernel
theorem dw_1029 : decode code 1029 = .ok (.aload_n 0, 1) := by decide +kernel
theorem dw_1030 : decode code 1030 = .ok (.iload 4, 2) := by decide +kernel
theorem dw_1032 : decode code 1032 = .ok (.iconst 1, 1) := by decide +kernel
theorem dw_1033 : decode code 1033 = .ok (.iadd, 1) := by decide +kernel
theorem dw_1034 : decode code 1034 = .ok (.iaload, 1) := by decide +kernel
theorem dw_1035 : decode code 1035 = .ok (.aload_n 0, 1) := by decide +kernel
theorem dw_1036 : decode code 1036 = .ok (.iload 4, 2) := by decide +kernel
theorem dw_1038 : decode code 1038 = .ok (.iconst 2, 1) := by decide +kernel
theorem dw_1039 : decode code 1039 = .ok (.iadd, 1) := by decide +kernel
theorem dw_1040 : decode code 1040 = .ok (.iaload, 1) := by decide +kernel
theorem dw_1041 : decode code 1041 = .ok (.aload_n 0, 1) := by decide +kernel
theorem dw_1042 : decode code 1042 = .ok (.iload 4, 2) := by decide +kernel
theorem dw_1044 : decode code 1044 = .ok (.iconst 3, 1) := by decide +kernel
theorem dw_1045 : decode code 1045 = .ok (.iadd, 1) := by decide +kernel
theorem dw_1046 : decode code 1046 = .ok (.iaload, 1) := by decide +kernel
theorem dw_1047 : decode code 1047 = .ok (.invokevirtual 118, 3) := by decide +kernel
theorem dw_1050 : decode code 1050 = .ok (.if_icmp .eq 597, 3) := by decide +kernel
theorem dw_1053 : decode code 1053 = .ok (.iconst 0, 1) := by decide +kernel
theorem dw_1054 : decode code 1054 = .ok (.ireturn, 1) := by decide +kernel
theorem dw_1055 : decode code 1055 = .ok (.aload_n 1, 1) := by decide +kernel
theorem dw_1056 : decode code 1056 = .ok (.aload_n 0, 1) := by decide +kernel
theorem dw_1057 : decode code 1057 = .ok (.iload 4, 2) := by decide +kernel
theorem dw_1059 : decode code 1059 = .ok (.iconst 1, 1) := by decide +kernel
theorem dw_1060 : decode code 1060 = .ok (.iadd, 1) := by decide +kernel
theorem dw_1061 : decode code 1061 = .ok (.iaload, 1) := by decide +kernel
theorem dw_1062 : decode code 1062 = .ok (.aload_n 0, 1) := by decide +kernel
theorem dw_1063 : decode code 1063 = .ok (.iload 4, 2) := by decide +kernel
theorem dw_1065 : decode code 1065 = .ok (.iconst 2, 1) := by decide +kernel
theorem dw_1066 : decode code 1066 = .ok (.iadd, 1) := by decide +kernel
theorem dw_1067 : decode code 1067 = .ok (.iaload, 1) := by decide +kernel
theorem dw_1068 : decode code 1068 = .ok (.invokevirtual 119, 3) := by decide +kernel
theorem dw_1071 : decode code 1071 = .ok (.aload_n 2, 1) := by decide +kernel
theorem dw_1072 : decode code 1072 = .ok (.aload_n 0, 1) := by decide +kernel
theorem dw_1073 : decode code 1073 = .ok (.iload 4, 2) := by decide +kernel
theorem dw_1075 : decode code 1075 = .ok (.iconst 1, 1) := by decide +kernel
theorem dw_1076 : decode code 1076 = .ok (.iadd, 1) := by decide +kernel
theorem dw_1077 : decode code 1077 = .ok (.iaload, 1) := by decide +kernel
theorem dw_1078 : decode code 1078 = .ok (.aload_n 0, 1) := by decide +kernel
theorem dw_1079 : decode code 1079 = .ok (.iload 4, 2) := by decide +kernel
theorem dw_1081 : decode code 1081 = .ok (.iconst 2, 1) := by decide +kernel
theorem dw_1082 : decode code 1082 = .ok (.iadd, 1) := by decide +kernel
theorem dw_1083 : decode code 1083 = .ok (.iaload, 1) := by decide +kernel
theorem dw_1084 : decode code 1084 = .ok (.invokevirtual 122, 3) := by decide +kernel
theorem dw_1087 : decode code 1087 = .ok (.if_icmp .eq 560, 3) := by decide +kernel
theorem dw_1090 : decode code 1090 = .ok (.iconst 0, 1) := by decide +kernel
theorem dw_1091 : decode code 1091 = .ok (.ireturn, 1) := by decide +kernel
theorem dw_1092 : decode code 1092 = .ok (.aload_n 1, 1) := by decide +kernel
theorem dw_1093 : decode code 1093 = .ok (.aload_n 0, 1) := by decide +kernel
theorem dw_1094 : decode code 1094 = .ok (.iload 4, 2) := by decide +kernel
theorem dw_1096 : decode code 1096 = .ok (.iconst 1, 1) := by decide +kernel
theorem dw_1097 : decode code 1097 = .ok (.iadd, 1) := by decide +kernel
theorem dw_1098 : decode code 1098 = .ok (.iaload, 1) := by decide +kernel
theorem dw_1099 : decode code 1099 = .ok (.aload_n 0, 1) := by decide +kernel
theorem dw_1100 : decode code 1100 = .ok (.iload 4, 2) := by decide +kernel
theorem dw_1102 : decode code 1102 = .ok (.iconst 2, 1) := by decide +kernel
theorem dw_1103 : decode code 1103 = .ok (.iadd, 1) := by decide +kernel
theorem dw_1104 : decode code 1104 = .ok (.iaload, 1) := by decide +kernel
theorem dw_1105 : decode code 1105 = .ok (.aload_n 0, 1) := by decide +kernel
theorem dw_1106 : decode code 1106 = .ok (.iload 4, 2) := by decide +kernel
theorem dw_1108 : decode code 1108 = .ok (.iconst 3, 1) := by decide +kernel
theorem dw_1109 : decode code 1109 = .ok (.iadd, 1) := by decide +kernel
theorem dw_1110 : decode code 1110 = .ok (.iaload, 1) := by decide +kernel
theorem dw_1111 : decode code 1111 = .ok (.invokevirtual 123, 3) := by decide +kernel
theorem dw_1114 : decode code 1114 = .ok (.aload_n 2, 1) := by decide +kernel
theorem dw_1115 : decode code 1115 = .ok (.aload_n 0, 1) := by decide +kernel
theorem dw_1116 : decode code 1116 = .ok (.iload 4, 2) := by decide +kernel
theorem dw_1118 : decode code 1118 = .ok (.iconst 1, 1) := by decide +kernel
theorem dw_1119 : decode code 1119 = .ok (.iadd, 1) := by decide +kernel
theorem dw_1120 : decode code 1120 = .ok (.iaload, 1) := by decide +kernel
theorem dw_1121 : decode code 1121 = .ok (.aload_n 0, 1) := by decide +kernel
theorem dw_1122 : decode code 1122 = .ok (.iload 4, 2) := by decide +kernel
theorem dw_1124 : decode code 1124 = .ok (.iconst 2, 1) := by decide +kernel
theorem dw_1125 : decode code 1125 = .ok (.iadd, 1) := by decide +kernel
theorem dw_1126 : decode code 1126 = .ok (.iaload, 1) := by decide +kernel
theorem dw_1127 : decode code 1127 = .ok (.aload_n 0, 1) := by decide +kernel
theorem dw_1128 : decode code 1128 = .ok (.iload 4, 2) := by decide +kernel
theorem dw_1130 : decode code 1130 = .ok (.iconst 3, 1) := by decide +kernel
theorem dw_1131 : decode code 1131 = .ok (.iadd, 1) := by decide +kernel
theorem dw_1132 : decode code 1132 = .ok (.iaload, 1) := by decide +kernel
theorem dw_1133 : decode code 1133 = .ok (.invokevirtual 126, 3) := by decide +kernel
theorem dw_1136 : decode code 1136 = .ok (.if_icmp .eq 511, 3) := by decide +kernel
theorem dw_1139 : decode code 1139 = .ok (.iconst 0, 1) := by decide +kernel
theorem dw_1140 : decode code 1140 = .ok (.ireturn, 1) := by decide +kernel
theorem dw_1141 : decode code 1141 = .ok (.aload_n 1, 1) := by decide +kernel
theorem dw_1142 : decode code 1142 = .ok (.aload_n 0, 1) := by decide +kernel
theorem dw_1143 : decode code 1143 = .ok (.iload 4, 2) := by decide +kernel
theorem dw_1145 : decode code 1145 = .ok (.iconst 1, 1) := by decide +kernel
theorem dw_1146 : decode code 1146 = .ok (.iadd, 1) := by decide +kernel
theorem dw_1147 : decode code 1147 = .ok (.iaload, 1) := by decide +kernel
theorem dw_1148 : decode code 1148 = .ok (.invokevirtual 127, 3) := by decide +kernel
theorem dw_1151 : decode code 1151 = .ok (.aload_n 2, 1) := by decide +kernel
theorem dw_1152 : decode code 1152 = .ok (.aload_n 0, 1) := by decide +kernel
theorem dw_1153 : decode code 1153 = .ok (.iload 4, 2) := by decide +kernel
theorem dw_1155 : decode code 1155 = .ok (.iconst 1, 1) := by decide +kernel
theorem dw_1156 : decode code 1156 = .ok (.iadd, 1) := by decide +kernel
theorem dw_1157 : decode code 1157 = .ok (.iaload, 1) := by decide +kernel
theorem dw_1158 : decode code 1158 = .ok (.invokevirtual 130, 3) := by decide +kernel
theorem dw_1161 : decode code 1161 = .ok (.if_icmp .eq 486, 3) := by decide +kernel
theorem dw_1164 : decode code 1164 = .ok (.iconst 0, 1) := by decide +kernel
theorem dw_1165 : decode code 1165 = .ok (.ireturn, 1) := by decide +kernel
theorem dw_1166 : decode code 1166 = .ok (.aload_n 1, 1) := by decide +kernel
theorem dw_1167 : decode code 1167 = .ok (.aload_n 0, 1) := by decide +kernel
theorem dw_1168 : decode code 1168 = .ok (.iload 4, 2) := by decide +kernel
theorem dw_1170 : decode code 1170 = .ok (.iconst 1, 1) := by decide +kernel
theorem dw_1171 : decode code 1171 = .ok (.iadd, 1) := by decide +kernel
theorem dw_1172 : decode code 1172 = .ok (.iaload, 1) := by decide +kernel
theorem dw_1173 : decode code 1173 = .ok (.aload_n 0, 1) := by decide +kernel
theorem dw_1174 : decode code 1174 = .ok (.iload 4, 2) := by decide +kernel
theorem dw_1176 : decode code 1176 = .ok (.iconst 2, 1) := by decide +kernel
theorem dw_1177 : decode code 1177 = .ok (.iadd, 1) := by decide +kernel
theorem dw_1178 : decode code 1178 = .ok (.iaload, 1) := by decide +kernel
theorem dw_1179 : decode code 1179 = .ok (.aload_n 0, 1) := by decide +kernel
theorem dw_1180 : decode code 1180 = .ok (.iload 4, 2) := by decide +kernel
theorem dw_1182 : decode code 1182 = .ok (.iconst 3, 1) := by decide +kernel
theorem dw_1183 : decode code 1183 = .ok (.iadd, 1) := by decide +kernel
theorem dw_1184 : decode code 1184 = .ok (.iaload, 1) := by decide +kernel
theorem dw_1185 : decode code 1185 = .ok (.invokevirtual 131, 3) := by decide +kernel
theorem dw_1188 : decode code 1188 = .ok (.aload_n 2, 1) := by decide +kernel
theorem dw_1189 : decode code 1189 = .ok (.aload_n 0, 1) := by decide +kernel
theorem dw_1190 : decode code 1190 = .ok (.iload 4, 2) := by decide +kernel
theorem dw_1192 : decode code 1192 = .ok (.iconst 1, 1) := by decide +kernel
theorem dw_1193 : decode code 1193 = .ok (.iadd, 1) := by decide +kernel
theorem dw_1194 : decode code 1194 = .ok (.iaload, 1) := by decide +kernel
theorem dw_1195 : decode code 1195 = .ok (.aload_n 0, 1) := by decide +kernel
theorem dw_1196 : decode code 1196 = .ok (.iload 4, 2) := by decide +kernel
theorem dw_1198 : decode code 1198 = .ok (.iconst 2, 1) := by decide +kernel
theorem dw_1199 : decode code 1199 = .ok (.iadd, 1) := by decide +kernel
theorem dw_1200 : decode code 1200 = .ok (.iaload, 1) := by decide +kernel
theorem dw_1201 : decode code 1201 = .ok (.aload_n 0, 1) := by decide +kernel
theorem dw_1202 : decode code 1202 = .ok (.iload 4, 2) := by decide +kernel
theorem dw_1204 : decode code 1204 = .ok (.iconst 3, 1) := by decide +kernel
theorem dw_1205 : decode code 1205 = .ok (.iadd, 1) := by decide +kernel
theorem dw_1206 : decode code 1206 = .ok (.iaload, 1) := by decide +kernel
theorem dw_1207 : decode code 1207 = .ok (.invokevirtual 134, 3) := by decide +kernel
theorem dw_1210 : decode code 1210 = .ok (.if_icmp .eq 437, 3) := by decide +kernel
theorem dw_1213 : decode code 1213 = .ok (.iconst 0, 1) := by decide +kernel
theorem dw_1214 : decode code 1214 = .ok (.ireturn, 1) := by decide +kernel
theorem dw_1215 : decode code 1215 = .ok (.aload_n 1, 1) := by decide +kernel
theorem dw_1216 : decode code 1216 = .ok (.aload_n 0, 1) := by decide +kernel
theorem dw_1217 : decode code 1217 = .ok (.iload 4, 2) := by decide +kernel
theorem dw_1219 : decode code 1219 = .ok (.iconst 1, 1) := by decide +kernel
theorem dw_1220 : decode code 1220 = .ok (.iadd, 1) := by decide +kernel
theorem dw_1221 : decode code 1221 = .ok (.iaload, 1) := by decide +kernel
theorem dw_1222 : decode code 1222 = .ok (.aload_n 0, 1) := by decide +kernel
theorem dw_1223 : decode code 1223 = .ok (.iload 4, 2) := by decide +kernel
theorem dw_1225 : decode code 1225 = .ok (.iconst 2, 1) := by decide +kernel
theorem dw_1226 : decode code 1226 = .ok (.iadd, 1) := by decide +kernel
theorem dw_1227 : decode code 1227 = .ok (.iaload, 1) := by decide +kernel
theorem dw_1228 : decode code 1228 = .ok (.invokevirtual 135, 3) := by decide +kernel
theorem dw_1231 : decode code 1231 = .ok (.aload_n 2, 1) := by decide +kernel
theorem dw_1232 : decode code 1232 = .ok (.aload_n 0, 1) := by decide +kernel
theorem dw_1233 : decode code 1233 = .ok (.iload 4, 2) := by decide +kernel
theorem dw_1235 : decode code 1235 = .ok (.iconst 1, 1) := by decide +kernel
theorem dw_1236 : decode code 1236 = .ok (.iadd, 1) := by decide +kernel
theorem dw_1237 : decode code 1237 = .ok (.iaload, 1) := by decide +kernel
theorem dw_1238 : decode code 1238 = .ok (.aload_n 0, 1) := by decide +kernel
theorem dw_1239 : decode code 1239 = .ok (.iload 4, 2) := by decide +kernel
theorem dw_1241 : decode code 1241 = .ok (.iconst 2, 1) := by decide +kernel
theorem dw_1242 : decode code 1242 = .ok (.iadd, 1) := by decide +kernel
theorem dw_1243 : decode code 1243 = .ok (.iaload, 1) := by decide +kernel
theorem dw_1244 : decode code 1244 = .ok (.invokevirtual 138, 3) := by decide +kernel
theorem dw_1247 : decode code 1247 = .ok (.if_icmp .eq 400, 3) := by decide +kernel
theorem dw_1250 : decode code 1250 = .ok (.iconst 0, 1) := by decide +kernel
theorem dw_1251 : decode code 1251 = .ok (.ireturn, 1) := by decide +kernel
theorem dw_1252 : decode code 1252 = .ok (.aload_n 1, 1) := by decide +kernel
theorem dw_1253 : decode code 1253 = .ok (.aload_n 0, 1) := by decide +kernel
theorem dw_1254 : decode code 1254 = .ok (.iload 4, 2) := by decide +kernel
theorem dw_1256 : decode code 1256 = .ok (.iconst 1, 1) := by decide +kernel
theorem dw_1257 : decode code 1257 = .ok (.iadd, 1) := by decide +kernel
theorem dw_1258 : decode code 1258 = .ok (.iaload, 1) := by decide +kernel
theorem dw_1259 : decode code 1259 = .ok (.aload_n 0, 1) := by decide +kernel
theorem dw_1260 : decode code 1260 = .ok (.iload 4, 2) := by decide +kernel
theorem dw_1262 : decode code 1262 = .ok (.iconst 2, 1) := by decide +kernel
theorem dw_1263 : decode code 1263 = .ok (.iadd, 1) := by decide +kernel
theorem dw_1264 : decode code 1264 = .ok (.iaload, 1) := by decide +kernel
theorem dw_1265 : decode code 1265 = .ok (.aload_n 0, 1) := by decide +kernel
theorem dw_1266 : decode code 1266 = .ok (.iload 4, 2) := by decide +kernel
theorem dw_1268 : decode code 1268 = .ok (.iconst 3, 1) := by decide +kernel
theorem dw_1269 : decode code 1269 = .ok (.iadd, 1) := by decide +kernel
theorem dw_1270 : decode code 1270 = .ok (.iaload, 1) := by decide +kernel
theorem dw_1271 : decode code 1271 = .ok (.invokevirtual 139, 3) := by decide +kernel
theorem dw_1274 : decode code 1274 = .ok (.aload_n 2, 1) := by decide +kernel
theorem dw_1275 : decode code 1275 = .ok (.aload_n 0, 1) := by decide +kernel
theorem dw_1276 : decode code 1276 = .ok (.iload 4, 2) := by decide +kernel
theorem dw_1278 : decode code 1278 = .ok (.iconst 1, 1) := by decide +kernel
theorem dw_1279 : decode code 1279 = .ok (.iadd, 1) := by decide +kernel
theorem dw_1280 : decode code 1280 = .ok (.iaload, 1) := by decide +kernel
theorem dw_1281 : decode code 1281 = .ok (.aload_n 0, 1) := by decide +kernel
theorem dw_1282 : decode code 1282 = .ok (.iload 4, 2) := by decide +kernel
theorem dw_1284 : decode code 1284 = .ok (.iconst 2, 1) := by decide +kernel
theorem dw_1285 : decode code 1285 = .ok (.iadd, 1) := by decide +kernel
theorem dw_1286 : decode code 1286 = .ok (.iaload, 1) := by decide +kernel
theorem dw_1287 : decode code 1287 = .ok (.aload_n 0, 1) := by decide +kernel
theorem dw_1288 : decode code 1288 = .ok (.iload 4, 2) := by decide +kernel
theorem dw_1290 : decode code 1290 = .ok (.iconst 3, 1) := by decide +kernel
theorem dw_1291 : decode code 1291 = .ok (.iadd, 1) := by decide +kernel
theorem dw_1292 : decode code 1292 = .ok (.iaload, 1) := by decide +kernel
theorem dw_1293 : decode code 1293 = .ok (.invokevirtual 142, 3) := by decide +kernel
theorem dw_1296 : decode code 1296 = .ok (.if_icmp .eq 351, 3) := by decide +kernel
theorem dw_1299 : decode code 1299 = .ok (.iconst 0, 1) := by decide +kernel
theorem dw_1300 : decode code 1300 = .ok (.ireturn, 1) := by decide +kernel
theorem dw_1301 : decode code 1301 = .ok (.aload_n 1, 1) := by decide +kernel
theorem dw_1302 : decode code 1302 = .ok (.aload_n 0, 1) := by decide +kernel
theorem dw_1303 : decode code 1303 = .ok (.iload 4, 2) := by decide +kernel
theorem dw_1305 : decode code 1305 = .ok (.iconst 1, 1) := by decide +kernel
theorem dw_1306 : decode code 1306 = .ok (.iadd, 1) := by decide +kernel
theorem dw_1307 : decode code 1307 = .ok (.iaload, 1) := by decide +kernel
theorem dw_1308 : decode code 1308 = .ok (.invokevirtual 143, 3) := by decide +kernel
theorem dw_1311 : decode code 1311 = .ok (.aload_n 2, 1) := by decide +kernel
theorem dw_1312 : decode code 1312 = .ok (.aload_n 0, 1) := by decide +kernel
theorem dw_1313 : decode code 1313 = .ok (.iload 4, 2) := by decide +kernel
theorem dw_1315 : decode code 1315 = .ok (.iconst 1, 1) := by decide +kernel
theorem dw_1316 : decode code 1316 = .ok (.iadd, 1) := by decide +kernel
theorem dw_1317 : decode code 1317 = .ok (.iaload, 1) := by decide +kernel
theorem dw_1318 : decode code 1318 = .ok (.invokevirtual 146, 3) := by decide +kernel
theorem dw_1321 : decode code 1321 = .ok (.if_icmp .eq 326, 3) := by decide +kernel
theorem dw_1324 : decode code 1324 = .ok (.iconst 0, 1) := by decide +kernel
theorem dw_1325 : decode code 1325 = .ok (.ireturn, 1) := by decide +kernel
theorem dw_1326 : decode code 1326 = .ok (.aload_n 1, 1) := by decide +kernel
theorem dw_1327 : decode code 1327 = .ok (.aload_n 0, 1) := by decide +kernel
theorem dw_1328 : decode code 1328 = .ok (.iload 4, 2) := by decide +kernel
theorem dw_1330 : decode code 1330 = .ok (.iconst 1, 1) := by decide +kernel
theorem dw_1331 : decode code 1331 = .ok (.iadd, 1) := by decide +kernel
theorem dw_1332 : decode code 1332 = .ok (.iaload, 1) := by decide +kernel
theorem dw_1333 : decode code 1333 = .ok (.invokevirtual 147, 3) := by decide +kernel
theorem dw_1336 : decode code 1336 = .ok (.aload_n 2, 1) := by decide +kernel
theorem dw_1337 : decode code 1337 = .ok (.aload_n 0, 1) := by decide +kernel
theorem dw_1338 : decode code 1338 = .ok (.iload 4, 2) := by decide +kernel
theorem dw_1340 : decode code 1340 = .ok (.iconst 1, 1) := by decide +kernel
theorem dw_1341 : decode code 1341 = .ok (.iadd, 1) := by decide +kernel
theorem dw_1342 : decode code 1342 = .ok (.iaload, 1) := by decide +kernel
theorem dw_1343 : decode code 1343 = .ok (.invokevirtual 150, 3) := by decide +kernel
theorem dw_1346 : decode code 1346 = .ok (.if_icmp .eq 301, 3) := by decide +kernel
theorem dw_1349 : decode code 1349 = .ok (.iconst 0, 1) := by decide +kernel
theorem dw_1350 : decode code 1350 = .ok (.ireturn, 1) := by decide +kernel
theorem dw_1351 : decode code 1351 = .ok (.aload_n 1, 1) := by decide +kernel
theorem dw_1352 : decode code 1352 = .ok (.aload_n 0, 1) := by decide +kernel
theorem dw_1353 : decode code 1353 = .ok (.iload 4, 2) := by decide +kernel
theorem dw_1355 : decode code 1355 = .ok (.iconst 1, 1) := by decide +kernel
theorem dw_1356 : decode code 1356 = .ok (.iadd, 1) := by decide +kernel
theorem dw_1357 : decode code 1357 = .ok (.iaload, 1) := by decide +kernel
theorem dw_1358 : decode code 1358 = .ok (.invokevirtual 151, 3) := by decide +kernel
theorem dw_1361 : decode code 1361 = .ok (.aload_n 2, 1) := by decide +kernel
theorem dw_1362 : decode code 1362 = .ok (.aload_n 0, 1) := by decide +kernel
theorem dw_1363 : decode code 1363 = .ok (.iload 4, 2) := by decide +kernel
theorem dw_1365 : decode code 1365 = .ok (.iconst 1, 1) := by decide +kernel
theorem dw_1366 : decode code 1366 = .ok (.iadd, 1) := by decide +kernel
theorem dw_1367 : decode code 1367 = .ok (.iaload, 1) := by decide +kernel
theorem dw_1368 : decode code 1368 = .ok (.invokevirtual 154, 3) := by decide +kernel
theorem dw_1371 : decode code 1371 = .ok (.if_icmp .eq 276, 3) := by decide +kernel
theorem dw_1374 : decode code 1374 = .ok (.iconst 0, 1) := by decide +kernel
theorem dw_1375 : decode code 1375 = .ok (.ireturn, 1) := by decide +kernel
theorem dw_1376 : decode code 1376 = .ok (.aload_n 1, 1) := by decide +kernel
theorem dw_1377 : decode code 1377 = .ok (.aload_n 0, 1) := by decide +kernel
theorem dw_1378 : decode code 1378 = .ok (.iload 4, 2) := by decide +kernel
theorem dw_1380 : decode code 1380 = .ok (.iconst 1, 1) := by decide +kernel
theorem dw_1381 : decode code 1381 = .ok (.iadd, 1) := by decide +kernel
theorem dw_1382 : decode code 1382 = .ok (.iaload, 1) := by decide +kernel
theorem dw_1383 : decode code 1383 = .ok (.invokevirtual 155, 3) := by decide +kernel
theorem dw_1386 : decode code 1386 = .ok (.aload_n 2, 1) := by decide +kernel
theorem dw_1387 : decode code 1387 = .ok (.aload_n 0, 1) := by decide +kernel
theorem dw_1388 : decode code 1388 = .ok (.iload 4, 2) := by decide +kernel
theorem dw_1390 : decode code 1390 = .ok (.iconst 1, 1) := by decide +kernel
theorem dw_1391 : decode code 1391 = .ok (.iadd, 1) := by decide +kernel
theorem dw_1392 : decode code 1392 = .ok (.iaload, 1) := by decide +kernel
theorem dw_1393 : decode code 1393 = .ok (.invokevirtual 158, 3) := by decide +kernel
theorem dw_1396 : decode code 1396 = .ok (.if_icmp .eq 251, 3) := by decide +kernel
theorem dw_1399 : decode code 1399 = .ok (.iconst 0, 1) := by decide +kernel
theorem dw_1400 : decode code 1400 = .ok (.ireturn, 1) := by decide +kernel
theorem dw_1401 : decode code 1401 = .ok (.aload_n 1, 1) := by decide +kernel
theorem dw_1402 : decode code 1402 = .ok (.aload_n 0, 1) := by decide +kernel
theorem dw_1403 : decode code 1403 = .ok (.iload 4, 2) := by decide +kernel
theorem dw_1405 : decode code 1405 = .ok (.iconst 1, 1) := by decide +kernel
theorem dw_1406 : decode code 1406 = .ok (.iadd, 1) := by decide +kernel
theorem dw_1407 : decode code 1407 = .ok (.iaload, 1) := by decide +kernel
theorem dw_1408 : decode code 1408 = .ok (.aload_n 0, 1) := by decide +kernel
theorem dw_1409 : decode code 1409 = .ok (.iload 4, 2) := by decide +kernel
theorem dw_1411 : decode code 1411 = .ok (.iconst 2, 1) := by decide +kernel
theorem dw_1412 : decode code 1412 = .ok (.iadd, 1) := by decide +kernel
theorem dw_1413 : decode code 1413 = .ok (.iaload, 1) := by decide +kernel
theorem dw_1414 : decode code 1414 = .ok (.aload_n 0, 1) := by decide +kernel
theorem dw_1415 : decode code 1415 = .ok (.iload 4, 2) := by decide +kernel
theorem dw_1417 : decode code 1417 = .ok (.iconst 3, 1) := by decide +kernel
theorem dw_1418 : decode code 1418 = .ok (.iadd, 1) := by decide +kernel
theorem dw_1419 : decode code 1419 = .ok (.iaload, 1) := by decide +kernel
theorem dw_1420 : decode code 1420 = .ok (.i2l, 1) := by decide +kernel
theorem dw_1421 : decode code 1421 = .ok (.bipush 32, 2) := by decide +kernel
theorem dw_1423 : decode code 1423 = .ok (.lshl, 1) := by decide +kernel
theorem dw_1424 : decode code 1424 = .ok (.aload_n 0, 1) := by decide +kernel
theorem dw_1425 : decode code 1425 = .ok (.iload 4, 2) := by decide +kernel
theorem dw_1427 : decode code 1427 = .ok (.iconst 4, 1) := by decide +kernel
theorem dw_1428 : decode code 1428 = .ok (.iadd, 1) := by decide +kernel
theorem dw_1429 : decode code 1429 = .ok (.iaload, 1) := by decide +kernel
theorem dw_1430 : decode code 1430 = .ok (.i2l, 1) := by decide +kernel
theorem dw_1431 : decode code 1431 = .ok (.ldc2_w 159, 3) := by decide +kernel
theorem dw_1434 : decode code 1434 = .ok (.land, 1) := by decide +kernel
theorem dw_1435 : decode code 1435 = .ok (.lor, 1) := by decide +kernel
theorem dw_1436 : decode code 1436 = .ok (.invokevirtual 161, 3) := by decide +kernel
theorem dw_1439 : decode code 1439 = .ok (.aload_n 2, 1) := by decide +kernel
theorem dw_1440 : decode code 1440 = .ok (.aload_n 0, 1) := by decide +kernel
theorem dw_1441 : decode code 1441 = .ok (.iload 4, 2) := by decide +kernel
theorem dw_1443 : decode code 1443 = .ok (.iconst 1, 1) := by decide +kernel
theorem dw_1444 : decode code 1444 = .ok (.iadd, 1) := by decide +kernel
theorem dw_1445 : decode code 1445 = .ok (.iaload, 1) := by decide +kernel
theorem dw_1446 : decode code 1446 = .ok (.aload_n 0, 1) := by decide +kernel
theorem dw_1447 : decode code 1447 = .ok (.iload 4, 2) := by decide +kernel
theorem dw_1449 : decode code 1449 = .ok (.iconst 2, 1) := by decide +kernel
theorem dw_1450 : decode code 1450 = .ok (.iadd, 1) := by decide +kernel
theorem dw_1451 : decode code 1451 = .ok (.iaload, 1) := by decide +kernel
theorem dw_1452 : decode code 1452 = .ok (.aload_n 0, 1) := by decide +kernel
theorem dw_1453 : decode code 1453 = .ok (.iload 4, 2) := by decide +kernel
theorem dw_1455 : decode code 1455 = .ok (.iconst 3, 1) := by decide +kernel
theorem dw_1456 : decode code 1456 = .ok (.iadd, 1) := by decide +kernel
theorem dw_1457 : decode code 1457 = .ok (.iaload, 1) := by decide +kernel
theorem dw_1458 : decode code 1458 = .ok (.i2l, 1) := by decide +kernel
theorem dw_1459 : decode code 1459 = .ok (.bipush 32, 2) := by decide +kernel
theorem dw_1461 : decode code 1461 = .ok (.lshl, 1) := by decide +kernel
theorem dw_1462 : decode code 1462 = .ok (.aload_n 0, 1) := by decide +kernel
theorem dw_1463 : decode code 1463 = .ok (.iload 4, 2) := by decide +kernel
theorem dw_1465 : decode code 1465 = .ok (.iconst 4, 1) := by decide +kernel
theorem dw_1466 : decode code 1466 = .ok (.iadd, 1) := by decide +kernel
theorem dw_1467 : decode code 1467 = .ok (.iaload, 1) := by decide +kernel
theorem dw_1468 : decode code 1468 = .ok (.i2l, 1) := by decide +kernel
theorem dw_1469 : decode code 1469 = .ok (.ldc2_w 159, 3) := by decide +kernel
theorem dw_1472 : decode code 1472 = .ok (.land, 1) := by decide +kernel
theorem dw_1473 : decode code 1473 = .ok (.lor, 1) := by decide +kernel
theorem dw_1474 : decode code 1474 = .ok (.invokevirtual 165, 3) := by decide +kernel
theorem dw_1477 : decode code 1477 = .ok (.if_icmp .eq 170, 3) := by decide +kernel
theorem dw_1480 : decode code 1480 = .ok (.iconst 0, 1) := by decide +kernel
theorem dw_1481 : decode code 1481 = .ok (.ireturn, 1) := by decide +kernel
theorem dw_1482 : decode code 1482 = .ok (.aload_n 1, 1) := by decide +kernel
theorem dw_1483 : decode code 1483 = .ok (.aload_n 0, 1) := by decide +kernel
theorem dw_1484 : decode code 1484 = .ok (.iload 4, 2) := by decide +kernel
theorem dw_1486 : decode code 1486 = .ok (.iconst 1, 1) := by decide +kernel
theorem dw_1487 : decode code 1487 = .ok (.iadd, 1) := by decide +kernel
theorem dw_1488 : decode code 1488 = .ok (.iaload, 1) := by decide +kernel
theorem dw_1489 : decode code 1489 = .ok (.aload_n 0, 1) := by decide +kernel
theorem dw_1490 : decode code 1490 = .ok (.iload 4, 2) := by decide +kernel
theorem dw_1492 : decode code 1492 = .ok (.iconst 2, 1) := by decide +kernel
theorem dw_1493 : decode code 1493 = .ok (.iadd, 1) := by decide +kernel
theorem dw_1494 : decode code 1494 = .ok (.iaload, 1) := by decide +kernel
theorem dw_1495 : decode code 1495 = .ok (.aload_n 3, 1) := by decide +kernel
theorem dw_1496 : decode code 1496 = .ok (.invokestatic 166, 3) := by decide +kernel
theorem dw_1499 : decode code 1499 = .ok (.istore 5, 2) := by decide +kernel
theorem dw_1501 : decode code 1501 = .ok (.aload_n 2, 1) := by decide +kernel
theorem dw_1502 : decode code 1502 = .ok (.aload_n 0, 1) := by decide +kernel
theorem dw_1503 : decode code 1503 = .ok (.iload 4, 2) := by decide +kernel
theorem dw_1505 : decode code 1505 = .ok (.iconst 1, 1) := by decide +kernel
theorem dw_1506 : decode code 1506 = .ok (.iadd, 1) := by decide +kernel
theorem dw_1507 : decode code 1507 = .ok (.iaload, 1) := by decide +kernel
theorem dw_1508 : decode code 1508 = .ok (.aload_n 0, 1) := by decide +kernel
theorem dw_1509 : decode code 1509 = .ok (.iload 4, 2) := by decide +kernel
theorem dw_1511 : decode code 1511 = .ok (.iconst 2, 1) := by decide +kernel
theorem dw_1512 : decode code 1512 = .ok (.iadd, 1) := by decide +kernel
theorem dw_1513 : decode code 1513 = .ok (.iaload, 1) := by decide +kernel
theorem dw_1514 : decode code 1514 = .ok (.invokevirtual 171, 3) := by decide +kernel
theorem dw_1517 : decode code 1517 = .ok (.lstore 6, 2) := by decide +kernel
theorem dw_1519 : decode code 1519 = .ok (.aload_n 2, 1) := by decide +kernel
theorem dw_1520 : decode code 1520 = .ok (.invokevirtual 172, 3) := by decide +kernel
theorem dw_1523 : decode code 1523 = .ok (.iload 5, 2) := by decide +kernel
theorem dw_1525 : decode code 1525 = .ok (.if_icmp .eq 5, 3) := by decide +kernel
theorem dw_1528 : decode code 1528 = .ok (.iconst 0, 1) := by decide +kernel
theorem dw_1529 : decode code 1529 = .ok (.ireturn, 1) := by decide +kernel
theorem dw_1530 : decode code 1530 = .ok (.iload 5, 2) := by decide +kernel
theorem dw_1532 : decode code 1532 = .ok (.ifCond .ne 14, 3) := by decide +kernel
theorem dw_1535 : decode code 1535 = .ok (.aload_n 3, 1) := by decide +kernel
theorem dw_1536 : decode code 1536 = .ok (.iconst 0, 1) := by decide +kernel
theorem dw_1537 : decode code 1537 = .ok (.laload, 1) := by decide +kernel
theorem dw_1538 : decode code 1538 = .ok (.lload 6, 2) := by decide +kernel
theorem dw_1540 : decode code 1540 = .ok (.lcmp, 1) := by decide +kernel
theorem dw_1541 : decode code 1541 = .ok (.ifCond .eq 5, 3) := by decide +kernel
theorem dw_1544 : decode code 1544 = .ok (.iconst 0, 1) := by decide +kernel
theorem dw_1545 : decode code 1545 = .ok (.ireturn, 1) := by decide +kernel
theorem dw_1546 : decode code 1546 = .ok (.goto 101, 3) := by decide +kernel
theorem dw_1549 : decode code 1549 = .ok (.aload_n 1, 1) := by decide +kernel
theorem dw_1550 : decode code 1550 = .ok (.aload_n 0, 1) := by decide +kernel
theorem dw_1551 : decode code 1551 = .ok (.iload 4, 2) := by decide +kernel
theorem dw_1553 : decode code 1553 = .ok (.iconst 1, 1) := by decide +kernel
theorem dw_1554 : decode code 1554 = .ok (.iadd, 1) := by decide +kernel
theorem dw_1555 : decode code 1555 = .ok (.iaload, 1) := by decide +kernel
theorem dw_1556 : decode code 1556 = .ok (.aload_n 0, 1) := by decide +kernel
theorem dw_1557 : decode code 1557 = .ok (.iload 4, 2) := by decide +kernel
theorem dw_1559 : decode code 1559 = .ok (.iconst 2, 1) := by decide +kernel
theorem dw_1560 : decode code 1560 = .ok (.iadd, 1) := by decide +kernel
theorem dw_1561 : decode code 1561 = .ok (.iaload, 1) := by decide +kernel
theorem dw_1562 : decode code 1562 = .ok (.aload_n 0, 1) := by decide +kernel
theorem dw_1563 : decode code 1563 = .ok (.iload 4, 2) := by decide +kernel
theorem dw_1565 : decode code 1565 = .ok (.iconst 3, 1) := by decide +kernel
theorem dw_1566 : decode code 1566 = .ok (.iadd, 1) := by decide +kernel
theorem dw_1567 : decode code 1567 = .ok (.iaload, 1) := by decide +kernel
theorem dw_1568 : decode code 1568 = .ok (.aload_n 0, 1) := by decide +kernel
theorem dw_1569 : decode code 1569 = .ok (.iload 4, 2) := by decide +kernel
theorem dw_1571 : decode code 1571 = .ok (.iconst 4, 1) := by decide +kernel
theorem dw_1572 : decode code 1572 = .ok (.iadd, 1) := by decide +kernel
theorem dw_1573 : decode code 1573 = .ok (.iaload, 1) := by decide +kernel
theorem dw_1574 : decode code 1574 = .ok (.aload_n 0, 1) := by decide +kernel
theorem dw_1575 : decode code 1575 = .ok (.iload 4, 2) := by decide +kernel
theorem dw_1577 : decode code 1577 = .ok (.iconst 5, 1) := by decide +kernel
theorem dw_1578 : decode code 1578 = .ok (.iadd, 1) := by decide +kernel
theorem dw_1579 : decode code 1579 = .ok (.iaload, 1) := by decide +kernel
theorem dw_1580 : decode code 1580 = .ok (.invokevirtual 175, 3) := by decide +kernel
theorem dw_1583 : decode code 1583 = .ok (.aload_n 2, 1) := by decide +kernel
theorem dw_1584 : decode code 1584 = .ok (.aload_n 0, 1) := by decide +kernel
theorem dw_1585 : decode code 1585 = .ok (.iload 4, 2) := by decide +kernel
theorem dw_1587 : decode code 1587 = .ok (.iconst 1, 1) := by decide +kernel
theorem dw_1588 : decode code 1588 = .ok (.iadd, 1) := by decide +kernel
theorem dw_1589 : decode code 1589 = .ok (.iaload, 1) := by decide +kernel
theorem dw_1590 : decode code 1590 = .ok (.aload_n 0, 1) := by decide +kernel
theorem dw_1591 : decode code 1591 = .ok (.iload 4, 2) := by decide +kernel
theorem dw_1593 : decode code 1593 = .ok (.iconst 2, 1) := by decide +kernel
theorem dw_1594 : decode code 1594 = .ok (.iadd, 1) := by decide +kernel
theorem dw_1595 : decode code 1595 = .ok (.iaload, 1) := by decide +kernel
theorem dw_1596 : decode code 1596 = .ok (.aload_n 0, 1) := by decide +kernel
theorem dw_1597 : decode code 1597 = .ok (.iload 4, 2) := by decide +kernel
theorem dw_1599 : decode code 1599 = .ok (.iconst 3, 1) := by decide +kernel
theorem dw_1600 : decode code 1600 = .ok (.iadd, 1) := by decide +kernel
theorem dw_1601 : decode code 1601 = .ok (.iaload, 1) := by decide +kernel
theorem dw_1602 : decode code 1602 = .ok (.aload_n 0, 1) := by decide +kernel
theorem dw_1603 : decode code 1603 = .ok (.iload 4, 2) := by decide +kernel
theorem dw_1605 : decode code 1605 = .ok (.iconst 4, 1) := by decide +kernel
theorem dw_1606 : decode code 1606 = .ok (.iadd, 1) := by decide +kernel
theorem dw_1607 : decode code 1607 = .ok (.iaload, 1) := by decide +kernel
theorem dw_1608 : decode code 1608 = .ok (.aload_n 0, 1) := by decide +kernel
theorem dw_1609 : decode code 1609 = .ok (.iload 4, 2) := by decide +kernel
theorem dw_1611 : decode code 1611 = .ok (.iconst 5, 1) := by decide +kernel
theorem dw_1612 : decode code 1612 = .ok (.iadd, 1) := by decide +kernel
theorem dw_1613 : decode code 1613 = .ok (.iaload, 1) := by decide +kernel
theorem dw_1614 : decode code 1614 = .ok (.invokevirtual 178, 3) := by decide +kernel
theorem dw_1617 : decode code 1617 = .ok (.if_icmp .eq 30, 3) := by decide +kernel
theorem dw_1620 : decode code 1620 = .ok (.iconst 0, 1) := by decide +kernel
theorem dw_1621 : decode code 1621 = .ok (.ireturn, 1) := by decide +kernel
theorem dw_1622 : decode code 1622 = .ok (.aload_n 1, 1) := by decide +kernel
theorem dw_1623 : decode code 1623 = .ok (.aload_n 0, 1) := by decide +kernel
theorem dw_1624 : decode code 1624 = .ok (.iload 4, 2) := by decide +kernel
theorem dw_1626 : decode code 1626 = .ok (.iconst 1, 1) := by decide +kernel
theorem dw_1627 : decode code 1627 = .ok (.iadd, 1) := by decide +kernel
theorem dw_1628 : decode code 1628 = .ok (.iaload, 1) := by decide +kernel
theorem dw_1629 : decode code 1629 = .ok (.invokevirtual 179, 3) := by decide +kernel
theorem dw_1632 : decode code 1632 = .ok (.aload_n 2, 1) := by decide +kernel
theorem dw_1633 : decode code 1633 = .ok (.aload_n 0, 1) := by decide +kernel
theorem dw_1634 : decode code 1634 = .ok (.iload 4, 2) := by decide +kernel
theorem dw_1636 : decode code 1636 = .ok (.iconst 1, 1) := by decide +kernel
theorem dw_1637 : decode code 1637 = .ok (.iadd, 1) := by decide +kernel
theorem dw_1638 : decode code 1638 = .ok (.iaload, 1) := by decide +kernel
theorem dw_1639 : decode code 1639 = .ok (.invokevirtual 182, 3) := by decide +kernel
theorem dw_1642 : decode code 1642 = .ok (.if_icmp .eq 5, 3) := by decide +kernel
theorem dw_1645 : decode code 1645 = .ok (.iconst 0, 1) := by decide +kernel
theorem dw_1646 : decode code 1646 = .ok (.ireturn, 1) := by decide +kernel
theorem dw_1647 : decode code 1647 = .ok (.iinc 4 6, 3) := by decide +kernel
theorem dw_1650 : decode code 1650 = .ok (.goto (-1627), 3) := by decide +kernel
theorem dw_1653 : decode code 1653 = .ok (.iconst 1, 1) := by decide +kernel
theorem dw_1654 : decode code 1654 = .ok (.ireturn, 1) := by decide +kernel
abbrev lvh (n b qo : Nat) (ad : AD) : List (Nat × Value) := [(4, .int (nI (6 * n))), (0, .ref b), (1, .ref (ad (0, 0))), (2, .ref (ad (0, 90))), (3, .ref qo)]
def LC (p : Program) (s : State) (m : MethodId) (args : Array Value) (c : Code) (D : va_G) (cI cZ cJ cW cP : ClassId) (ad : AD) (A : Nat → Prop) (b L : Nat) (xs : Nat → Int32) : Prop :=
  p.tables.exec = Jvm.exec ∧ c.code = code ∧ c.maxLocals = 8 ∧ s.vm.findClass RL = some m.cls ∧ (∀ w ∈ gT, w.before args s = true) ∧ va_K D vwCl (tysOf cI cZ cJ cW cP) s ∧ hZs ad A s ∧ (∀ q, s.heap.size ≤ q → A q) ∧ va_X b L xs s s.heap ∧ b < s.heap.size ∧ (¬ A b) ∧ L ≤ 3072
section LAWRD
variable {p : Program} {l : Launch} {e : Env} {R : Room} {s : State} {m : MethodId} {args : Array Value} {below : List Frame} {meth : Method} {c : Code} {H : Heap} {locs : List Loc} {cells slots : Nat} {Q : State → Prop} {ls : Array Slot} {rest : List Value}
variable {D : va_G} {cI cZ cJ cW cP : ClassId} {ad : AD} {A : Nat → Prop} {b L : Nat} {xs : Nat → Int32} {n qo pc : Nat}
theorem law_rd {j : Nat} {ji : Int} (X : LC p s m args c D cI cZ cJ cW cP ad A b L xs) (hS : va_S A s.heap H locs) (hl : lv_has ls 8 (lvh n b qo ad)) (hn : 6 * n + 5 < L)
    (h0 : decode code pc = .ok (.aload_n 0, 1)) (h1 : decode code (pc + 1) = .ok (.iload 4, 2)) (h2 : decode code (pc + 1 + 2) = .ok (.iconst ji, 1)) (h3 : decode code (pc + 1 + 2 + 1) = .ok (.iadd, 1)) (h4 : decode code (pc + 1 + 2 + 1 + 1) = .ok (.iaload, 1)) (hji : Int32.ofInt ji = nI j) (hj : j ≤ 5)
    (kk : W p l e R s m args below meth c H locs cells slots Q (F0 m (pc + 6) ls (.int (xs (6 * n + j)) :: rest))) : W p l e R s m args below meth c H locs cells slots Q (F0 m pc ls rest) := by
  obtain ⟨hx, hb, hml, hown, hts, hK, hZ, hA, hX, hbl, hbA, h3k⟩ := X
  refine lv_aload_n hx hb h0 rfl (lv_at hl 1 rfl) ?_
  refine lv_iload hx hb h1 (lv_at hl 0 rfl) ?_
  refine lv_iconst hx hb h2 hji ?_
  refine lv_iadd hx hb h3 ?_
  rw [nI_ad]
  refine va_sld hx hb hX hbl hbA hS (in_nI (by omega) (by omega)) h4 ?_
  rw [cl_nI (by omega)]
  exact kk
end LAWRD
