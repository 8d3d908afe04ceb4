theorem d_law_0 : decode code 0 = .ok (.new 8, 3) := by decide +kernel
theorem d_law_3 : decode code 3 = .ok (.dup, 1) := by decide +kernel
theorem d_law_4 : decode code 4 = .ok (.invokespecial 132, 3) := by decide +kernel
theorem d_law_7 : decode code 7 = .ok (.astore_n 1, 1) := by decide +kernel
theorem d_law_8 : decode code 8 = .ok (.new 133, 3) := by decide +kernel
theorem d_law_11 : decode code 11 = .ok (.dup, 1) := by decide +kernel
theorem d_law_12 : decode code 12 = .ok (.invokespecial 135, 3) := by decide +kernel
theorem d_law_15 : decode code 15 = .ok (.astore_n 2, 1) := by decide +kernel
theorem d_law_16 : decode code 16 = .ok (.iconst 1, 1) := by decide +kernel
theorem d_law_17 : decode code 17 = .ok (.newarray .long, 2) := by decide +kernel
theorem d_law_19 : decode code 19 = .ok (.astore_n 3, 1) := by decide +kernel
theorem d_law_20 : decode code 20 = .ok (.iconst 0, 1) := by decide +kernel
theorem d_law_21 : decode code 21 = .ok (.istore 4, 2) := by decide +kernel
theorem d_law_23 : decode code 23 = .ok (.iload 4, 2) := by decide +kernel
theorem d_law_25 : decode code 25 = .ok (.aload_n 0, 1) := by decide +kernel
theorem d_law_26 : decode code 26 = .ok (.arraylength, 1) := by decide +kernel
theorem d_law_27 : decode code 27 = .ok (.bipush 6, 2) := by decide +kernel
theorem d_law_29 : decode code 29 = .ok (.isub, 1) := by decide +kernel
theorem d_law_30 : decode code 30 = .ok (.if_icmp .gt 2790, 3) := by decide +kernel
theorem d_law_33 : decode code 33 = .ok (.aload_n 0, 1) := by decide +kernel
theorem d_law_34 : decode code 34 = .ok (.iload 4, 2) := by decide +kernel
theorem d_law_36 : decode code 36 = .ok (.iaload, 1) := by decide +kernel
theorem d_law_37 : decode code 37 = .ok (.bipush 63, 2) := by decide +kernel
theorem d_law_39 : decode code 39 = .ok (.iand, 1) := by decide +kernel
theorem d_law_40 : decode code 40 = .ok (.tableswitch 2774 0 42 #[188, 261, 286, 330, 343, 411, 491, 571, 651, 726, 794, 862, 930, 1010, 1078, 1146, 1226, 1282, 1326, 1370, 1466, 1522, 1606, 1662, 1737, 1793, 1873, 1917, 1973, 2048, 2092, 2160, 2216, 2312, 2396, 2421, 2501, 2557, 2613, 2681, 2725, 2736, 2749], 188) := by decide +kernel
theorem d_law_228 : decode code 228 = .ok (.aload_n 1, 1) := by decide +kernel
theorem d_law_229 : decode code 229 = .ok (.aload_n 0, 1) := by decide +kernel
theorem d_law_230 : decode code 230 = .ok (.iload 4, 2) := by decide +kernel
theorem d_law_232 : decode code 232 = .ok (.iconst 1, 1) := by decide +kernel
theorem d_law_233 : decode code 233 = .ok (.iadd, 1) := by decide +kernel
theorem d_law_234 : decode code 234 = .ok (.iaload, 1) := by decide +kernel
theorem d_law_235 : decode code 235 = .ok (.aload_n 0, 1) := by decide +kernel
theorem d_law_236 : decode code 236 = .ok (.iload 4, 2) := by decide +kernel
theorem d_law_238 : decode code 238 = .ok (.iconst 2, 1) := by decide +kernel
theorem d_law_239 : decode code 239 = .ok (.iadd, 1) := by decide +kernel
theorem d_law_240 : decode code 240 = .ok (.iaload, 1) := by decide +kernel
theorem d_law_241 : decode code 241 = .ok (.aload_n 0, 1) := by decide +kernel
theorem d_law_242 : decode code 242 = .ok (.iload 4, 2) := by decide +kernel
theorem d_law_244 : decode code 244 = .ok (.iconst 3, 1) := by decide +kernel
theorem d_law_245 : decode code 245 = .ok (.iadd, 1) := by decide +kernel
theorem d_law_246 : decode code 246 = .ok (.iaload, 1) := by decide +kernel
theorem d_law_247 : decode code 247 = .ok (.aload_n 0, 1) := by decide +kernel
theorem d_law_248 : decode code 248 = .ok (.iload 4, 2) := by decide +kernel
theorem d_law_250 : decode code 250 = .ok (.iconst 4, 1) := by decide +kernel
theorem d_law_251 : decode code 251 = .ok (.iadd, 1) := by decide +kernel
theorem d_law_252 : decode code 252 = .ok (.iaload, 1) := by decide +kernel
theorem d_law_253 : decode code 253 = .ok (.aload_n 0, 1) := by decide +kernel
theorem d_law_254 : decode code 254 = .ok (.iload 4, 2) := by decide +kernel
theorem d_law_256 : decode code 256 = .ok (.iconst 5, 1) := by decide +kernel
theorem d_law_257 : decode code 257 = .ok (.iadd, 1) := by decide +kernel
theorem d_law_258 : decode code 258 = .ok (.iaload, 1) := by decide +kernel
theorem d_law_259 : decode code 259 = .ok (.invokevirtual 136, 3) := by decide +kernel
theorem d_law_262 : decode code 262 = .ok (.aload_n 2, 1) := by decide +kernel
theorem d_law_263 : decode code 263 = .ok (.aload_n 0, 1) := by decide +kernel
theorem d_law_264 : decode code 264 = .ok (.iload 4, 2) := by decide +kernel
theorem d_law_266 : decode code 266 = .ok (.iconst 1, 1) := by decide +kernel
theorem d_law_267 : decode code 267 = .ok (.iadd, 1) := by decide +kernel
theorem d_law_268 : decode code 268 = .ok (.iaload, 1) := by decide +kernel
theorem d_law_269 : decode code 269 = .ok (.aload_n 0, 1) := by decide +kernel
theorem d_law_270 : decode code 270 = .ok (.iload 4, 2) := by decide +kernel
theorem d_law_272 : decode code 272 = .ok (.iconst 2, 1) := by decide +kernel
theorem d_law_273 : decode code 273 = .ok (.iadd, 1) := by decide +kernel
theorem d_law_274 : decode code 274 = .ok (.iaload, 1) := by decide +kernel
theorem d_law_275 : decode code 275 = .ok (.aload_n 0, 1) := by decide +kernel
theorem d_law_276 : decode code 276 = .ok (.iload 4, 2) := by decide +kernel
theorem d_law_278 : decode code 278 = .ok (.iconst 3, 1) := by decide +kernel
theorem d_law_279 : decode code 279 = .ok (.iadd, 1) := by decide +kernel
theorem d_law_280 : decode code 280 = .ok (.iaload, 1) := by decide +kernel
theorem d_law_281 : decode code 281 = .ok (.aload_n 0, 1) := by decide +kernel
theorem d_law_282 : decode code 282 = .ok (.iload 4, 2) := by decide +kernel
theorem d_law_284 : decode code 284 = .ok (.iconst 4, 1) := by decide +kernel
theorem d_law_285 : decode code 285 = .ok (.iadd, 1) := by decide +kernel
theorem d_law_286 : decode code 286 = .ok (.iaload, 1) := by decide +kernel
theorem d_law_287 : decode code 287 = .ok (.aload_n 0, 1) := by decide +kernel
theorem d_law_288 : decode code 288 = .ok (.iload 4, 2) := by decide +kernel
theorem d_law_290 : decode code 290 = .ok (.iconst 5, 1) := by decide +kernel
theorem d_law_291 : decode code 291 = .ok (.iadd, 1) := by decide +kernel
theorem d_law_292 : decode code 292 = .ok (.iaload, 1) := by decide +kernel
theorem d_law_293 : decode code 293 = .ok (.invokevirtual 140, 3) := by decide +kernel
theorem d_law_296 : decode code 296 = .ok (.if_icmp .eq 2518, 3) := by decide +kernel
theorem d_law_299 : decode code 299 = .ok (.iconst 0, 1) := by decide +kernel
theorem d_law_300 : decode code 300 = .ok (.ireturn, 1) := by decide +kernel
theorem d_law_301 : decode code 301 = .ok (.aload_n 1, 1) := by decide +kernel
theorem d_law_302 : decode code 302 = .ok (.aload_n 0, 1) := by decide +kernel
theorem d_law_303 : decode code 303 = .ok (.iload 4, 2) := by decide +kernel
theorem d_law_305 : decode code 305 = .ok (.iconst 1, 1) := by decide +kernel
theorem d_law_306 : decode code 306 = .ok (.iadd, 1) := by decide +kernel
theorem d_law_307 : decode code 307 = .ok (.iaload, 1) := by decide +kernel
theorem d_law_308 : decode code 308 = .ok (.invokevirtual 141, 3) := by decide +kernel
theorem d_law_311 : decode code 311 = .ok (.aload_n 2, 1) := by decide +kernel
theorem d_law_312 : decode code 312 = .ok (.aload_n 0, 1) := by decide +kernel
theorem d_law_313 : decode code 313 = .ok (.iload 4, 2) := by decide +kernel
theorem d_law_315 : decode code 315 = .ok (.iconst 1, 1) := by decide +kernel
theorem d_law_316 : decode code 316 = .ok (.iadd, 1) := by decide +kernel
theorem d_law_317 : decode code 317 = .ok (.iaload, 1) := by decide +kernel
theorem d_law_318 : decode code 318 = .ok (.invokevirtual 145, 3) := by decide +kernel
theorem d_law_321 : decode code 321 = .ok (.if_icmp .eq 2493, 3) := by decide +kernel
theorem d_law_324 : decode code 324 = .ok (.iconst 0, 1) := by decide +kernel
theorem d_law_325 : decode code 325 = .ok (.ireturn, 1) := by decide +kernel
theorem d_law_326 : decode code 326 = .ok (.aload_n 1, 1) := by decide +kernel
theorem d_law_327 : decode code 327 = .ok (.aload_n 3, 1) := by decide +kernel
theorem d_law_328 : decode code 328 = .ok (.invokestatic 146, 3) := by decide +kernel
theorem d_law_331 : decode code 331 = .ok (.istore 5, 2) := by decide +kernel
theorem d_law_333 : decode code 333 = .ok (.aload_n 2, 1) := by decide +kernel
theorem d_law_334 : decode code 334 = .ok (.invokevirtual 151, 3) := by decide +kernel
theorem d_law_337 : decode code 337 = .ok (.istore 6, 2) := by decide +kernel
theorem d_law_339 : decode code 339 = .ok (.aload_n 2, 1) := by decide +kernel
theorem d_law_340 : decode code 340 = .ok (.invokevirtual 152, 3) := by decide +kernel
theorem d_law_343 : decode code 343 = .ok (.iload 5, 2) := by decide +kernel
theorem d_law_345 : decode code 345 = .ok (.if_icmp .eq 5, 3) := by decide +kernel
theorem d_law_348 : decode code 348 = .ok (.iconst 0, 1) := by decide +kernel
theorem d_law_349 : decode code 349 = .ok (.ireturn, 1) := by decide +kernel
theorem d_law_350 : decode code 350 = .ok (.iload 5, 2) := by decide +kernel
theorem d_law_352 : decode code 352 = .ok (.ifCond .ne 15, 3) := by decide +kernel
theorem d_law_355 : decode code 355 = .ok (.aload_n 3, 1) := by decide +kernel
theorem d_law_356 : decode code 356 = .ok (.iconst 0, 1) := by decide +kernel
theorem d_law_357 : decode code 357 = .ok (.laload, 1) := by decide +kernel
theorem d_law_358 : decode code 358 = .ok (.iload 6, 2) := by decide +kernel
theorem d_law_360 : decode code 360 = .ok (.i2l, 1) := by decide +kernel
theorem d_law_361 : decode code 361 = .ok (.lcmp, 1) := by decide +kernel
theorem d_law_362 : decode code 362 = .ok (.ifCond .eq 5, 3) := by decide +kernel
theorem d_law_365 : decode code 365 = .ok (.iconst 0, 1) := by decide +kernel
theorem d_law_366 : decode code 366 = .ok (.ireturn, 1) := by decide +kernel
theorem d_law_367 : decode code 367 = .ok (.goto 2447, 3) := by decide +kernel
theorem d_law_370 : decode code 370 = .ok (.aload_n 1, 1) := by decide +kernel
theorem d_law_371 : decode code 371 = .ok (.invokevirtual 155, 3) := by decide +kernel
theorem d_law_374 : decode code 374 = .ok (.aload_n 2, 1) := by decide +kernel
theorem d_law_375 : decode code 375 = .ok (.invokevirtual 158, 3) := by decide +kernel
theorem d_law_378 : decode code 378 = .ok (.if_icmp .eq 2436, 3) := by decide +kernel
theorem d_law_381 : decode code 381 = .ok (.iconst 0, 1) := by decide +kernel
theorem d_law_382 : decode code 382 = .ok (.ireturn, 1) := by decide +kernel
theorem d_law_383 : decode code 383 = .ok (.aload_n 1, 1) := by decide +kernel
theorem d_law_384 : decode code 384 = .ok (.aload_n 0, 1) := by decide +kernel
theorem d_law_385 : decode code 385 = .ok (.iload 4, 2) := by decide +kernel
theorem d_law_387 : decode code 387 = .ok (.iconst 1, 1) := by decide +kernel
theorem d_law_388 : decode code 388 = .ok (.iadd, 1) := by decide +kernel
theorem d_law_389 : decode code 389 = .ok (.iaload, 1) := by decide +kernel
theorem d_law_390 : decode code 390 = .ok (.aload_n 0, 1) := by decide +kernel
theorem d_law_391 : decode code 391 = .ok (.iload 4, 2) := by decide +kernel
theorem d_law_393 : decode code 393 = .ok (.iconst 2, 1) := by decide +kernel
theorem d_law_394 : decode code 394 = .ok (.iadd, 1) := by decide +kernel
theorem d_law_395 : decode code 395 = .ok (.iaload, 1) := by decide +kernel
theorem d_law_396 : decode code 396 = .ok (.aload_n 3, 1) := by decide +kernel
theorem d_law_397 : decode code 397 = .ok (.invokestatic 159, 3) := by decide +kernel
theorem d_law_400 : decode code 400 = .ok (.istore 5, 2) := by decide +kernel
theorem d_law_402 : decode code 402 = .ok (.aload_n 2, 1) := by decide +kernel
theorem d_law_403 : decode code 403 = .ok (.aload_n 0, 1) := by decide +kernel
theorem d_law_404 : decode code 404 = .ok (.iload 4, 2) := by decide +kernel
theorem d_law_406 : decode code 406 = .ok (.iconst 1, 1) := by decide +kernel
theorem d_law_407 : decode code 407 = .ok (.iadd, 1) := by decide +kernel
theorem d_law_408 : decode code 408 = .ok (.iaload, 1) := by decide +kernel
theorem d_law_409 : decode code 409 = .ok (.aload_n 0, 1) := by decide +kernel
theorem d_law_410 : decode code 410 = .ok (.iload 4, 2) := by decide +kernel
theorem d_law_412 : decode code 412 = .ok (.iconst 2, 1) := by decide +kernel
theorem d_law_413 : decode code 413 = .ok (.iadd, 1) := by decide +kernel
theorem d_law_414 : decode code 414 = .ok (.iaload, 1) := by decide +kernel
theorem d_law_415 : decode code 415 = .ok (.invokevirtual 162, 3) := by decide +kernel
theorem d_law_418 : decode code 418 = .ok (.istore 6, 2) := by decide +kernel
theorem d_law_420 : decode code 420 = .ok (.aload_n 2, 1) := by decide +kernel
theorem d_law_421 : decode code 421 = .ok (.invokevirtual 152, 3) := by decide +kernel
theorem d_law_424 : decode code 424 = .ok (.iload 5, 2) := by decide +kernel
theorem d_law_426 : decode code 426 = .ok (.if_icmp .eq 5, 3) := by decide +kernel
theorem d_law_429 : decode code 429 = .ok (.iconst 0, 1) := by decide +kernel
theorem d_law_430 : decode code 430 = .ok (.ireturn, 1) := by decide +kernel
theorem d_law_431 : decode code 431 = .ok (.iload 5, 2) := by decide +kernel
theorem d_law_433 : decode code 433 = .ok (.ifCond .ne 15, 3) := by decide +kernel
theorem d_law_436 : decode code 436 = .ok (.aload_n 3, 1) := by decide +kernel
theorem d_law_437 : decode code 437 = .ok (.iconst 0, 1) := by decide +kernel
theorem d_law_438 : decode code 438 = .ok (.laload, 1) := by decide +kernel
theorem d_law_439 : decode code 439 = .ok (.iload 6, 2) := by decide +kernel
theorem d_law_441 : decode code 441 = .ok (.i2l, 1) := by decide +kernel
theorem d_law_442 : decode code 442 = .ok (.lcmp, 1) := by decide +kernel
theorem d_law_443 : decode code 443 = .ok (.ifCond .eq 5, 3) := by decide +kernel
theorem d_law_446 : decode code 446 = .ok (.iconst 0, 1) := by decide +kernel
theorem d_law_447 : decode code 447 = .ok (.ireturn, 1) := by decide +kernel
theorem d_law_448 : decode code 448 = .ok (.goto 2366, 3) := by decide +kernel
theorem d_law_451 : decode code 451 = .ok (.aload_n 1, 1) := by decide +kernel
theorem d_law_452 : decode code 452 = .ok (.aload_n 0, 1) := by decide +kernel
theorem d_law_453 : decode code 453 = .ok (.iload 4, 2) := by decide +kernel
theorem d_law_455 : decode code 455 = .ok (.iconst 1, 1) := by decide +kernel
theorem d_law_456 : decode code 456 = .ok (.iadd, 1) := by decide +kernel
theorem d_law_457 : decode code 457 = .ok (.iaload, 1) := by decide +kernel
theorem d_law_458 : decode code 458 = .ok (.aload_n 0, 1) := by decide +kernel
theorem d_law_459 : decode code 459 = .ok (.iload 4, 2) := by decide +kernel
theorem d_law_461 : decode code 461 = .ok (.iconst 2, 1) := by decide +kernel
theorem d_law_462 : decode code 462 = .ok (.iadd, 1) := by decide +kernel
theorem d_law_463 : decode code 463 = .ok (.iaload, 1) := by decide +kernel
theorem d_law_464 : decode code 464 = .ok (.aload_n 0, 1) := by decide +kernel
theorem d_law_465 : decode code 465 = .ok (.iload 4, 2) := by decide +kernel
theorem d_law_467 : decode code 467 = .ok (.iconst 3, 1) := by decide +kernel
theorem d_law_468 : decode code 468 = .ok (.iadd, 1) := by decide +kernel
theorem d_law_469 : decode code 469 = .ok (.iaload, 1) := by decide +kernel
theorem d_law_470 : decode code 470 = .ok (.aload_n 3, 1) := by decide +kernel
theorem d_law_471 : decode code 471 = .ok (.invokestatic 163, 3) := by decide +kernel
theorem d_law_474 : decode code 474 = .ok (.istore 5, 2) := by decide +kernel
theorem d_law_476 : decode code 476 = .ok (.aload_n 2, 1) := by decide +kernel
theorem d_law_477 : decode code 477 = .ok (.aload_n 0, 1) := by decide +kernel
theorem d_law_478 : decode code 478 = .ok (.iload 4, 2) := by decide +kernel
theorem d_law_480 : decode code 480 = .ok (.iconst 1, 1) := by decide +kernel
theorem d_law_481 : decode code 481 = .ok (.iadd, 1) := by decide +kernel
theorem d_law_482 : decode code 482 = .ok (.iaload, 1) := by decide +kernel
theorem d_law_483 : decode code 483 = .ok (.aload_n 0, 1) := by decide +kernel
theorem d_law_484 : decode code 484 = .ok (.iload 4, 2) := by decide +kernel
theorem d_law_486 : decode code 486 = .ok (.iconst 2, 1) := by decide +kernel
theorem d_law_487 : decode code 487 = .ok (.iadd, 1) := by decide +kernel
theorem d_law_488 : decode code 488 = .ok (.iaload, 1) := by decide +kernel
theorem d_law_489 : decode code 489 = .ok (.aload_n 0, 1) := by decide +kernel
theorem d_law_490 : decode code 490 = .ok (.iload 4, 2) := by decide +kernel
theorem d_law_492 : decode code 492 = .ok (.iconst 3, 1) := by decide +kernel
theorem d_law_493 : decode code 493 = .ok (.iadd, 1) := by decide +kernel
theorem d_law_494 : decode code 494 = .ok (.iaload, 1) := by decide +kernel
theorem d_law_495 : decode code 495 = .ok (.invokevirtual 166, 3) := by decide +kernel
theorem d_law_498 : decode code 498 = .ok (.istore 6, 2) := by decide +kernel
theorem d_law_500 : decode code 500 = .ok (.aload_n 2, 1) := by decide +kernel
theorem d_law_501 : decode code 501 = .ok (.invokevirtual 152, 3) := by decide +kernel
theorem d_law_504 : decode code 504 = .ok (.iload 5, 2) := by decide +kernel
theorem d_law_506 : decode code 506 = .ok (.if_icmp .eq 5, 3) := by decide +kernel
theorem d_law_509 : decode code 509 = .ok (.iconst 0, 1) := by decide +kernel
theorem d_law_510 : decode code 510 = .ok (.ireturn, 1) := by decide +kernel
theorem d_law_511 : decode code 511 = .ok (.iload 5, 2) := by decide +kernel
theorem d_law_513 : decode code 513 = .ok (.ifCond .ne 15, 3) := by decide +kernel
theorem d_law_516 : decode code 516 = .ok (.aload_n 3, 1) := by decide +kernel
theorem d_law_517 : decode code 517 = .ok (.iconst 0, 1) := by decide +kernel
theorem d_law_518 : decode code 518 = .ok (.laload, 1) := by decide +kernel
theorem d_law_519 : decode code 519 = .ok (.iload 6, 2) := by decide +kernel
theorem d_law_521 : decode code 521 = .ok (.i2l, 1) := by decide +kernel
theorem d_law_522 : decode code 522 = .ok (.lcmp, 1) := by decide +kernel
theorem d_law_523 : decode code 523 = .ok (.ifCond .eq 5, 3) := by decide +kernel
theorem d_law_526 : decode code 526 = .ok (.iconst 0, 1) := by decide +kernel
theorem d_law_527 : decode code 527 = .ok (.ireturn, 1) := by decide +kernel
theorem d_law_528 : decode code 528 = .ok (.goto 2286, 3) := by decide +kernel
theorem d_law_531 : decode code 531 = .ok (.aload_n 1, 1) := by decide +kernel
theorem d_law_532 : decode code 532 = .ok (.aload_n 0, 1) := by decide +kernel
theorem d_law_533 : decode code 533 = .ok (.iload 4, 2) := by decide +kernel
theorem d_law_535 : decode code 535 = .ok (.iconst 1, 1) := by decide +kernel
theorem d_law_536 : decode code 536 = .ok (.iadd, 1) := by decide +kernel
theorem d_law_537 : decode code 537 = .ok (.iaload, 1) := by decide +kernel
theorem d_law_538 : decode code 538 = .ok (.aload_n 0, 1) := by decide +kernel
theorem d_law_539 : decode code 539 = .ok (.iload 4, 2) := by decide +kernel
theorem d_law_541 : decode code 541 = .ok (.iconst 2, 1) := by decide +kernel
theorem d_law_542 : decode code 542 = .ok (.iadd, 1) := by decide +kernel
theorem d_law_543 : decode code 543 = .ok (.iaload, 1) := by decide +kernel
theorem d_law_544 : decode code 544 = .ok (.aload_n 0, 1) := by decide +kernel
theorem d_law_545 : decode code 545 = .ok (.iload 4, 2) := by decide +kernel
theorem d_law_547 : decode code 547 = .ok (.iconst 3, 1) := by decide +kernel
theorem d_law_548 : decode code 548 = .ok (.iadd, 1) := by decide +kernel
theorem d_law_549 : decode code 549 = .ok (.iaload, 1) := by decide +kernel
theorem d_law_550 : decode code 550 = .ok (.aload_n 3, 1) := by decide +kernel
theorem d_law_551 : decode code 551 = .ok (.invokestatic 167, 3) := by decide +kernel
theorem d_law_554 : decode code 554 = .ok (.istore 5, 2) := by decide +kernel
theorem d_law_556 : decode code 556 = .ok (.aload_n 2, 1) := by decide +kernel
theorem d_law_557 : decode code 557 = .ok (.aload_n 0, 1) := by decide +kernel
theorem d_law_558 : decode code 558 = .ok (.iload 4, 2) := by decide +kernel
theorem d_law_560 : decode code 560 = .ok (.iconst 1, 1) := by decide +kernel
theorem d_law_561 : decode code 561 = .ok (.iadd, 1) := by decide +kernel
theorem d_law_562 : decode code 562 = .ok (.iaload, 1) := by decide +kernel
theorem d_law_563 : decode code 563 = .ok (.aload_n 0, 1) := by decide +kernel
theorem d_law_564 : decode code 564 = .ok (.iload 4, 2) := by decide +kernel
theorem d_law_566 : decode code 566 = .ok (.iconst 2, 1) := by decide +kernel
theorem d_law_567 : decode code 567 = .ok (.iadd, 1) := by decide +kernel
theorem d_law_568 : decode code 568 = .ok (.iaload, 1) := by decide +kernel
theorem d_law_569 : decode code 569 = .ok (.aload_n 0, 1) := by decide +kernel
theorem d_law_570 : decode code 570 = .ok (.iload 4, 2) := by decide +kernel
theorem d_law_572 : decode code 572 = .ok (.iconst 3, 1) := by decide +kernel
theorem d_law_573 : decode code 573 = .ok (.iadd, 1) := by decide +kernel
theorem d_law_574 : decode code 574 = .ok (.iaload, 1) := by decide +kernel
theorem d_law_575 : decode code 575 = .ok (.invokevirtual 169, 3) := by decide +kernel
theorem d_law_578 : decode code 578 = .ok (.istore 6, 2) := by decide +kernel
theorem d_law_580 : decode code 580 = .ok (.aload_n 2, 1) := by decide +kernel
theorem d_law_581 : decode code 581 = .ok (.invokevirtual 152, 3) := by decide +kernel
theorem d_law_584 : decode code 584 = .ok (.iload 5, 2) := by decide +kernel
theorem d_law_586 : decode code 586 = .ok (.if_icmp .eq 5, 3) := by decide +kernel
theorem d_law_589 : decode code 589 = .ok (.iconst 0, 1) := by decide +kernel
theorem d_law_590 : decode code 590 = .ok (.ireturn, 1) := by decide +kernel
theorem d_law_591 : decode code 591 = .ok (.iload 5, 2) := by decide +kernel
theorem d_law_593 : decode code 593 = .ok (.ifCond .ne 15, 3) := by decide +kernel
theorem d_law_596 : decode code 596 = .ok (.aload_n 3, 1) := by decide +kernel
theorem d_law_597 : decode code 597 = .ok (.iconst 0, 1) := by decide +kernel
theorem d_law_598 : decode code 598 = .ok (.laload, 1) := by decide +kernel
theorem d_law_599 : decode code 599 = .ok (.iload 6, 2) := by decide +kernel
theorem d_law_601 : decode code 601 = .ok (.i2l, 1) := by decide +kernel
theorem d_law_602 : decode code 602 = .ok (.lcmp, 1) := by decide +kernel
theorem d_law_603 : decode code 603 = .ok (.ifCond .eq 5, 3) := by decide +kernel
theorem d_law_606 : decode code 606 = .ok (.iconst 0, 1) := by decide +kernel
theorem d_law_607 : decode code 607 = .ok (.ireturn, 1) := by decide +kernel
theorem d_law_608 : decode code 608 = .ok (.goto 2206, 3) := by decide +kernel
theorem d_law_611 : decode code 611 = .ok (.aload_n 1, 1) := by decide +kernel
theorem d_law_612 : decode code 612 = .ok (.aload_n 0, 1) := by decide +kernel
theorem d_law_613 : decode code 613 = .ok (.iload 4, 2) := by decide +kernel
theorem d_law_615 : decode code 615 = .ok (.iconst 1, 1) := by decide +kernel
theorem d_law_616 : decode code 616 = .ok (.iadd, 1) := by decide +kernel
theorem d_law_617 : decode code 617 = .ok (.iaload, 1) := by decide +kernel
theorem d_law_618 : decode code 618 = .ok (.aload_n 0, 1) := by decide +kernel
theorem d_law_619 : decode code 619 = .ok (.iload 4, 2) := by decide +kernel
theorem d_law_621 : decode code 621 = .ok (.iconst 2, 1) := by decide +kernel
theorem d_law_622 : decode code 622 = .ok (.iadd, 1) := by decide +kernel
theorem d_law_623 : decode code 623 = .ok (.iaload, 1) := by decide +kernel
theorem d_law_624 : decode code 624 = .ok (.aload_n 0, 1) := by decide +kernel
theorem d_law_625 : decode code 625 = .ok (.iload 4, 2) := by decide +kernel
theorem d_law_627 : decode code 627 = .ok (.iconst 3, 1) := by decide +kernel
theorem d_law_628 : decode code 628 = .ok (.iadd, 1) := by decide +kernel
theorem d_law_629 : decode code 629 = .ok (.iaload, 1) := by decide +kernel
theorem d_law_630 : decode code 630 = .ok (.aload_n 3, 1) := by decide +kernel
theorem d_law_631 : decode code 631 = .ok (.invokestatic 170, 3) := by decide +kernel
theorem d_law_634 : decode code 634 = .ok (.istore 5, 2) := by decide +kernel
theorem d_law_636 : decode code 636 = .ok (.aload_n 2, 1) := by decide +kernel
theorem d_law_637 : decode code 637 = .ok (.aload_n 0, 1) := by decide +kernel
theorem d_law_638 : decode code 638 = .ok (.iload 4, 2) := by decide +kernel
theorem d_law_640 : decode code 640 = .ok (.iconst 1, 1) := by decide +kernel
theorem d_law_641 : decode code 641 = .ok (.iadd, 1) := by decide +kernel
theorem d_law_642 : decode code 642 = .ok (.iaload, 1) := by decide +kernel
theorem d_law_643 : decode code 643 = .ok (.aload_n 0, 1) := by decide +kernel
theorem d_law_644 : decode code 644 = .ok (.iload 4, 2) := by decide +kernel
theorem d_law_646 : decode code 646 = .ok (.iconst 2, 1) := by decide +kernel
theorem d_law_647 : decode code 647 = .ok (.iadd, 1) := by decide +kernel
theorem d_law_648 : decode code 648 = .ok (.iaload, 1) := by decide +kernel
theorem d_law_649 : decode code 649 = .ok (.aload_n 0, 1) := by decide +kernel
theorem d_law_650 : decode code 650 = .ok (.iload 4, 2) := by decide +kernel
theorem d_law_652 : decode code 652 = .ok (.iconst 3, 1) := by decide +kernel
theorem d_law_653 : decode code 653 = .ok (.iadd, 1) := by decide +kernel
theorem d_law_654 : decode code 654 = .ok (.iaload, 1) := by decide +kernel
theorem d_law_655 : decode code 655 = .ok (.invokevirtual 172, 3) := by decide +kernel
theorem d_law_658 : decode code 658 = .ok (.istore 6, 2) := by decide +kernel
theorem d_law_660 : decode code 660 = .ok (.aload_n 2, 1) := by decide +kernel
theorem d_law_661 : decode code 661 = .ok (.invokevirtual 152, 3) := by decide +kernel
theorem d_law_664 : decode code 664 = .ok (.iload 5, 2) := by decide +kernel
theorem d_law_666 : decode code 666 = .ok (.if_icmp .eq 5, 3) := by decide +kernel
theorem d_law_669 : decode code 669 = .ok (.iconst 0, 1) := by decide +kernel
theorem d_law_670 : decode code 670 = .ok (.ireturn, 1) := by decide +kernel
theorem d_law_671 : decode code 671 = .ok (.iload 5, 2) := by decide +kernel
theorem d_law_673 : decode code 673 = .ok (.ifCond .ne 15, 3) := by decide +kernel
theorem d_law_676 : decode code 676 = .ok (.aload_n 3, 1) := by decide +kernel
theorem d_law_677 : decode code 677 = .ok (.iconst 0, 1) := by decide +kernel
theorem d_law_678 : decode code 678 = .ok (.laload, 1) := by decide +kernel
theorem d_law_679 : decode code 679 = .ok (.iload 6, 2) := by decide +kernel
theorem d_law_681 : decode code 681 = .ok (.i2l, 1) := by decide +kernel
theorem d_law_682 : decode code 682 = .ok (.lcmp, 1) := by decide +kernel
theorem d_law_683 : decode code 683 = .ok (.ifCond .eq 5, 3) := by decide +kernel
theorem d_law_686 : decode code 686 = .ok (.iconst 0, 1) := by decide +kernel
theorem d_law_687 : decode code 687 = .ok (.ireturn, 1) := by decide +kernel
theorem d_law_688 : decode code 688 = .ok (.goto 2126, 3) := by decide +kernel
theorem d_law_691 : decode code 691 = .ok (.aload_n 1, 1) := by decide +kernel
theorem d_law_692 : decode code 692 = .ok (.aload_n 0, 1) := by decide +kernel
theorem d_law_693 : decode code 693 = .ok (.iload 4, 2) := by decide +kernel
theorem d_law_695 : decode code 695 = .ok (.iconst 1, 1) := by decide +kernel
theorem d_law_696 : decode code 696 = .ok (.iadd, 1) := by decide +kernel
theorem d_law_697 : decode code 697 = .ok (.iaload, 1) := by decide +kernel
theorem d_law_698 : decode code 698 = .ok (.aload_n 0, 1) := by decide +kernel
theorem d_law_699 : decode code 699 = .ok (.iload 4, 2) := by decide +kernel
theorem d_law_701 : decode code 701 = .ok (.iconst 2, 1) := by decide +kernel
theorem d_law_702 : decode code 702 = .ok (.iadd, 1) := by decide +kernel
theorem d_law_703 : decode code 703 = .ok (.iaload, 1) := by decide +kernel
theorem d_law_704 : decode code 704 = .ok (.aload_n 3, 1) := by decide +kernel
theorem d_law_705 : decode code 705 = .ok (.invokestatic 173, 3) := by decide +kernel
theorem d_law_708 : decode code 708 = .ok (.istore 5, 2) := by decide +kernel
theorem d_law_710 : decode code 710 = .ok (.aload_n 2, 1) := by decide +kernel
theorem d_law_711 : decode code 711 = .ok (.aload_n 0, 1) := by decide +kernel
theorem d_law_712 : decode code 712 = .ok (.iload 4, 2) := by decide +kernel
theorem d_law_714 : decode code 714 = .ok (.iconst 1, 1) := by decide +kernel
theorem d_law_715 : decode code 715 = .ok (.iadd, 1) := by decide +kernel
theorem d_law_716 : decode code 716 = .ok (.iaload, 1) := by decide +kernel
theorem d_law_717 : decode code 717 = .ok (.aload_n 0, 1) := by decide +kernel
theorem d_law_718 : decode code 718 = .ok (.iload 4, 2) := by decide +kernel
theorem d_law_720 : decode code 720 = .ok (.iconst 2, 1) := by decide +kernel
theorem d_law_721 : decode code 721 = .ok (.iadd, 1) := by decide +kernel
theorem d_law_722 : decode code 722 = .ok (.iaload, 1) := by decide +kernel
theorem d_law_723 : decode code 723 = .ok (.invokevirtual 175, 3) := by decide +kernel
theorem d_law_726 : decode code 726 = .ok (.istore 6, 2) := by decide +kernel
theorem d_law_728 : decode code 728 = .ok (.aload_n 2, 1) := by decide +kernel
theorem d_law_729 : decode code 729 = .ok (.invokevirtual 152, 3) := by decide +kernel
theorem d_law_732 : decode code 732 = .ok (.iload 5, 2) := by decide +kernel
theorem d_law_734 : decode code 734 = .ok (.if_icmp .eq 5, 3) := by decide +kernel
theorem d_law_737 : decode code 737 = .ok (.iconst 0, 1) := by decide +kernel
theorem d_law_738 : decode code 738 = .ok (.ireturn, 1) := by decide +kernel
theorem d_law_739 : decode code 739 = .ok (.iload 5, 2) := by decide +kernel
theorem d_law_741 : decode code 741 = .ok (.ifCond .ne 22, 3) := by decide +kernel
theorem d_law_744 : decode code 744 = .ok (.aload_n 3, 1) := by decide +kernel
theorem d_law_745 : decode code 745 = .ok (.iconst 0, 1) := by decide +kernel
theorem d_law_746 : decode code 746 = .ok (.laload, 1) := by decide +kernel
theorem d_law_747 : decode code 747 = .ok (.iload 6, 2) := by decide +kernel
theorem d_law_749 : decode code 749 = .ok (.ifCond .eq 7, 3) := by decide +kernel
theorem d_law_752 : decode code 752 = .ok (.lconst 1, 1) := by decide +kernel
theorem d_law_753 : decode code 753 = .ok (.goto 4, 3) := by decide +kernel
theorem d_law_756 : decode code 756 = .ok (.lconst 0, 1) := by decide +kernel
theorem d_law_757 : decode code 757 = .ok (.lcmp, 1) := by decide +kernel
theorem d_law_758 : decode code 758 = .ok (.ifCond .eq 5, 3) := by decide +kernel
theorem d_law_761 : decode code 761 = .ok (.iconst 0, 1) := by decide +kernel
theorem d_law_762 : decode code 762 = .ok (.ireturn, 1) := by decide +kernel
theorem d_law_763 : decode code 763 = .ok (.goto 2051, 3) := by decide +kernel
theorem d_law_766 : decode code 766 = .ok (.aload_n 1, 1) := by decide +kernel
theorem d_law_767 : decode code 767 = .ok (.aload_n 0, 1) := by decide +kernel
theorem d_law_768 : decode code 768 = .ok (.iload 4, 2) := by decide +kernel
theorem d_law_770 : decode code 770 = .ok (.iconst 1, 1) := by decide +kernel
theorem d_law_771 : decode code 771 = .ok (.iadd, 1) := by decide +kernel
theorem d_law_772 : decode code 772 = .ok (.iaload, 1) := by decide +kernel
theorem d_law_773 : decode code 773 = .ok (.aload_n 0, 1) := by decide +kernel
theorem d_law_774 : decode code 774 = .ok (.iload 4, 2) := by decide +kernel
theorem d_law_776 : decode code 776 = .ok (.iconst 2, 1) := by decide +kernel
theorem d_law_777 : decode code 777 = .ok (.iadd, 1) := by decide +kernel
theorem d_law_778 : decode code 778 = .ok (.iaload, 1) := by decide +kernel
theorem d_law_779 : decode code 779 = .ok (.aload_n 3, 1) := by decide +kernel
theorem d_law_780 : decode code 780 = .ok (.invokestatic 176, 3) := by decide +kernel
theorem d_law_783 : decode code 783 = .ok (.istore 5, 2) := by decide +kernel
theorem d_law_785 : decode code 785 = .ok (.aload_n 2, 1) := by decide +kernel
theorem d_law_786 : decode code 786 = .ok (.aload_n 0, 1) := by decide +kernel
theorem d_law_787 : decode code 787 = .ok (.iload 4, 2) := by decide +kernel
theorem d_law_789 : decode code 789 = .ok (.iconst 1, 1) := by decide +kernel
theorem d_law_790 : decode code 790 = .ok (.iadd, 1) := by decide +kernel
theorem d_law_791 : decode code 791 = .ok (.iaload, 1) := by decide +kernel
theorem d_law_792 : decode code 792 = .ok (.aload_n 0, 1) := by decide +kernel
theorem d_law_793 : decode code 793 = .ok (.iload 4, 2) := by decide +kernel
theorem d_law_795 : decode code 795 = .ok (.iconst 2, 1) := by decide +kernel
theorem d_law_796 : decode code 796 = .ok (.iadd, 1) := by decide +kernel
theorem d_law_797 : decode code 797 = .ok (.iaload, 1) := by decide +kernel
theorem d_law_798 : decode code 798 = .ok (.invokevirtual 178, 3) := by decide +kernel
theorem d_law_801 : decode code 801 = .ok (.istore 6, 2) := by decide +kernel
theorem d_law_803 : decode code 803 = .ok (.aload_n 2, 1) := by decide +kernel
theorem d_law_804 : decode code 804 = .ok (.invokevirtual 152, 3) := by decide +kernel
theorem d_law_807 : decode code 807 = .ok (.iload 5, 2) := by decide +kernel
theorem d_law_809 : decode code 809 = .ok (.if_icmp .eq 5, 3) := by decide +kernel
theorem d_law_812 : decode code 812 = .ok (.iconst 0, 1) := by decide +kernel
theorem d_law_813 : decode code 813 = .ok (.ireturn, 1) := by decide +kernel
theorem d_law_814 : decode code 814 = .ok (.iload 5, 2) := by decide +kernel
theorem d_law_816 : decode code 816 = .ok (.ifCond .ne 15, 3) := by decide +kernel
theorem d_law_819 : decode code 819 = .ok (.aload_n 3, 1) := by decide +kernel
theorem d_law_820 : decode code 820 = .ok (.iconst 0, 1) := by decide +kernel
theorem d_law_821 : decode code 821 = .ok (.laload, 1) := by decide +kernel
theorem d_law_822 : decode code 822 = .ok (.iload 6, 2) := by decide +kernel
theorem d_law_824 : decode code 824 = .ok (.i2l, 1) := by decide +kernel
theorem d_law_825 : decode code 825 = .ok (.lcmp, 1) := by decide +kernel
theorem d_law_826 : decode code 826 = .ok (.ifCond .eq 5, 3) := by decide +kernel
theorem d_law_829 : decode code 829 = .ok (.iconst 0, 1) := by decide +kernel
theorem d_law_830 : decode code 830 = .ok (.ireturn, 1) := by decide +kernel
theorem d_law_831 : decode code 831 = .ok (.goto 1983, 3) := by decide +kernel
theorem d_law_834 : decode code 834 = .ok (.aload_n 1, 1) := by decide +kernel
theorem d_law_835 : decode code 835 = .ok (.aload_n 0, 1) := by decide +kernel
theorem d_law_836 : decode code 836 = .ok (.iload 4, 2) := by decide +kernel
theorem d_law_838 : decode code 838 = .ok (.iconst 1, 1) := by decide +kernel
theorem d_law_839 : decode code 839 = .ok (.iadd, 1) := by decide +kernel
theorem d_law_840 : decode code 840 = .ok (.iaload, 1) := by decide +kernel
theorem d_law_841 : decode code 841 = .ok (.aload_n 0, 1) := by decide +kernel
theorem d_law_842 : decode code 842 = .ok (.iload 4, 2) := by decide +kernel
theorem d_law_844 : decode code 844 = .ok (.iconst 2, 1) := by decide +kernel
theorem d_law_845 : decode code 845 = .ok (.iadd, 1) := by decide +kernel
theorem d_law_846 : decode code 846 = .ok (.iaload, 1) := by decide +kernel
theorem d_law_847 : decode code 847 = .ok (.aload_n 3, 1) := by decide +kernel
theorem d_law_848 : decode code 848 = .ok (.invokestatic 179, 3) := by decide +kernel
theorem d_law_851 : decode code 851 = .ok (.istore 5, 2) := by decide +kernel
theorem d_law_853 : decode code 853 = .ok (.aload_n 2, 1) := by decide +kernel
theorem d_law_854 : decode code 854 = .ok (.aload_n 0, 1) := by decide +kernel
theorem d_law_855 : decode code 855 = .ok (.iload 4, 2) := by decide +kernel
theorem d_law_857 : decode code 857 = .ok (.iconst 1, 1) := by decide +kernel
theorem d_law_858 : decode code 858 = .ok (.iadd, 1) := by decide +kernel
theorem d_law_859 : decode code 859 = .ok (.iaload, 1) := by decide +kernel
theorem d_law_860 : decode code 860 = .ok (.aload_n 0, 1) := by decide +kernel
theorem d_law_861 : decode code 861 = .ok (.iload 4, 2) := by decide +kernel
theorem d_law_863 : decode code 863 = .ok (.iconst 2, 1) := by decide +kernel
theorem d_law_864 : decode code 864 = .ok (.iadd, 1) := by decide +kernel
theorem d_law_865 : decode code 865 = .ok (.iaload, 1) := by decide +kernel
theorem d_law_866 : decode code 866 = .ok (.invokevirtual 181, 3) := by decide +kernel
theorem d_law_869 : decode code 869 = .ok (.istore 6, 2) := by decide +kernel
theorem d_law_871 : decode code 871 = .ok (.aload_n 2, 1) := by decide +kernel
theorem d_law_872 : decode code 872 = .ok (.invokevirtual 152, 3) := by decide +kernel
theorem d_law_875 : decode code 875 = .ok (.iload 5, 2) := by decide +kernel
theorem d_law_877 : decode code 877 = .ok (.if_icmp .eq 5, 3) := by decide +kernel
theorem d_law_880 : decode code 880 = .ok (.iconst 0, 1) := by decide +kernel
theorem d_law_881 : decode code 881 = .ok (.ireturn, 1) := by decide +kernel
theorem d_law_882 : decode code 882 = .ok (.iload 5, 2) := by decide +kernel
theorem d_law_884 : decode code 884 = .ok (.ifCond .ne 15, 3) := by decide +kernel
theorem d_law_887 : decode code 887 = .ok (.aload_n 3, 1) := by decide +kernel
theorem d_law_888 : decode code 888 = .ok (.iconst 0, 1) := by decide +kernel
theorem d_law_889 : decode code 889 = .ok (.laload, 1) := by decide +kernel
theorem d_law_890 : decode code 890 = .ok (.iload 6, 2) := by decide +kernel
theorem d_law_892 : decode code 892 = .ok (.i2l, 1) := by decide +kernel
theorem d_law_893 : decode code 893 = .ok (.lcmp, 1) := by decide +kernel
theorem d_law_894 : decode code 894 = .ok (.ifCond .eq 5, 3) := by decide +kernel
theorem d_law_897 : decode code 897 = .ok (.iconst 0, 1) := by decide +kernel
theorem d_law_898 : decode code 898 = .ok (.ireturn, 1) := by decide +kernel
theorem d_law_899 : decode code 899 = .ok (.goto 1915, 3) := by decide +kernel
theorem d_law_902 : decode code 902 = .ok (.aload_n 1, 1) := by decide +kernel
theorem d_law_903 : decode code 903 = .ok (.aload_n 0, 1) := by decide +kernel
theorem d_law_904 : decode code 904 = .ok (.iload 4, 2) := by decide +kernel
theorem d_law_906 : decode code 906 = .ok (.iconst 1, 1) := by decide +kernel
theorem d_law_907 : decode code 907 = .ok (.iadd, 1) := by decide +kernel
theorem d_law_908 : decode code 908 = .ok (.iaload, 1) := by decide +kernel
theorem d_law_909 : decode code 909 = .ok (.aload_n 0, 1) := by decide +kernel
theorem d_law_910 : decode code 910 = .ok (.iload 4, 2) := by decide +kernel
theorem d_law_912 : decode code 912 = .ok (.iconst 2, 1) := by decide +kernel
theorem d_law_913 : decode code 913 = .ok (.iadd, 1) := by decide +kernel
theorem d_law_914 : decode code 914 = .ok (.iaload, 1) := by decide +kernel
theorem d_law_915 : decode code 915 = .ok (.aload_n 3, 1) := by decide +kernel
theorem d_law_916 : decode code 916 = .ok (.invokestatic 182, 3) := by decide +kernel
theorem d_law_919 : decode code 919 = .ok (.istore 5, 2) := by decide +kernel
theorem d_law_921 : decode code 921 = .ok (.aload_n 2, 1) := by decide +kernel
theorem d_law_922 : decode code 922 = .ok (.aload_n 0, 1) := by decide +kernel
theorem d_law_923 : decode code 923 = .ok (.iload 4, 2) := by decide +kernel
theorem d_law_925 : decode code 925 = .ok (.iconst 1, 1) := by decide +kernel
theorem d_law_926 : decode code 926 = .ok (.iadd, 1) := by decide +kernel
theorem d_law_927 : decode code 927 = .ok (.iaload, 1) := by decide +kernel
theorem d_law_928 : decode code 928 = .ok (.aload_n 0, 1) := by decide +kernel
theorem d_law_929 : decode code 929 = .ok (.iload 4, 2) := by decide +kernel
theorem d_law_931 : decode code 931 = .ok (.iconst 2, 1) := by decide +kernel
theorem d_law_932 : decode code 932 = .ok (.iadd, 1) := by decide +kernel
theorem d_law_933 : decode code 933 = .ok (.iaload, 1) := by decide +kernel
theorem d_law_934 : decode code 934 = .ok (.invokevirtual 184, 3) := by decide +kernel
theorem d_law_937 : decode code 937 = .ok (.istore 6, 2) := by decide +kernel
theorem d_law_939 : decode code 939 = .ok (.aload_n 2, 1) := by decide +kernel
theorem d_law_940 : decode code 940 = .ok (.invokevirtual 152, 3) := by decide +kernel
theorem d_law_943 : decode code 943 = .ok (.iload 5, 2) := by decide +kernel
theorem d_law_945 : decode code 945 = .ok (.if_icmp .eq 5, 3) := by decide +kernel
theorem d_law_948 : decode code 948 = .ok (.iconst 0, 1) := by decide +kernel
theorem d_law_949 : decode code 949 = .ok (.ireturn, 1) := by decide +kernel
theorem d_law_950 : decode code 950 = .ok (.iload 5, 2) := by decide +kernel
theorem d_law_952 : decode code 952 = .ok (.ifCond .ne 15, 3) := by decide +kernel
theorem d_law_955 : decode code 955 = .ok (.aload_n 3, 1) := by decide +kernel
theorem d_law_956 : decode code 956 = .ok (.iconst 0, 1) := by decide +kernel
theorem d_law_957 : decode code 957 = .ok (.laload, 1) := by decide +kernel
theorem d_law_958 : decode code 958 = .ok (.iload 6, 2) := by decide +kernel
theorem d_law_960 : decode code 960 = .ok (.i2l, 1) := by decide +kernel
theorem d_law_961 : decode code 961 = .ok (.lcmp, 1) := by decide +kernel
theorem d_law_962 : decode code 962 = .ok (.ifCond .eq 5, 3) := by decide +kernel
theorem d_law_965 : decode code 965 = .ok (.iconst 0, 1) := by decide +kernel
theorem d_law_966 : decode code 966 = .ok (.ireturn, 1) := by decide +kernel
theorem d_law_967 : decode code 967 = .ok (.goto 1847, 3) := by decide +kernel
theorem d_law_970 : decode code 970 = .ok (.aload_n 1, 1) := by decide +kernel
theorem d_law_971 : decode code 971 = .ok (.aload_n 0, 1) := by decide +kernel
theorem d_law_972 : decode code 972 = .ok (.iload 4, 2) := by decide +kernel
theorem d_law_974 : decode code 974 = .ok (.iconst 1, 1) := by decide +kernel
theorem d_law_975 : decode code 975 = .ok (.iadd, 1) := by decide +kernel
theorem d_law_976 : decode code 976 = .ok (.iaload, 1) := by decide +kernel
theorem d_law_977 : decode code 977 = .ok (.aload_n 0, 1) := by decide +kernel
theorem d_law_978 : decode code 978 = .ok (.iload 4, 2) := by decide +kernel
theorem d_law_980 : decode code 980 = .ok (.iconst 2, 1) := by decide +kernel
theorem d_law_981 : decode code 981 = .ok (.iadd, 1) := by decide +kernel
theorem d_law_982 : decode code 982 = .ok (.iaload, 1) := by decide +kernel
theorem d_law_983 : decode code 983 = .ok (.aload_n 0, 1) := by decide +kernel
theorem d_law_984 : decode code 984 = .ok (.iload 4, 2) := by decide +kernel
theorem d_law_986 : decode code 986 = .ok (.iconst 3, 1) := by decide +kernel
theorem d_law_987 : decode code 987 = .ok (.iadd, 1) := by decide +kernel
theorem d_law_988 : decode code 988 = .ok (.iaload, 1) := by decide +kernel
theorem d_law_989 : decode code 989 = .ok (.aload_n 3, 1) := by decide +kernel
theorem d_law_990 : decode code 990 = .ok (.invokestatic 185, 3) := by decide +kernel
theorem d_law_993 : decode code 993 = .ok (.istore 5, 2) := by decide +kernel
theorem d_law_995 : decode code 995 = .ok (.aload_n 2, 1) := by decide +kernel
theorem d_law_996 : decode code 996 = .ok (.aload_n 0, 1) := by decide +kernel
theorem d_law_997 : decode code 997 = .ok (.iload 4, 2) := by decide +kernel
theorem d_law_999 : decode code 999 = .ok (.iconst 1, 1) := by decide +kernel
theorem d_law_1000 : decode code 1000 = .ok (.iadd, 1) := by decide +kernel
theorem d_law_1001 : decode code 1001 = .ok (.iaload, 1) := by decide +kernel
theorem d_law_1002 : decode code 1002 = .ok (.aload_n 0, 1) := by decide +kernel
theorem d_law_1003 : decode code 1003 = .ok (.iload 4, 2) := by decide +kernel
theorem d_law_1005 : decode code 1005 = .ok (.iconst 2, 1) := by decide +kernel
theorem d_law_1006 : decode code 1006 = .ok (.iadd, 1) := by decide +kernel
theorem d_law_1007 : decode code 1007 = .ok (.iaload, 1) := by decide +kernel
theorem d_law_1008 : decode code 1008 = .ok (.aload_n 0, 1) := by decide +kernel
theorem d_law_1009 : decode code 1009 = .ok (.iload 4, 2) := by decide +kernel
theorem d_law_1011 : decode code 1011 = .ok (.iconst 3, 1) := by decide +kernel
theorem d_law_1012 : decode code 1012 = .ok (.iadd, 1) := by decide +kernel
theorem d_law_1013 : decode code 1013 = .ok (.iaload, 1) := by decide +kernel
theorem d_law_1014 : decode code 1014 = .ok (.invokevirtual 187, 3) := by decide +kernel
theorem d_law_1017 : decode code 1017 = .ok (.istore 6, 2) := by decide +kernel
theorem d_law_1019 : decode code 1019 = .ok (.aload_n 2, 1) := by decide +kernel
theorem d_law_1020 : decode code 1020 = .ok (.invokevirtual 152, 3) := by decide +kernel
theorem d_law_1023 : decode code 1023 = .ok (.iload 5, 2) := by decide +kernel
theorem d_law_1025 : decode code 1025 = .ok (.if_icmp .eq 5, 3) := by decide +kernel
theorem d_law_1028 : decode code 1028 = .ok (.iconst 0, 1) := by decide +kernel
theorem d_law_1029 : decode code 1029 = .ok (.ireturn, 1) := by decide +kernel
theorem d_law_1030 : decode code 1030 = .ok (.iload 5, 2) := by decide +kernel
theorem d_law_1032 : decode code 1032 = .ok (.ifCond .ne 15, 3) := by decide +kernel
theorem d_law_1035 : decode code 1035 = .ok (.aload_n 3, 1) := by decide +kernel
theorem d_law_1036 : decode code 1036 = .ok (.iconst 0, 1) := by decide +kernel
theorem d_law_1037 : decode code 1037 = .ok (.laload, 1) := by decide +kernel
theorem d_law_1038 : decode code 1038 = .ok (.iload 6, 2) := by decide +kernel
theorem d_law_1040 : decode code 1040 = .ok (.i2l, 1) := by decide +kernel
theorem d_law_1041 : decode code 1041 = .ok (.lcmp, 1) := by decide +kernel
theorem d_law_1042 : decode code 1042 = .ok (.ifCond .eq 5, 3) := by decide +kernel
theorem d_law_1045 : decode code 1045 = .ok (.iconst 0, 1) := by decide +kernel
theorem d_law_1046 : decode code 1046 = .ok (.ireturn, 1) := by decide +kernel
theorem d_law_1047 : decode code 1047 = .ok (.goto 1767, 3) := by decide +kernel
theorem d_law_1050 : decode code 1050 = .ok (.aload_n 1, 1) := by decide +kernel
theorem d_law_1051 : decode code 1051 = .ok (.aload_n 0, 1) := by decide +kernel
theorem d_law_1052 : decode code 1052 = .ok (.iload 4, 2) := by decide +kernel
theorem d_law_1054 : decode code 1054 = .ok (.iconst 1, 1) := by decide +kernel
theorem d_law_1055 : decode code 1055 = .ok (.iadd, 1) := by decide +kernel
theorem d_law_1056 : decode code 1056 = .ok (.iaload, 1) := by decide +kernel
theorem d_law_1057 : decode code 1057 = .ok (.aload_n 0, 1) := by decide +kernel
theorem d_law_1058 : decode code 1058 = .ok (.iload 4, 2) := by decide +kernel
theorem d_law_1060 : decode code 1060 = .ok (.iconst 2, 1) := by decide +kernel
theorem d_law_1061 : decode code 1061 = .ok (.iadd, 1) := by decide +kernel
theorem d_law_1062 : decode code 1062 = .ok (.iaload, 1) := by decide +kernel
theorem d_law_1063 : decode code 1063 = .ok (.aload_n 3, 1) := by decide +kernel
theorem d_law_1064 : decode code 1064 = .ok (.invokestatic 188, 3) := by decide +kernel
theorem d_law_1067 : decode code 1067 = .ok (.istore 5, 2) := by decide +kernel
theorem d_law_1069 : decode code 1069 = .ok (.aload_n 2, 1) := by decide +kernel
theorem d_law_1070 : decode code 1070 = .ok (.aload_n 0, 1) := by decide +kernel
theorem d_law_1071 : decode code 1071 = .ok (.iload 4, 2) := by decide +kernel
theorem d_law_1073 : decode code 1073 = .ok (.iconst 1, 1) := by decide +kernel
theorem d_law_1074 : decode code 1074 = .ok (.iadd, 1) := by decide +kernel
theorem d_law_1075 : decode code 1075 = .ok (.iaload, 1) := by decide +kernel
theorem d_law_1076 : decode code 1076 = .ok (.aload_n 0, 1) := by decide +kernel
theorem d_law_1077 : decode code 1077 = .ok (.iload 4, 2) := by decide +kernel
theorem d_law_1079 : decode code 1079 = .ok (.iconst 2, 1) := by decide +kernel
theorem d_law_1080 : decode code 1080 = .ok (.iadd, 1) := by decide +kernel
theorem d_law_1081 : decode code 1081 = .ok (.iaload, 1) := by decide +kernel
theorem d_law_1082 : decode code 1082 = .ok (.invokevirtual 190, 3) := by decide +kernel
theorem d_law_1085 : decode code 1085 = .ok (.istore 6, 2) := by decide +kernel
theorem d_law_1087 : decode code 1087 = .ok (.aload_n 2, 1) := by decide +kernel
theorem d_law_1088 : decode code 1088 = .ok (.invokevirtual 152, 3) := by decide +kernel
theorem d_law_1091 : decode code 1091 = .ok (.iload 5, 2) := by decide +kernel
theorem d_law_1093 : decode code 1093 = .ok (.if_icmp .eq 5, 3) := by decide +kernel
theorem d_law_1096 : decode code 1096 = .ok (.iconst 0, 1) := by decide +kernel
theorem d_law_1097 : decode code 1097 = .ok (.ireturn, 1) := by decide +kernel
theorem d_law_1098 : decode code 1098 = .ok (.iload 5, 2) := by decide +kernel
theorem d_law_1100 : decode code 1100 = .ok (.ifCond .ne 15, 3) := by decide +kernel
theorem d_law_1103 : decode code 1103 = .ok (.aload_n 3, 1) := by decide +kernel
theorem d_law_1104 : decode code 1104 = .ok (.iconst 0, 1) := by decide +kernel
theorem d_law_1105 : decode code 1105 = .ok (.laload, 1) := by decide +kernel
theorem d_law_1106 : decode code 1106 = .ok (.iload 6, 2) := by decide +kernel
theorem d_law_1108 : decode code 1108 = .ok (.i2l, 1) := by decide +kernel
theorem d_law_1109 : decode code 1109 = .ok (.lcmp, 1) := by decide +kernel
theorem d_law_1110 : decode code 1110 = .ok (.ifCond .eq 5, 3) := by decide +kernel
theorem d_law_1113 : decode code 1113 = .ok (.iconst 0, 1) := by decide +kernel
theorem d_law_1114 : decode code 1114 = .ok (.ireturn, 1) := by decide +kernel
theorem d_law_1115 : decode code 1115 = .ok (.goto 1699, 3) := by decide +kernel
theorem d_law_1118 : decode code 1118 = .ok (.aload_n 1, 1) := by decide +kernel
theorem d_law_1119 : decode code 1119 = .ok (.aload_n 0, 1) := by decide +kernel
theorem d_law_1120 : decode code 1120 = .ok (.iload 4, 2) := by decide +kernel
theorem d_law_1122 : decode code 1122 = .ok (.iconst 1, 1) := by decide +kernel
theorem d_law_1123 : decode code 1123 = .ok (.iadd, 1) := by decide +kernel
theorem d_law_1124 : decode code 1124 = .ok (.iaload, 1) := by decide +kernel
theorem d_law_1125 : decode code 1125 = .ok (.aload_n 0, 1) := by decide +kernel
theorem d_law_1126 : decode code 1126 = .ok (.iload 4, 2) := by decide +kernel
theorem d_law_1128 : decode code 1128 = .ok (.iconst 2, 1) := by decide +kernel
theorem d_law_1129 : decode code 1129 = .ok (.iadd, 1) := by decide +kernel
theorem d_law_1130 : decode code 1130 = .ok (.iaload, 1) := by decide +kernel
theorem d_law_1131 : decode code 1131 = .ok (.aload_n 3, 1) := by decide +kernel
theorem d_law_1132 : decode code 1132 = .ok (.invokestatic 191, 3) := by decide +kernel
theorem d_law_1135 : decode code 1135 = .ok (.istore 5, 2) := by decide +kernel
theorem d_law_1137 : decode code 1137 = .ok (.aload_n 2, 1) := by decide +kernel
theorem d_law_1138 : decode code 1138 = .ok (.aload_n 0, 1) := by decide +kernel
theorem d_law_1139 : decode code 1139 = .ok (.iload 4, 2) := by decide +kernel
theorem d_law_1141 : decode code 1141 = .ok (.iconst 1, 1) := by decide +kernel
theorem d_law_1142 : decode code 1142 = .ok (.iadd, 1) := by decide +kernel
theorem d_law_1143 : decode code 1143 = .ok (.iaload, 1) := by decide +kernel
theorem d_law_1144 : decode code 1144 = .ok (.aload_n 0, 1) := by decide +kernel
theorem d_law_1145 : decode code 1145 = .ok (.iload 4, 2) := by decide +kernel
theorem d_law_1147 : decode code 1147 = .ok (.iconst 2, 1) := by decide +kernel
theorem d_law_1148 : decode code 1148 = .ok (.iadd, 1) := by decide +kernel
theorem d_law_1149 : decode code 1149 = .ok (.iaload, 1) := by decide +kernel
theorem d_law_1150 : decode code 1150 = .ok (.invokevirtual 193, 3) := by decide +kernel
theorem d_law_1153 : decode code 1153 = .ok (.istore 6, 2) := by decide +kernel
theorem d_law_1155 : decode code 1155 = .ok (.aload_n 2, 1) := by decide +kernel
theorem d_law_1156 : decode code 1156 = .ok (.invokevirtual 152, 3) := by decide +kernel
theorem d_law_1159 : decode code 1159 = .ok (.iload 5, 2) := by decide +kernel
theorem d_law_1161 : decode code 1161 = .ok (.if_icmp .eq 5, 3) := by decide +kernel
theorem d_law_1164 : decode code 1164 = .ok (.iconst 0, 1) := by decide +kernel
theorem d_law_1165 : decode code 1165 = .ok (.ireturn, 1) := by decide +kernel
theorem d_law_1166 : decode code 1166 = .ok (.iload 5, 2) := by decide +kernel
theorem d_law_1168 : decode code 1168 = .ok (.ifCond .ne 15, 3) := by decide +kernel
theorem d_law_1171 : decode code 1171 = .ok (.aload_n 3, 1) := by decide +kernel
theorem d_law_1172 : decode code 1172 = .ok (.iconst 0, 1) := by decide +kernel
theorem d_law_1173 : decode code 1173 = .ok (.laload, 1) := by decide +kernel
theorem d_law_1174 : decode code 1174 = .ok (.iload 6, 2) := by decide +kernel
theorem d_law_1176 : decode code 1176 = .ok (.i2l, 1) := by decide +kernel
theorem d_law_1177 : decode code 1177 = .ok (.lcmp, 1) := by decide +kernel
theorem d_law_1178 : decode code 1178 = .ok (.ifCond .eq 5, 3) := by decide +kernel
theorem d_law_1181 : decode code 1181 = .ok (.iconst 0, 1) := by decide +kernel
theorem d_law_1182 : decode code 1182 = .ok (.ireturn, 1) := by decide +kernel
theorem d_law_1183 : decode code 1183 = .ok (.goto 1631, 3) := by decide +kernel
theorem d_law_1186 : decode code 1186 = .ok (.aload_n 1, 1) := by decide +kernel
theorem d_law_1187 : decode code 1187 = .ok (.aload_n 0, 1) := by decide +kernel
theorem d_law_1188 : decode code 1188 = .ok (.iload 4, 2) := by decide +kernel
theorem d_law_1190 : decode code 1190 = .ok (.iconst 1, 1) := by decide +kernel
theorem d_law_1191 : decode code 1191 = .ok (.iadd, 1) := by decide +kernel
theorem d_law_1192 : decode code 1192 = .ok (.iaload, 1) := by decide +kernel
theorem d_law_1193 : decode code 1193 = .ok (.aload_n 0, 1) := by decide +kernel
theorem d_law_1194 : decode code 1194 = .ok (.iload 4, 2) := by decide +kernel
theorem d_law_1196 : decode code 1196 = .ok (.iconst 2, 1) := by decide +kernel
theorem d_law_1197 : decode code 1197 = .ok (.iadd, 1) := by decide +kernel
theorem d_law_1198 : decode code 1198 = .ok (.iaload, 1) := by decide +kernel
theorem d_law_1199 : decode code 1199 = .ok (.aload_n 0, 1) := by decide +kernel
theorem d_law_1200 : decode code 1200 = .ok (.iload 4, 2) := by decide +kernel
theorem d_law_1202 : decode code 1202 = .ok (.iconst 3, 1) := by decide +kernel
theorem d_law_1203 : decode code 1203 = .ok (.iadd, 1) := by decide +kernel
theorem d_law_1204 : decode code 1204 = .ok (.iaload, 1) := by decide +kernel
theorem d_law_1205 : decode code 1205 = .ok (.aload_n 3, 1) := by decide +kernel
theorem d_law_1206 : decode code 1206 = .ok (.invokestatic 194, 3) := by decide +kernel
theorem d_law_1209 : decode code 1209 = .ok (.istore 5, 2) := by decide +kernel
theorem d_law_1211 : decode code 1211 = .ok (.aload_n 2, 1) := by decide +kernel
theorem d_law_1212 : decode code 1212 = .ok (.aload_n 0, 1) := by decide +kernel
theorem d_law_1213 : decode code 1213 = .ok (.iload 4, 2) := by decide +kernel
theorem d_law_1215 : decode code 1215 = .ok (.iconst 1, 1) := by decide +kernel
theorem d_law_1216 : decode code 1216 = .ok (.iadd, 1) := by decide +kernel
theorem d_law_1217 : decode code 1217 = .ok (.iaload, 1) := by decide +kernel
theorem d_law_1218 : decode code 1218 = .ok (.aload_n 0, 1) := by decide +kernel
theorem d_law_1219 : decode code 1219 = .ok (.iload 4, 2) := by decide +kernel
theorem d_law_1221 : decode code 1221 = .ok (.iconst 2, 1) := by decide +kernel
theorem d_law_1222 : decode code 1222 = .ok (.iadd, 1) := by decide +kernel
theorem d_law_1223 : decode code 1223 = .ok (.iaload, 1) := by decide +kernel
theorem d_law_1224 : decode code 1224 = .ok (.aload_n 0, 1) := by decide +kernel
theorem d_law_1225 : decode code 1225 = .ok (.iload 4, 2) := by decide +kernel
theorem d_law_1227 : decode code 1227 = .ok (.iconst 3, 1) := by decide +kernel
theorem d_law_1228 : decode code 1228 = .ok (.iadd, 1) := by decide +kernel
theorem d_law_1229 : decode code 1229 = .ok (.iaload, 1) := by decide +kernel
theorem d_law_1230 : decode code 1230 = .ok (.invokevirtual 196, 3) := by decide +kernel
theorem d_law_1233 : decode code 1233 = .ok (.istore 6, 2) := by decide +kernel
theorem d_law_1235 : decode code 1235 = .ok (.aload_n 2, 1) := by decide +kernel
theorem d_law_1236 : decode code 1236 = .ok (.invokevirtual 152, 3) := by decide +kernel
theorem d_law_1239 : decode code 1239 = .ok (.iload 5, 2) := by decide +kernel
theorem d_law_1241 : decode code 1241 = .ok (.if_icmp .eq 5, 3) := by decide +kernel
theorem d_law_1244 : decode code 1244 = .ok (.iconst 0, 1) := by decide +kernel
theorem d_law_1245 : decode code 1245 = .ok (.ireturn, 1) := by decide +kernel
theorem d_law_1246 : decode code 1246 = .ok (.iload 5, 2) := by decide +kernel
theorem d_law_1248 : decode code 1248 = .ok (.ifCond .ne 15, 3) := by decide +kernel
theorem d_law_1251 : decode code 1251 = .ok (.aload_n 3, 1) := by decide +kernel
theorem d_law_1252 : decode code 1252 = .ok (.iconst 0, 1) := by decide +kernel
theorem d_law_1253 : decode code 1253 = .ok (.laload, 1) := by decide +kernel
theorem d_law_1254 : decode code 1254 = .ok (.iload 6, 2) := by decide +kernel
theorem d_law_1256 : decode code 1256 = .ok (.i2l, 1) := by decide +kernel
theorem d_law_1257 : decode code 1257 = .ok (.lcmp, 1) := by decide +kernel
theorem d_law_1258 : decode code 1258 = .ok (.ifCond .eq 5, 3) := by decide +kernel
theorem d_law_1261 : decode code 1261 = .ok (.iconst 0, 1) := by decide +kernel
theorem d_law_1262 : decode code 1262 = .ok (.ireturn, 1) := by decide +kernel
theorem d_law_1263 : decode code 1263 = .ok (.goto 1551, 3) := by decide +kernel
theorem d_law_1266 : decode code 1266 = .ok (.aload_n 1, 1) := by decide +kernel
theorem d_law_1267 : decode code 1267 = .ok (.aload_n 0, 1) := by decide +kernel
theorem d_law_1268 : decode code 1268 = .ok (.iload 4, 2) := by decide +kernel
theorem d_law_1270 : decode code 1270 = .ok (.iconst 1, 1) := by decide +kernel
theorem d_law_1271 : decode code 1271 = .ok (.iadd, 1) := by decide +kernel
theorem d_law_1272 : decode code 1272 = .ok (.iaload, 1) := by decide +kernel
theorem d_law_1273 : decode code 1273 = .ok (.aload_n 3, 1) := by decide +kernel
theorem d_law_1274 : decode code 1274 = .ok (.invokestatic 197, 3) := by decide +kernel
theorem d_law_1277 : decode code 1277 = .ok (.istore 5, 2) := by decide +kernel
theorem d_law_1279 : decode code 1279 = .ok (.aload_n 2, 1) := by decide +kernel
theorem d_law_1280 : decode code 1280 = .ok (.aload_n 0, 1) := by decide +kernel
theorem d_law_1281 : decode code 1281 = .ok (.iload 4, 2) := by decide +kernel
theorem d_law_1283 : decode code 1283 = .ok (.iconst 1, 1) := by decide +kernel
theorem d_law_1284 : decode code 1284 = .ok (.iadd, 1) := by decide +kernel
theorem d_law_1285 : decode code 1285 = .ok (.iaload, 1) := by decide +kernel
theorem d_law_1286 : decode code 1286 = .ok (.invokevirtual 200, 3) := by decide +kernel
theorem d_law_1289 : decode code 1289 = .ok (.istore 6, 2) := by decide +kernel
theorem d_law_1291 : decode code 1291 = .ok (.aload_n 2, 1) := by decide +kernel
theorem d_law_1292 : decode code 1292 = .ok (.invokevirtual 152, 3) := by decide +kernel
theorem d_law_1295 : decode code 1295 = .ok (.iload 5, 2) := by decide +kernel
theorem d_law_1297 : decode code 1297 = .ok (.if_icmp .eq 5, 3) := by decide +kernel
theorem d_law_1300 : decode code 1300 = .ok (.iconst 0, 1) := by decide +kernel
theorem d_law_1301 : decode code 1301 = .ok (.ireturn, 1) := by decide +kernel
theorem d_law_1302 : decode code 1302 = .ok (.iload 5, 2) := by decide +kernel
theorem d_law_1304 : decode code 1304 = .ok (.ifCond .ne 15, 3) := by decide +kernel
theorem d_law_1307 : decode code 1307 = .ok (.aload_n 3, 1) := by decide +kernel
theorem d_law_1308 : decode code 1308 = .ok (.iconst 0, 1) := by decide +kernel
theorem d_law_1309 : decode code 1309 = .ok (.laload, 1) := by decide +kernel
theorem d_law_1310 : decode code 1310 = .ok (.iload 6, 2) := by decide +kernel
theorem d_law_1312 : decode code 1312 = .ok (.i2l, 1) := by decide +kernel
theorem d_law_1313 : decode code 1313 = .ok (.lcmp, 1) := by decide +kernel
theorem d_law_1314 : decode code 1314 = .ok (.ifCond .eq 5, 3) := by decide +kernel
theorem d_law_1317 : decode code 1317 = .ok (.iconst 0, 1) := by decide +kernel
theorem d_law_1318 : decode code 1318 = .ok (.ireturn, 1) := by decide +kernel
theorem d_law_1319 : decode code 1319 = .ok (.goto 1495, 3) := by decide +kernel
theorem d_law_1322 : decode code 1322 = .ok (.aload_n 1, 1) := by decide +kernel
theorem d_law_1323 : decode code 1323 = .ok (.aload_n 3, 1) := by decide +kernel
theorem d_law_1324 : decode code 1324 = .ok (.invokestatic 201, 3) := by decide +kernel
theorem d_law_1327 : decode code 1327 = .ok (.istore 5, 2) := by decide +kernel
theorem d_law_1329 : decode code 1329 = .ok (.aload_n 2, 1) := by decide +kernel
theorem d_law_1330 : decode code 1330 = .ok (.invokevirtual 203, 3) := by decide +kernel
theorem d_law_1333 : decode code 1333 = .ok (.istore 6, 2) := by decide +kernel
theorem d_law_1335 : decode code 1335 = .ok (.aload_n 2, 1) := by decide +kernel
theorem d_law_1336 : decode code 1336 = .ok (.invokevirtual 152, 3) := by decide +kernel
theorem d_law_1339 : decode code 1339 = .ok (.iload 5, 2) := by decide +kernel
theorem d_law_1341 : decode code 1341 = .ok (.if_icmp .eq 5, 3) := by decide +kernel
theorem d_law_1344 : decode code 1344 = .ok (.iconst 0, 1) := by decide +kernel
theorem d_law_1345 : decode code 1345 = .ok (.ireturn, 1) := by decide +kernel
theorem d_law_1346 : decode code 1346 = .ok (.iload 5, 2) := by decide +kernel
theorem d_law_1348 : decode code 1348 = .ok (.ifCond .ne 15, 3) := by decide +kernel
theorem d_law_1351 : decode code 1351 = .ok (.aload_n 3, 1) := by decide +kernel
theorem d_law_1352 : decode code 1352 = .ok (.iconst 0, 1) := by decide +kernel
theorem d_law_1353 : decode code 1353 = .ok (.laload, 1) := by decide +kernel
theorem d_law_1354 : decode code 1354 = .ok (.iload 6, 2) := by decide +kernel
theorem d_law_1356 : decode code 1356 = .ok (.i2l, 1) := by decide +kernel
theorem d_law_1357 : decode code 1357 = .ok (.lcmp, 1) := by decide +kernel
theorem d_law_1358 : decode code 1358 = .ok (.ifCond .eq 5, 3) := by decide +kernel
theorem d_law_1361 : decode code 1361 = .ok (.iconst 0, 1) := by decide +kernel
theorem d_law_1362 : decode code 1362 = .ok (.ireturn, 1) := by decide +kernel
theorem d_law_1363 : decode code 1363 = .ok (.goto 1451, 3) := by decide +kernel
theorem d_law_1366 : decode code 1366 = .ok (.aload_n 1, 1) := by decide +kernel
theorem d_law_1367 : decode code 1367 = .ok (.aload_n 3, 1) := by decide +kernel
theorem d_law_1368 : decode code 1368 = .ok (.invokestatic 204, 3) := by decide +kernel
theorem d_law_1371 : decode code 1371 = .ok (.istore 5, 2) := by decide +kernel
theorem d_law_1373 : decode code 1373 = .ok (.aload_n 2, 1) := by decide +kernel
theorem d_law_1374 : decode code 1374 = .ok (.invokevirtual 206, 3) := by decide +kernel
theorem d_law_1377 : decode code 1377 = .ok (.istore 6, 2) := by decide +kernel
theorem d_law_1379 : decode code 1379 = .ok (.aload_n 2, 1) := by decide +kernel
theorem d_law_1380 : decode code 1380 = .ok (.invokevirtual 152, 3) := by decide +kernel
theorem d_law_1383 : decode code 1383 = .ok (.iload 5, 2) := by decide +kernel
theorem d_law_1385 : decode code 1385 = .ok (.if_icmp .eq 5, 3) := by decide +kernel
theorem d_law_1388 : decode code 1388 = .ok (.iconst 0, 1) := by decide +kernel
theorem d_law_1389 : decode code 1389 = .ok (.ireturn, 1) := by decide +kernel
theorem d_law_1390 : decode code 1390 = .ok (.iload 5, 2) := by decide +kernel
theorem d_law_1392 : decode code 1392 = .ok (.ifCond .ne 15, 3) := by decide +kernel
theorem d_law_1395 : decode code 1395 = .ok (.aload_n 3, 1) := by decide +kernel
theorem d_law_1396 : decode code 1396 = .ok (.iconst 0, 1) := by decide +kernel
theorem d_law_1397 : decode code 1397 = .ok (.laload, 1) := by decide +kernel
theorem d_law_1398 : decode code 1398 = .ok (.iload 6, 2) := by decide +kernel
theorem d_law_1400 : decode code 1400 = .ok (.i2l, 1) := by decide +kernel
theorem d_law_1401 : decode code 1401 = .ok (.lcmp, 1) := by decide +kernel
theorem d_law_1402 : decode code 1402 = .ok (.ifCond .eq 5, 3) := by decide +kernel
theorem d_law_1405 : decode code 1405 = .ok (.iconst 0, 1) := by decide +kernel
theorem d_law_1406 : decode code 1406 = .ok (.ireturn, 1) := by decide +kernel
theorem d_law_1407 : decode code 1407 = .ok (.goto 1407, 3) := by decide +kernel
theorem d_law_1410 : decode code 1410 = .ok (.aload_n 1, 1) := by decide +kernel
theorem d_law_1411 : decode code 1411 = .ok (.aload_n 0, 1) := by decide +kernel
theorem d_law_1412 : decode code 1412 = .ok (.iload 4, 2) := by decide +kernel
theorem d_law_1414 : decode code 1414 = .ok (.iconst 1, 1) := by decide +kernel
theorem d_law_1415 : decode code 1415 = .ok (.iadd, 1) := by decide +kernel
theorem d_law_1416 : decode code 1416 = .ok (.iaload, 1) := by decide +kernel
theorem d_law_1417 : decode code 1417 = .ok (.aload_n 0, 1) := by decide +kernel
theorem d_law_1418 : decode code 1418 = .ok (.iload 4, 2) := by decide +kernel
theorem d_law_1420 : decode code 1420 = .ok (.iconst 2, 1) := by decide +kernel
theorem d_law_1421 : decode code 1421 = .ok (.iadd, 1) := by decide +kernel
theorem d_law_1422 : decode code 1422 = .ok (.iaload, 1) := by decide +kernel
theorem d_law_1423 : decode code 1423 = .ok (.aload_n 0, 1) := by decide +kernel
theorem d_law_1424 : decode code 1424 = .ok (.iload 4, 2) := by decide +kernel
theorem d_law_1426 : decode code 1426 = .ok (.iconst 3, 1) := by decide +kernel
theorem d_law_1427 : decode code 1427 = .ok (.iadd, 1) := by decide +kernel
theorem d_law_1428 : decode code 1428 = .ok (.iaload, 1) := by decide +kernel
theorem d_law_1429 : decode code 1429 = .ok (.ifCond .eq 7, 3) := by decide +kernel
theorem d_law_1432 : decode code 1432 = .ok (.iconst 1, 1) := by decide +kernel
theorem d_law_1433 : decode code 1433 = .ok (.goto 4, 3) := by decide +kernel
theorem d_law_1436 : decode code 1436 = .ok (.iconst 0, 1) := by decide +kernel
theorem d_law_1437 : decode code 1437 = .ok (.aload_n 3, 1) := by decide +kernel
theorem d_law_1438 : decode code 1438 = .ok (.invokestatic 207, 3) := by decide +kernel
theorem d_law_1441 : decode code 1441 = .ok (.istore 5, 2) := by decide +kernel
theorem d_law_1443 : decode code 1443 = .ok (.aload_n 2, 1) := by decide +kernel
theorem d_law_1444 : decode code 1444 = .ok (.aload_n 0, 1) := by decide +kernel
theorem d_law_1445 : decode code 1445 = .ok (.iload 4, 2) := by decide +kernel
theorem d_law_1447 : decode code 1447 = .ok (.iconst 1, 1) := by decide +kernel
theorem d_law_1448 : decode code 1448 = .ok (.iadd, 1) := by decide +kernel
theorem d_law_1449 : decode code 1449 = .ok (.iaload, 1) := by decide +kernel
theorem d_law_1450 : decode code 1450 = .ok (.aload_n 0, 1) := by decide +kernel
theorem d_law_1451 : decode code 1451 = .ok (.iload 4, 2) := by decide +kernel
theorem d_law_1453 : decode code 1453 = .ok (.iconst 2, 1) := by decide +kernel
theorem d_law_1454 : decode code 1454 = .ok (.iadd, 1) := by decide +kernel
theorem d_law_1455 : decode code 1455 = .ok (.iaload, 1) := by decide +kernel
theorem d_law_1456 : decode code 1456 = .ok (.aload_n 0, 1) := by decide +kernel
theorem d_law_1457 : decode code 1457 = .ok (.iload 4, 2) := by decide +kernel
theorem d_law_1459 : decode code 1459 = .ok (.iconst 3, 1) := by decide +kernel
theorem d_law_1460 : decode code 1460 = .ok (.iadd, 1) := by decide +kernel
theorem d_law_1461 : decode code 1461 = .ok (.iaload, 1) := by decide +kernel
theorem d_law_1462 : decode code 1462 = .ok (.ifCond .eq 7, 3) := by decide +kernel
theorem d_law_1465 : decode code 1465 = .ok (.iconst 1, 1) := by decide +kernel
theorem d_law_1466 : decode code 1466 = .ok (.goto 4, 3) := by decide +kernel
theorem d_law_1469 : decode code 1469 = .ok (.iconst 0, 1) := by decide +kernel
theorem d_law_1470 : decode code 1470 = .ok (.invokevirtual 210, 3) := by decide +kernel
theorem d_law_1473 : decode code 1473 = .ok (.istore 6, 2) := by decide +kernel
theorem d_law_1475 : decode code 1475 = .ok (.aload_n 2, 1) := by decide +kernel
theorem d_law_1476 : decode code 1476 = .ok (.invokevirtual 152, 3) := by decide +kernel
theorem d_law_1479 : decode code 1479 = .ok (.iload 5, 2) := by decide +kernel
theorem d_law_1481 : decode code 1481 = .ok (.if_icmp .eq 5, 3) := by decide +kernel
theorem d_law_1484 : decode code 1484 = .ok (.iconst 0, 1) := by decide +kernel
theorem d_law_1485 : decode code 1485 = .ok (.ireturn, 1) := by decide +kernel
theorem d_law_1486 : decode code 1486 = .ok (.iload 5, 2) := by decide +kernel
theorem d_law_1488 : decode code 1488 = .ok (.ifCond .ne 15, 3) := by decide +kernel
theorem d_law_1491 : decode code 1491 = .ok (.aload_n 3, 1) := by decide +kernel
theorem d_law_1492 : decode code 1492 = .ok (.iconst 0, 1) := by decide +kernel
theorem d_law_1493 : decode code 1493 = .ok (.laload, 1) := by decide +kernel
theorem d_law_1494 : decode code 1494 = .ok (.iload 6, 2) := by decide +kernel
theorem d_law_1496 : decode code 1496 = .ok (.i2l, 1) := by decide +kernel
theorem d_law_1497 : decode code 1497 = .ok (.lcmp, 1) := by decide +kernel
theorem d_law_1498 : decode code 1498 = .ok (.ifCond .eq 5, 3) := by decide +kernel
theorem d_law_1501 : decode code 1501 = .ok (.iconst 0, 1) := by decide +kernel
theorem d_law_1502 : decode code 1502 = .ok (.ireturn, 1) := by decide +kernel
theorem d_law_1503 : decode code 1503 = .ok (.goto 1311, 3) := by decide +kernel
theorem d_law_1506 : decode code 1506 = .ok (.aload_n 1, 1) := by decide +kernel
theorem d_law_1507 : decode code 1507 = .ok (.aload_n 0, 1) := by decide +kernel
theorem d_law_1508 : decode code 1508 = .ok (.iload 4, 2) := by decide +kernel
theorem d_law_1510 : decode code 1510 = .ok (.iconst 1, 1) := by decide +kernel
theorem d_law_1511 : decode code 1511 = .ok (.iadd, 1) := by decide +kernel
theorem d_law_1512 : decode code 1512 = .ok (.iaload, 1) := by decide +kernel
theorem d_law_1513 : decode code 1513 = .ok (.aload_n 3, 1) := by decide +kernel
theorem d_law_1514 : decode code 1514 = .ok (.invokestatic 211, 3) := by decide +kernel
theorem d_law_1517 : decode code 1517 = .ok (.istore 5, 2) := by decide +kernel
theorem d_law_1519 : decode code 1519 = .ok (.aload_n 2, 1) := by decide +kernel
theorem d_law_1520 : decode code 1520 = .ok (.aload_n 0, 1) := by decide +kernel
theorem d_law_1521 : decode code 1521 = .ok (.iload 4, 2) := by decide +kernel
theorem d_law_1523 : decode code 1523 = .ok (.iconst 1, 1) := by decide +kernel
theorem d_law_1524 : decode code 1524 = .ok (.iadd, 1) := by decide +kernel
theorem d_law_1525 : decode code 1525 = .ok (.iaload, 1) := by decide +kernel
theorem d_law_1526 : decode code 1526 = .ok (.invokevirtual 213, 3) := by decide +kernel
theorem d_law_1529 : decode code 1529 = .ok (.istore 6, 2) := by decide +kernel
theorem d_law_1531 : decode code 1531 = .ok (.aload_n 2, 1) := by decide +kernel
theorem d_law_1532 : decode code 1532 = .ok (.invokevirtual 152, 3) := by decide +kernel
theorem d_law_1535 : decode code 1535 = .ok (.iload 5, 2) := by decide +kernel
theorem d_law_1537 : decode code 1537 = .ok (.if_icmp .eq 5, 3) := by decide +kernel
theorem d_law_1540 : decode code 1540 = .ok (.iconst 0, 1) := by decide +kernel
theorem d_law_1541 : decode code 1541 = .ok (.ireturn, 1) := by decide +kernel
theorem d_law_1542 : decode code 1542 = .ok (.iload 5, 2) := by decide +kernel
theorem d_law_1544 : decode code 1544 = .ok (.ifCond .ne 15, 3) := by decide +kernel
theorem d_law_1547 : decode code 1547 = .ok (.aload_n 3, 1) := by decide +kernel
theorem d_law_1548 : decode code 1548 = .ok (.iconst 0, 1) := by decide +kernel
theorem d_law_1549 : decode code 1549 = .ok (.laload, 1) := by decide +kernel
theorem d_law_1550 : decode code 1550 = .ok (.iload 6, 2) := by decide +kernel
theorem d_law_1552 : decode code 1552 = .ok (.i2l, 1) := by decide +kernel
theorem d_law_1553 : decode code 1553 = .ok (.lcmp, 1) := by decide +kernel
theorem d_law_1554 : decode code 1554 = .ok (.ifCond .eq 5, 3) := by decide +kernel
theorem d_law_1557 : decode code 1557 = .ok (.iconst 0, 1) := by decide +kernel
theorem d_law_1558 : decode code 1558 = .ok (.ireturn, 1) := by decide +kernel
theorem d_law_1559 : decode code 1559 = .ok (.goto 1255, 3) := by decide +kernel
theorem d_law_1562 : decode code 1562 = .ok (.aload_n 1, 1) := by decide +kernel
theorem d_law_1563 : decode code 1563 = .ok (.aload_n 0, 1) := by decide +kernel
theorem d_law_1564 : decode code 1564 = .ok (.iload 4, 2) := by decide +kernel
theorem d_law_1566 : decode code 1566 = .ok (.iconst 1, 1) := by decide +kernel
theorem d_law_1567 : decode code 1567 = .ok (.iadd, 1) := by decide +kernel
theorem d_law_1568 : decode code 1568 = .ok (.iaload, 1) := by decide +kernel
theorem d_law_1569 : decode code 1569 = .ok (.aload_n 0, 1) := by decide +kernel
theorem d_law_1570 : decode code 1570 = .ok (.iload 4, 2) := by decide +kernel
theorem d_law_1572 : decode code 1572 = .ok (.iconst 2, 1) := by decide +kernel
theorem d_law_1573 : decode code 1573 = .ok (.iadd, 1) := by decide +kernel
theorem d_law_1574 : decode code 1574 = .ok (.iaload, 1) := by decide +kernel
theorem d_law_1575 : decode code 1575 = .ok (.ifCond .eq 7, 3) := by decide +kernel
theorem d_law_1578 : decode code 1578 = .ok (.iconst 1, 1) := by decide +kernel
theorem d_law_1579 : decode code 1579 = .ok (.goto 4, 3) := by decide +kernel
theorem d_law_1582 : decode code 1582 = .ok (.iconst 0, 1) := by decide +kernel
theorem d_law_1583 : decode code 1583 = .ok (.aload_n 3, 1) := by decide +kernel
theorem d_law_1584 : decode code 1584 = .ok (.invokestatic 214, 3) := by decide +kernel
theorem d_law_1587 : decode code 1587 = .ok (.istore 5, 2) := by decide +kernel
theorem d_law_1589 : decode code 1589 = .ok (.aload_n 2, 1) := by decide +kernel
theorem d_law_1590 : decode code 1590 = .ok (.aload_n 0, 1) := by decide +kernel
theorem d_law_1591 : decode code 1591 = .ok (.iload 4, 2) := by decide +kernel
theorem d_law_1593 : decode code 1593 = .ok (.iconst 1, 1) := by decide +kernel
theorem d_law_1594 : decode code 1594 = .ok (.iadd, 1) := by decide +kernel
theorem d_law_1595 : decode code 1595 = .ok (.iaload, 1) := by decide +kernel
theorem d_law_1596 : decode code 1596 = .ok (.aload_n 0, 1) := by decide +kernel
theorem d_law_1597 : decode code 1597 = .ok (.iload 4, 2) := by decide +kernel
theorem d_law_1599 : decode code 1599 = .ok (.iconst 2, 1) := by decide +kernel
theorem d_law_1600 : decode code 1600 = .ok (.iadd, 1) := by decide +kernel
theorem d_law_1601 : decode code 1601 = .ok (.iaload, 1) := by decide +kernel
theorem d_law_1602 : decode code 1602 = .ok (.ifCond .eq 7, 3) := by decide +kernel
theorem d_law_1605 : decode code 1605 = .ok (.iconst 1, 1) := by decide +kernel
theorem d_law_1606 : decode code 1606 = .ok (.goto 4, 3) := by decide +kernel
theorem d_law_1609 : decode code 1609 = .ok (.iconst 0, 1) := by decide +kernel
theorem d_law_1610 : decode code 1610 = .ok (.invokevirtual 217, 3) := by decide +kernel
theorem d_law_1613 : decode code 1613 = .ok (.istore 6, 2) := by decide +kernel
theorem d_law_1615 : decode code 1615 = .ok (.aload_n 2, 1) := by decide +kernel
theorem d_law_1616 : decode code 1616 = .ok (.invokevirtual 152, 3) := by decide +kernel
theorem d_law_1619 : decode code 1619 = .ok (.iload 5, 2) := by decide +kernel
theorem d_law_1621 : decode code 1621 = .ok (.if_icmp .eq 5, 3) := by decide +kernel
theorem d_law_1624 : decode code 1624 = .ok (.iconst 0, 1) := by decide +kernel
theorem d_law_1625 : decode code 1625 = .ok (.ireturn, 1) := by decide +kernel
theorem d_law_1626 : decode code 1626 = .ok (.iload 5, 2) := by decide +kernel
theorem d_law_1628 : decode code 1628 = .ok (.ifCond .ne 15, 3) := by decide +kernel
theorem d_law_1631 : decode code 1631 = .ok (.aload_n 3, 1) := by decide +kernel
theorem d_law_1632 : decode code 1632 = .ok (.iconst 0, 1) := by decide +kernel
theorem d_law_1633 : decode code 1633 = .ok (.laload, 1) := by decide +kernel
theorem d_law_1634 : decode code 1634 = .ok (.iload 6, 2) := by decide +kernel
theorem d_law_1636 : decode code 1636 = .ok (.i2l, 1) := by decide +kernel
theorem d_law_1637 : decode code 1637 = .ok (.lcmp, 1) := by decide +kernel
theorem d_law_1638 : decode code 1638 = .ok (.ifCond .eq 5, 3) := by decide +kernel
theorem d_law_1641 : decode code 1641 = .ok (.iconst 0, 1) := by decide +kernel
theorem d_law_1642 : decode code 1642 = .ok (.ireturn, 1) := by decide +kernel
theorem d_law_1643 : decode code 1643 = .ok (.goto 1171, 3) := by decide +kernel
theorem d_law_1646 : decode code 1646 = .ok (.aload_n 1, 1) := by decide +kernel
theorem d_law_1647 : decode code 1647 = .ok (.aload_n 0, 1) := by decide +kernel
theorem d_law_1648 : decode code 1648 = .ok (.iload 4, 2) := by decide +kernel
theorem d_law_1650 : decode code 1650 = .ok (.iconst 1, 1) := by decide +kernel
theorem d_law_1651 : decode code 1651 = .ok (.iadd, 1) := by decide +kernel
theorem d_law_1652 : decode code 1652 = .ok (.iaload, 1) := by decide +kernel
theorem d_law_1653 : decode code 1653 = .ok (.aload_n 3, 1) := by decide +kernel
theorem d_law_1654 : decode code 1654 = .ok (.invokestatic 218, 3) := by decide +kernel
theorem d_law_1657 : decode code 1657 = .ok (.istore 5, 2) := by decide +kernel
theorem d_law_1659 : decode code 1659 = .ok (.aload_n 2, 1) := by decide +kernel
theorem d_law_1660 : decode code 1660 = .ok (.aload_n 0, 1) := by decide +kernel
theorem d_law_1661 : decode code 1661 = .ok (.iload 4, 2) := by decide +kernel
theorem d_law_1663 : decode code 1663 = .ok (.iconst 1, 1) := by decide +kernel
theorem d_law_1664 : decode code 1664 = .ok (.iadd, 1) := by decide +kernel
theorem d_law_1665 : decode code 1665 = .ok (.iaload, 1) := by decide +kernel
theorem d_law_1666 : decode code 1666 = .ok (.invokevirtual 220, 3) := by decide +kernel
theorem d_law_1669 : decode code 1669 = .ok (.istore 6, 2) := by decide +kernel
theorem d_law_1671 : decode code 1671 = .ok (.aload_n 2, 1) := by decide +kernel
theorem d_law_1672 : decode code 1672 = .ok (.invokevirtual 152, 3) := by decide +kernel
theorem d_law_1675 : decode code 1675 = .ok (.iload 5, 2) := by decide +kernel
theorem d_law_1677 : decode code 1677 = .ok (.if_icmp .eq 5, 3) := by decide +kernel
theorem d_law_1680 : decode code 1680 = .ok (.iconst 0, 1) := by decide +kernel
theorem d_law_1681 : decode code 1681 = .ok (.ireturn, 1) := by decide +kernel
theorem d_law_1682 : decode code 1682 = .ok (.iload 5, 2) := by decide +kernel
theorem d_law_1684 : decode code 1684 = .ok (.ifCond .ne 15, 3) := by decide +kernel
theorem d_law_1687 : decode code 1687 = .ok (.aload_n 3, 1) := by decide +kernel
theorem d_law_1688 : decode code 1688 = .ok (.iconst 0, 1) := by decide +kernel
theorem d_law_1689 : decode code 1689 = .ok (.laload, 1) := by decide +kernel
theorem d_law_1690 : decode code 1690 = .ok (.iload 6, 2) := by decide +kernel
theorem d_law_1692 : decode code 1692 = .ok (.i2l, 1) := by decide +kernel
theorem d_law_1693 : decode code 1693 = .ok (.lcmp, 1) := by decide +kernel
theorem d_law_1694 : decode code 1694 = .ok (.ifCond .eq 5, 3) := by decide +kernel
theorem d_law_1697 : decode code 1697 = .ok (.iconst 0, 1) := by decide +kernel
theorem d_law_1698 : decode code 1698 = .ok (.ireturn, 1) := by decide +kernel
theorem d_law_1699 : decode code 1699 = .ok (.goto 1115, 3) := by decide +kernel
theorem d_law_1702 : decode code 1702 = .ok (.aload_n 1, 1) := by decide +kernel
theorem d_law_1703 : decode code 1703 = .ok (.aload_n 0, 1) := by decide +kernel
theorem d_law_1704 : decode code 1704 = .ok (.iload 4, 2) := by decide +kernel
theorem d_law_1706 : decode code 1706 = .ok (.iconst 1, 1) := by decide +kernel
theorem d_law_1707 : decode code 1707 = .ok (.iadd, 1) := by decide +kernel
theorem d_law_1708 : decode code 1708 = .ok (.iaload, 1) := by decide +kernel
theorem d_law_1709 : decode code 1709 = .ok (.aload_n 0, 1) := by decide +kernel
theorem d_law_1710 : decode code 1710 = .ok (.iload 4, 2) := by decide +kernel
theorem d_law_1712 : decode code 1712 = .ok (.iconst 2, 1) := by decide +kernel
theorem d_law_1713 : decode code 1713 = .ok (.iadd, 1) := by decide +kernel
theorem d_law_1714 : decode code 1714 = .ok (.iaload, 1) := by decide +kernel
theorem d_law_1715 : decode code 1715 = .ok (.aload_n 3, 1) := by decide +kernel
theorem d_law_1716 : decode code 1716 = .ok (.invokestatic 221, 3) := by decide +kernel
theorem d_law_1719 : decode code 1719 = .ok (.istore 5, 2) := by decide +kernel
theorem d_law_1721 : decode code 1721 = .ok (.aload_n 2, 1) := by decide +kernel
theorem d_law_1722 : decode code 1722 = .ok (.aload_n 0, 1) := by decide +kernel
theorem d_law_1723 : decode code 1723 = .ok (.iload 4, 2) := by decide +kernel
theorem d_law_1725 : decode code 1725 = .ok (.iconst 1, 1) := by decide +kernel
theorem d_law_1726 : decode code 1726 = .ok (.iadd, 1) := by decide +kernel
theorem d_law_1727 : decode code 1727 = .ok (.iaload, 1) := by decide +kernel
theorem d_law_1728 : decode code 1728 = .ok (.aload_n 0, 1) := by decide +kernel
theorem d_law_1729 : decode code 1729 = .ok (.iload 4, 2) := by decide +kernel
theorem d_law_1731 : decode code 1731 = .ok (.iconst 2, 1) := by decide +kernel
theorem d_law_1732 : decode code 1732 = .ok (.iadd, 1) := by decide +kernel
theorem d_law_1733 : decode code 1733 = .ok (.iaload, 1) := by decide +kernel
theorem d_law_1734 : decode code 1734 = .ok (.invokevirtual 223, 3) := by decide +kernel
theorem d_law_1737 : decode code 1737 = .ok (.istore 6, 2) := by decide +kernel
theorem d_law_1739 : decode code 1739 = .ok (.aload_n 2, 1) := by decide +kernel
theorem d_law_1740 : decode code 1740 = .ok (.invokevirtual 152, 3) := by decide +kernel
theorem d_law_1743 : decode code 1743 = .ok (.iload 5, 2) := by decide +kernel
theorem d_law_1745 : decode code 1745 = .ok (.if_icmp .eq 5, 3) := by decide +kernel
theorem d_law_1748 : decode code 1748 = .ok (.iconst 0, 1) := by decide +kernel
theorem d_law_1749 : decode code 1749 = .ok (.ireturn, 1) := by decide +kernel
theorem d_law_1750 : decode code 1750 = .ok (.iload 5, 2) := by decide +kernel
theorem d_law_1752 : decode code 1752 = .ok (.ifCond .ne 22, 3) := by decide +kernel
theorem d_law_1755 : decode code 1755 = .ok (.aload_n 3, 1) := by decide +kernel
theorem d_law_1756 : decode code 1756 = .ok (.iconst 0, 1) := by decide +kernel
theorem d_law_1757 : decode code 1757 = .ok (.laload, 1) := by decide +kernel
theorem d_law_1758 : decode code 1758 = .ok (.iload 6, 2) := by decide +kernel
theorem d_law_1760 : decode code 1760 = .ok (.ifCond .eq 7, 3) := by decide +kernel
theorem d_law_1763 : decode code 1763 = .ok (.lconst 1, 1) := by decide +kernel
theorem d_law_1764 : decode code 1764 = .ok (.goto 4, 3) := by decide +kernel
theorem d_law_1767 : decode code 1767 = .ok (.lconst 0, 1) := by decide +kernel
theorem d_law_1768 : decode code 1768 = .ok (.lcmp, 1) := by decide +kernel
theorem d_law_1769 : decode code 1769 = .ok (.ifCond .eq 5, 3) := by decide +kernel
theorem d_law_1772 : decode code 1772 = .ok (.iconst 0, 1) := by decide +kernel
theorem d_law_1773 : decode code 1773 = .ok (.ireturn, 1) := by decide +kernel
theorem d_law_1774 : decode code 1774 = .ok (.goto 1040, 3) := by decide +kernel
theorem d_law_1777 : decode code 1777 = .ok (.aload_n 1, 1) := by decide +kernel
theorem d_law_1778 : decode code 1778 = .ok (.aload_n 0, 1) := by decide +kernel
theorem d_law_1779 : decode code 1779 = .ok (.iload 4, 2) := by decide +kernel
theorem d_law_1781 : decode code 1781 = .ok (.iconst 1, 1) := by decide +kernel
theorem d_law_1782 : decode code 1782 = .ok (.iadd, 1) := by decide +kernel
theorem d_law_1783 : decode code 1783 = .ok (.iaload, 1) := by decide +kernel
theorem d_law_1784 : decode code 1784 = .ok (.aload_n 3, 1) := by decide +kernel
theorem d_law_1785 : decode code 1785 = .ok (.invokestatic 224, 3) := by decide +kernel
theorem d_law_1788 : decode code 1788 = .ok (.istore 5, 2) := by decide +kernel
theorem d_law_1790 : decode code 1790 = .ok (.aload_n 2, 1) := by decide +kernel
theorem d_law_1791 : decode code 1791 = .ok (.aload_n 0, 1) := by decide +kernel
theorem d_law_1792 : decode code 1792 = .ok (.iload 4, 2) := by decide +kernel
theorem d_law_1794 : decode code 1794 = .ok (.iconst 1, 1) := by decide +kernel
theorem d_law_1795 : decode code 1795 = .ok (.iadd, 1) := by decide +kernel
theorem d_law_1796 : decode code 1796 = .ok (.iaload, 1) := by decide +kernel
theorem d_law_1797 : decode code 1797 = .ok (.invokevirtual 226, 3) := by decide +kernel
theorem d_law_1800 : decode code 1800 = .ok (.istore 6, 2) := by decide +kernel
theorem d_law_1802 : decode code 1802 = .ok (.aload_n 2, 1) := by decide +kernel
theorem d_law_1803 : decode code 1803 = .ok (.invokevirtual 152, 3) := by decide +kernel
theorem d_law_1806 : decode code 1806 = .ok (.iload 5, 2) := by decide +kernel
theorem d_law_1808 : decode code 1808 = .ok (.if_icmp .eq 5, 3) := by decide +kernel
theorem d_law_1811 : decode code 1811 = .ok (.iconst 0, 1) := by decide +kernel
theorem d_law_1812 : decode code 1812 = .ok (.ireturn, 1) := by decide +kernel
theorem d_law_1813 : decode code 1813 = .ok (.iload 5, 2) := by decide +kernel
theorem d_law_1815 : decode code 1815 = .ok (.ifCond .ne 15, 3) := by decide +kernel
theorem d_law_1818 : decode code 1818 = .ok (.aload_n 3, 1) := by decide +kernel
theorem d_law_1819 : decode code 1819 = .ok (.iconst 0, 1) := by decide +kernel
theorem d_law_1820 : decode code 1820 = .ok (.laload, 1) := by decide +kernel
theorem d_law_1821 : decode code 1821 = .ok (.iload 6, 2) := by decide +kernel
theorem d_law_1823 : decode code 1823 = .ok (.i2l, 1) := by decide +kernel
theorem d_law_1824 : decode code 1824 = .ok (.lcmp, 1) := by decide +kernel
theorem d_law_1825 : decode code 1825 = .ok (.ifCond .eq 5, 3) := by decide +kernel
theorem d_law_1828 : decode code 1828 = .ok (.iconst 0, 1) := by decide +kernel
theorem d_law_1829 : decode code 1829 = .ok (.ireturn, 1) := by decide +kernel
theorem d_law_1830 : decode code 1830 = .ok (.goto 984, 3) := by decide +kernel
theorem d_law_1833 : decode code 1833 = .ok (.aload_n 1, 1) := by decide +kernel
theorem d_law_1834 : decode code 1834 = .ok (.aload_n 0, 1) := by decide +kernel
theorem d_law_1835 : decode code 1835 = .ok (.iload 4, 2) := by decide +kernel
theorem d_law_1837 : decode code 1837 = .ok (.iconst 1, 1) := by decide +kernel
theorem d_law_1838 : decode code 1838 = .ok (.iadd, 1) := by decide +kernel
theorem d_law_1839 : decode code 1839 = .ok (.iaload, 1) := by decide +kernel
theorem d_law_1840 : decode code 1840 = .ok (.aload_n 0, 1) := by decide +kernel
theorem d_law_1841 : decode code 1841 = .ok (.iload 4, 2) := by decide +kernel
theorem d_law_1843 : decode code 1843 = .ok (.iconst 2, 1) := by decide +kernel
theorem d_law_1844 : decode code 1844 = .ok (.iadd, 1) := by decide +kernel
theorem d_law_1845 : decode code 1845 = .ok (.iaload, 1) := by decide +kernel
theorem d_law_1846 : decode code 1846 = .ok (.aload_n 0, 1) := by decide +kernel
theorem d_law_1847 : decode code 1847 = .ok (.iload 4, 2) := by decide +kernel
theorem d_law_1849 : decode code 1849 = .ok (.iconst 3, 1) := by decide +kernel
theorem d_law_1850 : decode code 1850 = .ok (.iadd, 1) := by decide +kernel
theorem d_law_1851 : decode code 1851 = .ok (.iaload, 1) := by decide +kernel
theorem d_law_1852 : decode code 1852 = .ok (.aload_n 3, 1) := by decide +kernel
theorem d_law_1853 : decode code 1853 = .ok (.invokestatic 227, 3) := by decide +kernel
theorem d_law_1856 : decode code 1856 = .ok (.istore 5, 2) := by decide +kernel
theorem d_law_1858 : decode code 1858 = .ok (.aload_n 2, 1) := by decide +kernel
theorem d_law_1859 : decode code 1859 = .ok (.aload_n 0, 1) := by decide +kernel
theorem d_law_1860 : decode code 1860 = .ok (.iload 4, 2) := by decide +kernel
theorem d_law_1862 : decode code 1862 = .ok (.iconst 1, 1) := by decide +kernel
theorem d_law_1863 : decode code 1863 = .ok (.iadd, 1) := by decide +kernel
theorem d_law_1864 : decode code 1864 = .ok (.iaload, 1) := by decide +kernel
theorem d_law_1865 : decode code 1865 = .ok (.aload_n 0, 1) := by decide +kernel
theorem d_law_1866 : decode code 1866 = .ok (.iload 4, 2) := by decide +kernel
theorem d_law_1868 : decode code 1868 = .ok (.iconst 2, 1) := by decide +kernel
theorem d_law_1869 : decode code 1869 = .ok (.iadd, 1) := by decide +kernel
theorem d_law_1870 : decode code 1870 = .ok (.iaload, 1) := by decide +kernel
theorem d_law_1871 : decode code 1871 = .ok (.aload_n 0, 1) := by decide +kernel
theorem d_law_1872 : decode code 1872 = .ok (.iload 4, 2) := by decide +kernel
theorem d_law_1874 : decode code 1874 = .ok (.iconst 3, 1) := by decide +kernel
theorem d_law_1875 : decode code 1875 = .ok (.iadd, 1) := by decide +kernel
theorem d_law_1876 : decode code 1876 = .ok (.iaload, 1) := by decide +kernel
theorem d_law_1877 : decode code 1877 = .ok (.invokevirtual 229, 3) := by decide +kernel
theorem d_law_1880 : decode code 1880 = .ok (.istore 6, 2) := by decide +kernel
theorem d_law_1882 : decode code 1882 = .ok (.aload_n 2, 1) := by decide +kernel
theorem d_law_1883 : decode code 1883 = .ok (.invokevirtual 152, 3) := by decide +kernel
theorem d_law_1886 : decode code 1886 = .ok (.iload 5, 2) := by decide +kernel
theorem d_law_1888 : decode code 1888 = .ok (.if_icmp .eq 5, 3) := by decide +kernel
theorem d_law_1891 : decode code 1891 = .ok (.iconst 0, 1) := by decide +kernel
theorem d_law_1892 : decode code 1892 = .ok (.ireturn, 1) := by decide +kernel
theorem d_law_1893 : decode code 1893 = .ok (.iload 5, 2) := by decide +kernel
theorem d_law_1895 : decode code 1895 = .ok (.ifCond .ne 15, 3) := by decide +kernel
theorem d_law_1898 : decode code 1898 = .ok (.aload_n 3, 1) := by decide +kernel
theorem d_law_1899 : decode code 1899 = .ok (.iconst 0, 1) := by decide +kernel
theorem d_law_1900 : decode code 1900 = .ok (.laload, 1) := by decide +kernel
theorem d_law_1901 : decode code 1901 = .ok (.iload 6, 2) := by decide +kernel
theorem d_law_1903 : decode code 1903 = .ok (.i2l, 1) := by decide +kernel
theorem d_law_1904 : decode code 1904 = .ok (.lcmp, 1) := by decide +kernel
theorem d_law_1905 : decode code 1905 = .ok (.ifCond .eq 5, 3) := by decide +kernel
theorem d_law_1908 : decode code 1908 = .ok (.iconst 0, 1) := by decide +kernel
theorem d_law_1909 : decode code 1909 = .ok (.ireturn, 1) := by decide +kernel
theorem d_law_1910 : decode code 1910 = .ok (.goto 904, 3) := by decide +kernel
theorem d_law_1913 : decode code 1913 = .ok (.aload_n 1, 1) := by decide +kernel
theorem d_law_1914 : decode code 1914 = .ok (.aload_n 3, 1) := by decide +kernel
theorem d_law_1915 : decode code 1915 = .ok (.invokestatic 230, 3) := by decide +kernel
theorem d_law_1918 : decode code 1918 = .ok (.istore 5, 2) := by decide +kernel
theorem d_law_1920 : decode code 1920 = .ok (.aload_n 2, 1) := by decide +kernel
theorem d_law_1921 : decode code 1921 = .ok (.invokevirtual 232, 3) := by decide +kernel
theorem d_law_1924 : decode code 1924 = .ok (.istore 6, 2) := by decide +kernel
theorem d_law_1926 : decode code 1926 = .ok (.aload_n 2, 1) := by decide +kernel
theorem d_law_1927 : decode code 1927 = .ok (.invokevirtual 152, 3) := by decide +kernel
theorem d_law_1930 : decode code 1930 = .ok (.iload 5, 2) := by decide +kernel
theorem d_law_1932 : decode code 1932 = .ok (.if_icmp .eq 5, 3) := by decide +kernel
theorem d_law_1935 : decode code 1935 = .ok (.iconst 0, 1) := by decide +kernel
theorem d_law_1936 : decode code 1936 = .ok (.ireturn, 1) := by decide +kernel
theorem d_law_1937 : decode code 1937 = .ok (.iload 5, 2) := by decide +kernel
theorem d_law_1939 : decode code 1939 = .ok (.ifCond .ne 15, 3) := by decide +kernel
theorem d_law_1942 : decode code 1942 = .ok (.aload_n 3, 1) := by decide +kernel
theorem d_law_1943 : decode code 1943 = .ok (.iconst 0, 1) := by decide +kernel
theorem d_law_1944 : decode code 1944 = .ok (.laload, 1) := by decide +kernel
theorem d_law_1945 : decode code 1945 = .ok (.iload 6, 2) := by decide +kernel
theorem d_law_1947 : decode code 1947 = .ok (.i2l, 1) := by decide +kernel
theorem d_law_1948 : decode code 1948 = .ok (.lcmp, 1) := by decide +kernel
theorem d_law_1949 : decode code 1949 = .ok (.ifCond .eq 5, 3) := by decide +kernel
theorem d_law_1952 : decode code 1952 = .ok (.iconst 0, 1) := by decide +kernel
theorem d_law_1953 : decode code 1953 = .ok (.ireturn, 1) := by decide +kernel
theorem d_law_1954 : decode code 1954 = .ok (.goto 860, 3) := by decide +kernel
theorem d_law_1957 : decode code 1957 = .ok (.aload_n 1, 1) := by decide +kernel
theorem d_law_1958 : decode code 1958 = .ok (.aload_n 0, 1) := by decide +kernel
theorem d_law_1959 : decode code 1959 = .ok (.iload 4, 2) := by decide +kernel
theorem d_law_1961 : decode code 1961 = .ok (.iconst 1, 1) := by decide +kernel
theorem d_law_1962 : decode code 1962 = .ok (.iadd, 1) := by decide +kernel
theorem d_law_1963 : decode code 1963 = .ok (.iaload, 1) := by decide +kernel
theorem d_law_1964 : decode code 1964 = .ok (.aload_n 3, 1) := by decide +kernel
theorem d_law_1965 : decode code 1965 = .ok (.invokestatic 233, 3) := by decide +kernel
theorem d_law_1968 : decode code 1968 = .ok (.istore 5, 2) := by decide +kernel
theorem d_law_1970 : decode code 1970 = .ok (.aload_n 2, 1) := by decide +kernel
theorem d_law_1971 : decode code 1971 = .ok (.aload_n 0, 1) := by decide +kernel
theorem d_law_1972 : decode code 1972 = .ok (.iload 4, 2) := by decide +kernel
theorem d_law_1974 : decode code 1974 = .ok (.iconst 1, 1) := by decide +kernel
theorem d_law_1975 : decode code 1975 = .ok (.iadd, 1) := by decide +kernel
theorem d_law_1976 : decode code 1976 = .ok (.iaload, 1) := by decide +kernel
theorem d_law_1977 : decode code 1977 = .ok (.invokevirtual 235, 3) := by decide +kernel
theorem d_law_1980 : decode code 1980 = .ok (.istore 6, 2) := by decide +kernel
theorem d_law_1982 : decode code 1982 = .ok (.aload_n 2, 1) := by decide +kernel
theorem d_law_1983 : decode code 1983 = .ok (.invokevirtual 152, 3) := by decide +kernel
theorem d_law_1986 : decode code 1986 = .ok (.iload 5, 2) := by decide +kernel
theorem d_law_1988 : decode code 1988 = .ok (.if_icmp .eq 5, 3) := by decide +kernel
theorem d_law_1991 : decode code 1991 = .ok (.iconst 0, 1) := by decide +kernel
theorem d_law_1992 : decode code 1992 = .ok (.ireturn, 1) := by decide +kernel
theorem d_law_1993 : decode code 1993 = .ok (.iload 5, 2) := by decide +kernel
theorem d_law_1995 : decode code 1995 = .ok (.ifCond .ne 15, 3) := by decide +kernel
theorem d_law_1998 : decode code 1998 = .ok (.aload_n 3, 1) := by decide +kernel
theorem d_law_1999 : decode code 1999 = .ok (.iconst 0, 1) := by decide +kernel
theorem d_law_2000 : decode code 2000 = .ok (.laload, 1) := by decide +kernel
theorem d_law_2001 : decode code 2001 = .ok (.iload 6, 2) := by decide +kernel
theorem d_law_2003 : decode code 2003 = .ok (.i2l, 1) := by decide +kernel
theorem d_law_2004 : decode code 2004 = .ok (.lcmp, 1) := by decide +kernel
theorem d_law_2005 : decode code 2005 = .ok (.ifCond .eq 5, 3) := by decide +kernel
theorem d_law_2008 : decode code 2008 = .ok (.iconst 0, 1) := by decide +kernel
theorem d_law_2009 : decode code 2009 = .ok (.ireturn, 1) := by decide +kernel
theorem d_law_2010 : decode code 2010 = .ok (.goto 804, 3) := by decide +kernel
theorem d_law_2013 : decode code 2013 = .ok (.aload_n 1, 1) := by decide +kernel
theorem d_law_2014 : decode code 2014 = .ok (.aload_n 0, 1) := by decide +kernel
theorem d_law_2015 : decode code 2015 = .ok (.iload 4, 2) := by decide +kernel
theorem d_law_2017 : decode code 2017 = .ok (.iconst 1, 1) := by decide +kernel
theorem d_law_2018 : decode code 2018 = .ok (.iadd, 1) := by decide +kernel
theorem d_law_2019 : decode code 2019 = .ok (.iaload, 1) := by decide +kernel
theorem d_law_2020 : decode code 2020 = .ok (.aload_n 0, 1) := by decide +kernel
theorem d_law_2021 : decode code 2021 = .ok (.iload 4, 2) := by decide +kernel
theorem d_law_2023 : decode code 2023 = .ok (.iconst 2, 1) := by decide +kernel
theorem d_law_2024 : decode code 2024 = .ok (.iadd, 1) := by decide +kernel
theorem d_law_2025 : decode code 2025 = .ok (.iaload, 1) := by decide +kernel
theorem d_law_2026 : decode code 2026 = .ok (.aload_n 3, 1) := by decide +kernel
theorem d_law_2027 : decode code 2027 = .ok (.invokestatic 236, 3) := by decide +kernel
theorem d_law_2030 : decode code 2030 = .ok (.istore 5, 2) := by decide +kernel
theorem d_law_2032 : decode code 2032 = .ok (.aload_n 2, 1) := by decide +kernel
theorem d_law_2033 : decode code 2033 = .ok (.aload_n 0, 1) := by decide +kernel
theorem d_law_2034 : decode code 2034 = .ok (.iload 4, 2) := by decide +kernel
theorem d_law_2036 : decode code 2036 = .ok (.iconst 1, 1) := by decide +kernel
theorem d_law_2037 : decode code 2037 = .ok (.iadd, 1) := by decide +kernel
theorem d_law_2038 : decode code 2038 = .ok (.iaload, 1) := by decide +kernel
theorem d_law_2039 : decode code 2039 = .ok (.aload_n 0, 1) := by decide +kernel
theorem d_law_2040 : decode code 2040 = .ok (.iload 4, 2) := by decide +kernel
theorem d_law_2042 : decode code 2042 = .ok (.iconst 2, 1) := by decide +kernel
theorem d_law_2043 : decode code 2043 = .ok (.iadd, 1) := by decide +kernel
theorem d_law_2044 : decode code 2044 = .ok (.iaload, 1) := by decide +kernel
theorem d_law_2045 : decode code 2045 = .ok (.invokevirtual 238, 3) := by decide +kernel
theorem d_law_2048 : decode code 2048 = .ok (.istore 6, 2) := by decide +kernel
theorem d_law_2050 : decode code 2050 = .ok (.aload_n 2, 1) := by decide +kernel
theorem d_law_2051 : decode code 2051 = .ok (.invokevirtual 152, 3) := by decide +kernel
theorem d_law_2054 : decode code 2054 = .ok (.iload 5, 2) := by decide +kernel
theorem d_law_2056 : decode code 2056 = .ok (.if_icmp .eq 5, 3) := by decide +kernel
theorem d_law_2059 : decode code 2059 = .ok (.iconst 0, 1) := by decide +kernel
theorem d_law_2060 : decode code 2060 = .ok (.ireturn, 1) := by decide +kernel
theorem d_law_2061 : decode code 2061 = .ok (.iload 5, 2) := by decide +kernel
theorem d_law_2063 : decode code 2063 = .ok (.ifCond .ne 22, 3) := by decide +kernel
theorem d_law_2066 : decode code 2066 = .ok (.aload_n 3, 1) := by decide +kernel
theorem d_law_2067 : decode code 2067 = .ok (.iconst 0, 1) := by decide +kernel
theorem d_law_2068 : decode code 2068 = .ok (.laload, 1) := by decide +kernel
theorem d_law_2069 : decode code 2069 = .ok (.iload 6, 2) := by decide +kernel
theorem d_law_2071 : decode code 2071 = .ok (.ifCond .eq 7, 3) := by decide +kernel
theorem d_law_2074 : decode code 2074 = .ok (.lconst 1, 1) := by decide +kernel
theorem d_law_2075 : decode code 2075 = .ok (.goto 4, 3) := by decide +kernel
theorem d_law_2078 : decode code 2078 = .ok (.lconst 0, 1) := by decide +kernel
theorem d_law_2079 : decode code 2079 = .ok (.lcmp, 1) := by decide +kernel
theorem d_law_2080 : decode code 2080 = .ok (.ifCond .eq 5, 3) := by decide +kernel
theorem d_law_2083 : decode code 2083 = .ok (.iconst 0, 1) := by decide +kernel
theorem d_law_2084 : decode code 2084 = .ok (.ireturn, 1) := by decide +kernel
theorem d_law_2085 : decode code 2085 = .ok (.goto 729, 3) := by decide +kernel
theorem d_law_2088 : decode code 2088 = .ok (.aload_n 1, 1) := by decide +kernel
theorem d_law_2089 : decode code 2089 = .ok (.aload_n 3, 1) := by decide +kernel
theorem d_law_2090 : decode code 2090 = .ok (.invokestatic 239, 3) := by decide +kernel
theorem d_law_2093 : decode code 2093 = .ok (.istore 5, 2) := by decide +kernel
theorem d_law_2095 : decode code 2095 = .ok (.aload_n 2, 1) := by decide +kernel
theorem d_law_2096 : decode code 2096 = .ok (.invokevirtual 241, 3) := by decide +kernel
theorem d_law_2099 : decode code 2099 = .ok (.istore 6, 2) := by decide +kernel
theorem d_law_2101 : decode code 2101 = .ok (.aload_n 2, 1) := by decide +kernel
theorem d_law_2102 : decode code 2102 = .ok (.invokevirtual 152, 3) := by decide +kernel
theorem d_law_2105 : decode code 2105 = .ok (.iload 5, 2) := by decide +kernel
theorem d_law_2107 : decode code 2107 = .ok (.if_icmp .eq 5, 3) := by decide +kernel
theorem d_law_2110 : decode code 2110 = .ok (.iconst 0, 1) := by decide +kernel
theorem d_law_2111 : decode code 2111 = .ok (.ireturn, 1) := by decide +kernel
theorem d_law_2112 : decode code 2112 = .ok (.iload 5, 2) := by decide +kernel
theorem d_law_2114 : decode code 2114 = .ok (.ifCond .ne 15, 3) := by decide +kernel
theorem d_law_2117 : decode code 2117 = .ok (.aload_n 3, 1) := by decide +kernel
theorem d_law_2118 : decode code 2118 = .ok (.iconst 0, 1) := by decide +kernel
theorem d_law_2119 : decode code 2119 = .ok (.laload, 1) := by decide +kernel
theorem d_law_2120 : decode code 2120 = .ok (.iload 6, 2) := by decide +kernel
theorem d_law_2122 : decode code 2122 = .ok (.i2l, 1) := by decide +kernel
theorem d_law_2123 : decode code 2123 = .ok (.lcmp, 1) := by decide +kernel
theorem d_law_2124 : decode code 2124 = .ok (.ifCond .eq 5, 3) := by decide +kernel
theorem d_law_2127 : decode code 2127 = .ok (.iconst 0, 1) := by decide +kernel
theorem d_law_2128 : decode code 2128 = .ok (.ireturn, 1) := by decide +kernel
theorem d_law_2129 : decode code 2129 = .ok (.goto 685, 3) := by decide +kernel
theorem d_law_2132 : decode code 2132 = .ok (.aload_n 1, 1) := by decide +kernel
theorem d_law_2133 : decode code 2133 = .ok (.aload_n 0, 1) := by decide +kernel
theorem d_law_2134 : decode code 2134 = .ok (.iload 4, 2) := by decide +kernel
theorem d_law_2136 : decode code 2136 = .ok (.iconst 1, 1) := by decide +kernel
theorem d_law_2137 : decode code 2137 = .ok (.iadd, 1) := by decide +kernel
theorem d_law_2138 : decode code 2138 = .ok (.iaload, 1) := by decide +kernel
theorem d_law_2139 : decode code 2139 = .ok (.aload_n 0, 1) := by decide +kernel
theorem d_law_2140 : decode code 2140 = .ok (.iload 4, 2) := by decide +kernel
theorem d_law_2142 : decode code 2142 = .ok (.iconst 2, 1) := by decide +kernel
theorem d_law_2143 : decode code 2143 = .ok (.iadd, 1) := by decide +kernel
theorem d_law_2144 : decode code 2144 = .ok (.iaload, 1) := by decide +kernel
theorem d_law_2145 : decode code 2145 = .ok (.aload_n 3, 1) := by decide +kernel
theorem d_law_2146 : decode code 2146 = .ok (.invokestatic 242, 3) := by decide +kernel
theorem d_law_2149 : decode code 2149 = .ok (.istore 5, 2) := by decide +kernel
theorem d_law_2151 : decode code 2151 = .ok (.aload_n 2, 1) := by decide +kernel
theorem d_law_2152 : decode code 2152 = .ok (.aload_n 0, 1) := by decide +kernel
theorem d_law_2153 : decode code 2153 = .ok (.iload 4, 2) := by decide +kernel
theorem d_law_2155 : decode code 2155 = .ok (.iconst 1, 1) := by decide +kernel
theorem d_law_2156 : decode code 2156 = .ok (.iadd, 1) := by decide +kernel
theorem d_law_2157 : decode code 2157 = .ok (.iaload, 1) := by decide +kernel
theorem d_law_2158 : decode code 2158 = .ok (.aload_n 0, 1) := by decide +kernel
theorem d_law_2159 : decode code 2159 = .ok (.iload 4, 2) := by decide +kernel
theorem d_law_2161 : decode code 2161 = .ok (.iconst 2, 1) := by decide +kernel
theorem d_law_2162 : decode code 2162 = .ok (.iadd, 1) := by decide +kernel
theorem d_law_2163 : decode code 2163 = .ok (.iaload, 1) := by decide +kernel
theorem d_law_2164 : decode code 2164 = .ok (.invokevirtual 244, 3) := by decide +kernel
theorem d_law_2167 : decode code 2167 = .ok (.istore 6, 2) := by decide +kernel
theorem d_law_2169 : decode code 2169 = .ok (.aload_n 2, 1) := by decide +kernel
theorem d_law_2170 : decode code 2170 = .ok (.invokevirtual 152, 3) := by decide +kernel
theorem d_law_2173 : decode code 2173 = .ok (.iload 5, 2) := by decide +kernel
theorem d_law_2175 : decode code 2175 = .ok (.if_icmp .eq 5, 3) := by decide +kernel
theorem d_law_2178 : decode code 2178 = .ok (.iconst 0, 1) := by decide +kernel
theorem d_law_2179 : decode code 2179 = .ok (.ireturn, 1) := by decide +kernel
theorem d_law_2180 : decode code 2180 = .ok (.iload 5, 2) := by decide +kernel
theorem d_law_2182 : decode code 2182 = .ok (.ifCond .ne 15, 3) := by decide +kernel
theorem d_law_2185 : decode code 2185 = .ok (.aload_n 3, 1) := by decide +kernel
theorem d_law_2186 : decode code 2186 = .ok (.iconst 0, 1) := by decide +kernel
theorem d_law_2187 : decode code 2187 = .ok (.laload, 1) := by decide +kernel
theorem d_law_2188 : decode code 2188 = .ok (.iload 6, 2) := by decide +kernel
theorem d_law_2190 : decode code 2190 = .ok (.i2l, 1) := by decide +kernel
theorem d_law_2191 : decode code 2191 = .ok (.lcmp, 1) := by decide +kernel
theorem d_law_2192 : decode code 2192 = .ok (.ifCond .eq 5, 3) := by decide +kernel
theorem d_law_2195 : decode code 2195 = .ok (.iconst 0, 1) := by decide +kernel
theorem d_law_2196 : decode code 2196 = .ok (.ireturn, 1) := by decide +kernel
theorem d_law_2197 : decode code 2197 = .ok (.goto 617, 3) := by decide +kernel
theorem d_law_2200 : decode code 2200 = .ok (.aload_n 1, 1) := by decide +kernel
theorem d_law_2201 : decode code 2201 = .ok (.aload_n 0, 1) := by decide +kernel
theorem d_law_2202 : decode code 2202 = .ok (.iload 4, 2) := by decide +kernel
theorem d_law_2204 : decode code 2204 = .ok (.iconst 1, 1) := by decide +kernel
theorem d_law_2205 : decode code 2205 = .ok (.iadd, 1) := by decide +kernel
theorem d_law_2206 : decode code 2206 = .ok (.iaload, 1) := by decide +kernel
theorem d_law_2207 : decode code 2207 = .ok (.aload_n 3, 1) := by decide +kernel
theorem d_law_2208 : decode code 2208 = .ok (.invokestatic 245, 3) := by decide +kernel
theorem d_law_2211 : decode code 2211 = .ok (.istore 5, 2) := by decide +kernel
theorem d_law_2213 : decode code 2213 = .ok (.aload_n 2, 1) := by decide +kernel
theorem d_law_2214 : decode code 2214 = .ok (.aload_n 0, 1) := by decide +kernel
theorem d_law_2215 : decode code 2215 = .ok (.iload 4, 2) := by decide +kernel
theorem d_law_2217 : decode code 2217 = .ok (.iconst 1, 1) := by decide +kernel
theorem d_law_2218 : decode code 2218 = .ok (.iadd, 1) := by decide +kernel
theorem d_law_2219 : decode code 2219 = .ok (.iaload, 1) := by decide +kernel
theorem d_law_2220 : decode code 2220 = .ok (.invokevirtual 247, 3) := by decide +kernel
theorem d_law_2223 : decode code 2223 = .ok (.istore 6, 2) := by decide +kernel
theorem d_law_2225 : decode code 2225 = .ok (.aload_n 2, 1) := by decide +kernel
theorem d_law_2226 : decode code 2226 = .ok (.invokevirtual 152, 3) := by decide +kernel
theorem d_law_2229 : decode code 2229 = .ok (.iload 5, 2) := by decide +kernel
theorem d_law_2231 : decode code 2231 = .ok (.if_icmp .eq 5, 3) := by decide +kernel
theorem d_law_2234 : decode code 2234 = .ok (.iconst 0, 1) := by decide +kernel
theorem d_law_2235 : decode code 2235 = .ok (.ireturn, 1) := by decide +kernel
theorem d_law_2236 : decode code 2236 = .ok (.iload 5, 2) := by decide +kernel
theorem d_law_2238 : decode code 2238 = .ok (.ifCond .ne 15, 3) := by decide +kernel
theorem d_law_2241 : decode code 2241 = .ok (.aload_n 3, 1) := by decide +kernel
theorem d_law_2242 : decode code 2242 = .ok (.iconst 0, 1) := by decide +kernel
theorem d_law_2243 : decode code 2243 = .ok (.laload, 1) := by decide +kernel
theorem d_law_2244 : decode code 2244 = .ok (.iload 6, 2) := by decide +kernel
theorem d_law_2246 : decode code 2246 = .ok (.i2l, 1) := by decide +kernel
theorem d_law_2247 : decode code 2247 = .ok (.lcmp, 1) := by decide +kernel
theorem d_law_2248 : decode code 2248 = .ok (.ifCond .eq 5, 3) := by decide +kernel
theorem d_law_2251 : decode code 2251 = .ok (.iconst 0, 1) := by decide +kernel
theorem d_law_2252 : decode code 2252 = .ok (.ireturn, 1) := by decide +kernel
theorem d_law_2253 : decode code 2253 = .ok (.goto 561, 3) := by decide +kernel
theorem d_law_2256 : decode code 2256 = .ok (.aload_n 1, 1) := by decide +kernel
theorem d_law_2257 : decode code 2257 = .ok (.aload_n 0, 1) := by decide +kernel
theorem d_law_2258 : decode code 2258 = .ok (.iload 4, 2) := by decide +kernel
theorem d_law_2260 : decode code 2260 = .ok (.iconst 1, 1) := by decide +kernel
theorem d_law_2261 : decode code 2261 = .ok (.iadd, 1) := by decide +kernel
theorem d_law_2262 : decode code 2262 = .ok (.iaload, 1) := by decide +kernel
theorem d_law_2263 : decode code 2263 = .ok (.aload_n 0, 1) := by decide +kernel
theorem d_law_2264 : decode code 2264 = .ok (.iload 4, 2) := by decide +kernel
theorem d_law_2266 : decode code 2266 = .ok (.iconst 2, 1) := by decide +kernel
theorem d_law_2267 : decode code 2267 = .ok (.iadd, 1) := by decide +kernel
theorem d_law_2268 : decode code 2268 = .ok (.iaload, 1) := by decide +kernel
theorem d_law_2269 : decode code 2269 = .ok (.aload_n 0, 1) := by decide +kernel
theorem d_law_2270 : decode code 2270 = .ok (.iload 4, 2) := by decide +kernel
theorem d_law_2272 : decode code 2272 = .ok (.iconst 3, 1) := by decide +kernel
theorem d_law_2273 : decode code 2273 = .ok (.iadd, 1) := by decide +kernel
theorem d_law_2274 : decode code 2274 = .ok (.iaload, 1) := by decide +kernel
theorem d_law_2275 : decode code 2275 = .ok (.ifCond .eq 7, 3) := by decide +kernel
theorem d_law_2278 : decode code 2278 = .ok (.iconst 1, 1) := by decide +kernel
theorem d_law_2279 : decode code 2279 = .ok (.goto 4, 3) := by decide +kernel
theorem d_law_2282 : decode code 2282 = .ok (.iconst 0, 1) := by decide +kernel
theorem d_law_2283 : decode code 2283 = .ok (.aload_n 3, 1) := by decide +kernel
theorem d_law_2284 : decode code 2284 = .ok (.invokestatic 248, 3) := by decide +kernel
theorem d_law_2287 : decode code 2287 = .ok (.istore 5, 2) := by decide +kernel
theorem d_law_2289 : decode code 2289 = .ok (.aload_n 2, 1) := by decide +kernel
theorem d_law_2290 : decode code 2290 = .ok (.aload_n 0, 1) := by decide +kernel
theorem d_law_2291 : decode code 2291 = .ok (.iload 4, 2) := by decide +kernel
theorem d_law_2293 : decode code 2293 = .ok (.iconst 1, 1) := by decide +kernel
theorem d_law_2294 : decode code 2294 = .ok (.iadd, 1) := by decide +kernel
theorem d_law_2295 : decode code 2295 = .ok (.iaload, 1) := by decide +kernel
theorem d_law_2296 : decode code 2296 = .ok (.aload_n 0, 1) := by decide +kernel
theorem d_law_2297 : decode code 2297 = .ok (.iload 4, 2) := by decide +kernel
theorem d_law_2299 : decode code 2299 = .ok (.iconst 2, 1) := by decide +kernel
theorem d_law_2300 : decode code 2300 = .ok (.iadd, 1) := by decide +kernel
theorem d_law_2301 : decode code 2301 = .ok (.iaload, 1) := by decide +kernel
theorem d_law_2302 : decode code 2302 = .ok (.aload_n 0, 1) := by decide +kernel
theorem d_law_2303 : decode code 2303 = .ok (.iload 4, 2) := by decide +kernel
theorem d_law_2305 : decode code 2305 = .ok (.iconst 3, 1) := by decide +kernel
theorem d_law_2306 : decode code 2306 = .ok (.iadd, 1) := by decide +kernel
theorem d_law_2307 : decode code 2307 = .ok (.iaload, 1) := by decide +kernel
theorem d_law_2308 : decode code 2308 = .ok (.ifCond .eq 7, 3) := by decide +kernel
theorem d_law_2311 : decode code 2311 = .ok (.iconst 1, 1) := by decide +kernel
theorem d_law_2312 : decode code 2312 = .ok (.goto 4, 3) := by decide +kernel
theorem d_law_2315 : decode code 2315 = .ok (.iconst 0, 1) := by decide +kernel
theorem d_law_2316 : decode code 2316 = .ok (.invokevirtual 250, 3) := by decide +kernel
theorem d_law_2319 : decode code 2319 = .ok (.istore 6, 2) := by decide +kernel
theorem d_law_2321 : decode code 2321 = .ok (.aload_n 2, 1) := by decide +kernel
theorem d_law_2322 : decode code 2322 = .ok (.invokevirtual 152, 3) := by decide +kernel
theorem d_law_2325 : decode code 2325 = .ok (.iload 5, 2) := by decide +kernel
theorem d_law_2327 : decode code 2327 = .ok (.if_icmp .eq 5, 3) := by decide +kernel
theorem d_law_2330 : decode code 2330 = .ok (.iconst 0, 1) := by decide +kernel
theorem d_law_2331 : decode code 2331 = .ok (.ireturn, 1) := by decide +kernel
theorem d_law_2332 : decode code 2332 = .ok (.iload 5, 2) := by decide +kernel
theorem d_law_2334 : decode code 2334 = .ok (.ifCond .ne 15, 3) := by decide +kernel
theorem d_law_2337 : decode code 2337 = .ok (.aload_n 3, 1) := by decide +kernel
theorem d_law_2338 : decode code 2338 = .ok (.iconst 0, 1) := by decide +kernel
theorem d_law_2339 : decode code 2339 = .ok (.laload, 1) := by decide +kernel
theorem d_law_2340 : decode code 2340 = .ok (.iload 6, 2) := by decide +kernel
theorem d_law_2342 : decode code 2342 = .ok (.i2l, 1) := by decide +kernel
theorem d_law_2343 : decode code 2343 = .ok (.lcmp, 1) := by decide +kernel
theorem d_law_2344 : decode code 2344 = .ok (.ifCond .eq 5, 3) := by decide +kernel
theorem d_law_2347 : decode code 2347 = .ok (.iconst 0, 1) := by decide +kernel
theorem d_law_2348 : decode code 2348 = .ok (.ireturn, 1) := by decide +kernel
theorem d_law_2349 : decode code 2349 = .ok (.goto 465, 3) := by decide +kernel
theorem d_law_2352 : decode code 2352 = .ok (.aload_n 1, 1) := by decide +kernel
theorem d_law_2353 : decode code 2353 = .ok (.aload_n 0, 1) := by decide +kernel
theorem d_law_2354 : decode code 2354 = .ok (.iload 4, 2) := by decide +kernel
theorem d_law_2356 : decode code 2356 = .ok (.iconst 1, 1) := by decide +kernel
theorem d_law_2357 : decode code 2357 = .ok (.iadd, 1) := by decide +kernel
theorem d_law_2358 : decode code 2358 = .ok (.iaload, 1) := by decide +kernel
theorem d_law_2359 : decode code 2359 = .ok (.aload_n 0, 1) := by decide +kernel
theorem d_law_2360 : decode code 2360 = .ok (.iload 4, 2) := by decide +kernel
theorem d_law_2362 : decode code 2362 = .ok (.iconst 2, 1) := by decide +kernel
theorem d_law_2363 : decode code 2363 = .ok (.iadd, 1) := by decide +kernel
theorem d_law_2364 : decode code 2364 = .ok (.iaload, 1) := by decide +kernel
theorem d_law_2365 : decode code 2365 = .ok (.ifCond .eq 7, 3) := by decide +kernel
theorem d_law_2368 : decode code 2368 = .ok (.iconst 1, 1) := by decide +kernel
theorem d_law_2369 : decode code 2369 = .ok (.goto 4, 3) := by decide +kernel
theorem d_law_2372 : decode code 2372 = .ok (.iconst 0, 1) := by decide +kernel
theorem d_law_2373 : decode code 2373 = .ok (.aload_n 3, 1) := by decide +kernel
theorem d_law_2374 : decode code 2374 = .ok (.invokestatic 251, 3) := by decide +kernel
theorem d_law_2377 : decode code 2377 = .ok (.istore 5, 2) := by decide +kernel
theorem d_law_2379 : decode code 2379 = .ok (.aload_n 2, 1) := by decide +kernel
theorem d_law_2380 : decode code 2380 = .ok (.aload_n 0, 1) := by decide +kernel
theorem d_law_2381 : decode code 2381 = .ok (.iload 4, 2) := by decide +kernel
theorem d_law_2383 : decode code 2383 = .ok (.iconst 1, 1) := by decide +kernel
theorem d_law_2384 : decode code 2384 = .ok (.iadd, 1) := by decide +kernel
theorem d_law_2385 : decode code 2385 = .ok (.iaload, 1) := by decide +kernel
theorem d_law_2386 : decode code 2386 = .ok (.aload_n 0, 1) := by decide +kernel
theorem d_law_2387 : decode code 2387 = .ok (.iload 4, 2) := by decide +kernel
theorem d_law_2389 : decode code 2389 = .ok (.iconst 2, 1) := by decide +kernel
theorem d_law_2390 : decode code 2390 = .ok (.iadd, 1) := by decide +kernel
theorem d_law_2391 : decode code 2391 = .ok (.iaload, 1) := by decide +kernel
theorem d_law_2392 : decode code 2392 = .ok (.ifCond .eq 7, 3) := by decide +kernel
theorem d_law_2395 : decode code 2395 = .ok (.iconst 1, 1) := by decide +kernel
theorem d_law_2396 : decode code 2396 = .ok (.goto 4, 3) := by decide +kernel
theorem d_law_2399 : decode code 2399 = .ok (.iconst 0, 1) := by decide +kernel
theorem d_law_2400 : decode code 2400 = .ok (.invokevirtual 253, 3) := by decide +kernel
theorem d_law_2403 : decode code 2403 = .ok (.istore 6, 2) := by decide +kernel
theorem d_law_2405 : decode code 2405 = .ok (.aload_n 2, 1) := by decide +kernel
theorem d_law_2406 : decode code 2406 = .ok (.invokevirtual 152, 3) := by decide +kernel
theorem d_law_2409 : decode code 2409 = .ok (.iload 5, 2) := by decide +kernel
theorem d_law_2411 : decode code 2411 = .ok (.if_icmp .eq 5, 3) := by decide +kernel
theorem d_law_2414 : decode code 2414 = .ok (.iconst 0, 1) := by decide +kernel
theorem d_law_2415 : decode code 2415 = .ok (.ireturn, 1) := by decide +kernel
theorem d_law_2416 : decode code 2416 = .ok (.iload 5, 2) := by decide +kernel
theorem d_law_2418 : decode code 2418 = .ok (.ifCond .ne 15, 3) := by decide +kernel
theorem d_law_2421 : decode code 2421 = .ok (.aload_n 3, 1) := by decide +kernel
theorem d_law_2422 : decode code 2422 = .ok (.iconst 0, 1) := by decide +kernel
theorem d_law_2423 : decode code 2423 = .ok (.laload, 1) := by decide +kernel
theorem d_law_2424 : decode code 2424 = .ok (.iload 6, 2) := by decide +kernel
theorem d_law_2426 : decode code 2426 = .ok (.i2l, 1) := by decide +kernel
theorem d_law_2427 : decode code 2427 = .ok (.lcmp, 1) := by decide +kernel
theorem d_law_2428 : decode code 2428 = .ok (.ifCond .eq 5, 3) := by decide +kernel
theorem d_law_2431 : decode code 2431 = .ok (.iconst 0, 1) := by decide +kernel
theorem d_law_2432 : decode code 2432 = .ok (.ireturn, 1) := by decide +kernel
theorem d_law_2433 : decode code 2433 = .ok (.goto 381, 3) := by decide +kernel
theorem d_law_2436 : decode code 2436 = .ok (.aload_n 1, 1) := by decide +kernel
theorem d_law_2437 : decode code 2437 = .ok (.aload_n 0, 1) := by decide +kernel
theorem d_law_2438 : decode code 2438 = .ok (.iload 4, 2) := by decide +kernel
theorem d_law_2440 : decode code 2440 = .ok (.iconst 1, 1) := by decide +kernel
theorem d_law_2441 : decode code 2441 = .ok (.iadd, 1) := by decide +kernel
theorem d_law_2442 : decode code 2442 = .ok (.iaload, 1) := by decide +kernel
theorem d_law_2443 : decode code 2443 = .ok (.invokevirtual 254, 3) := by decide +kernel
theorem d_law_2446 : decode code 2446 = .ok (.aload_n 2, 1) := by decide +kernel
theorem d_law_2447 : decode code 2447 = .ok (.aload_n 0, 1) := by decide +kernel
theorem d_law_2448 : decode code 2448 = .ok (.iload 4, 2) := by decide +kernel
theorem d_law_2450 : decode code 2450 = .ok (.iconst 1, 1) := by decide +kernel
theorem d_law_2451 : decode code 2451 = .ok (.iadd, 1) := by decide +kernel
theorem d_law_2452 : decode code 2452 = .ok (.iaload, 1) := by decide +kernel
theorem d_law_2453 : decode code 2453 = .ok (.invokevirtual 257, 3) := by decide +kernel
theorem d_law_2456 : decode code 2456 = .ok (.if_icmp .eq 358, 3) := by decide +kernel
theorem d_law_2459 : decode code 2459 = .ok (.iconst 0, 1) := by decide +kernel
theorem d_law_2460 : decode code 2460 = .ok (.ireturn, 1) := by decide +kernel
theorem d_law_2461 : decode code 2461 = .ok (.aload_n 1, 1) := by decide +kernel
theorem d_law_2462 : decode code 2462 = .ok (.aload_n 0, 1) := by decide +kernel
theorem d_law_2463 : decode code 2463 = .ok (.iload 4, 2) := by decide +kernel
theorem d_law_2465 : decode code 2465 = .ok (.iconst 1, 1) := by decide +kernel
theorem d_law_2466 : decode code 2466 = .ok (.iadd, 1) := by decide +kernel
theorem d_law_2467 : decode code 2467 = .ok (.iaload, 1) := by decide +kernel
theorem d_law_2468 : decode code 2468 = .ok (.aload_n 0, 1) := by decide +kernel
theorem d_law_2469 : decode code 2469 = .ok (.iload 4, 2) := by decide +kernel
theorem d_law_2471 : decode code 2471 = .ok (.iconst 2, 1) := by decide +kernel
theorem d_law_2472 : decode code 2472 = .ok (.iadd, 1) := by decide +kernel
theorem d_law_2473 : decode code 2473 = .ok (.iaload, 1) := by decide +kernel
theorem d_law_2474 : decode code 2474 = .ok (.aload_n 0, 1) := by decide +kernel
theorem d_law_2475 : decode code 2475 = .ok (.iload 4, 2) := by decide +kernel
theorem d_law_2477 : decode code 2477 = .ok (.iconst 3, 1) := by decide +kernel
theorem d_law_2478 : decode code 2478 = .ok (.iadd, 1) := by decide +kernel
theorem d_law_2479 : decode code 2479 = .ok (.iaload, 1) := by decide +kernel
theorem d_law_2480 : decode code 2480 = .ok (.aload_n 3, 1) := by decide +kernel
theorem d_law_2481 : decode code 2481 = .ok (.invokestatic 258, 3) := by decide +kernel
theorem d_law_2484 : decode code 2484 = .ok (.istore 5, 2) := by decide +kernel
theorem d_law_2486 : decode code 2486 = .ok (.aload_n 2, 1) := by decide +kernel
theorem d_law_2487 : decode code 2487 = .ok (.aload_n 0, 1) := by decide +kernel
theorem d_law_2488 : decode code 2488 = .ok (.iload 4, 2) := by decide +kernel
theorem d_law_2490 : decode code 2490 = .ok (.iconst 1, 1) := by decide +kernel
theorem d_law_2491 : decode code 2491 = .ok (.iadd, 1) := by decide +kernel
theorem d_law_2492 : decode code 2492 = .ok (.iaload, 1) := by decide +kernel
theorem d_law_2493 : decode code 2493 = .ok (.aload_n 0, 1) := by decide +kernel
theorem d_law_2494 : decode code 2494 = .ok (.iload 4, 2) := by decide +kernel
theorem d_law_2496 : decode code 2496 = .ok (.iconst 2, 1) := by decide +kernel
theorem d_law_2497 : decode code 2497 = .ok (.iadd, 1) := by decide +kernel
theorem d_law_2498 : decode code 2498 = .ok (.iaload, 1) := by decide +kernel
theorem d_law_2499 : decode code 2499 = .ok (.aload_n 0, 1) := by decide +kernel
theorem d_law_2500 : decode code 2500 = .ok (.iload 4, 2) := by decide +kernel
theorem d_law_2502 : decode code 2502 = .ok (.iconst 3, 1) := by decide +kernel
theorem d_law_2503 : decode code 2503 = .ok (.iadd, 1) := by decide +kernel
theorem d_law_2504 : decode code 2504 = .ok (.iaload, 1) := by decide +kernel
theorem d_law_2505 : decode code 2505 = .ok (.invokevirtual 260, 3) := by decide +kernel
theorem d_law_2508 : decode code 2508 = .ok (.istore 6, 2) := by decide +kernel
theorem d_law_2510 : decode code 2510 = .ok (.aload_n 2, 1) := by decide +kernel
theorem d_law_2511 : decode code 2511 = .ok (.invokevirtual 152, 3) := by decide +kernel
theorem d_law_2514 : decode code 2514 = .ok (.iload 5, 2) := by decide +kernel
theorem d_law_2516 : decode code 2516 = .ok (.if_icmp .eq 5, 3) := by decide +kernel
theorem d_law_2519 : decode code 2519 = .ok (.iconst 0, 1) := by decide +kernel
theorem d_law_2520 : decode code 2520 = .ok (.ireturn, 1) := by decide +kernel
theorem d_law_2521 : decode code 2521 = .ok (.iload 5, 2) := by decide +kernel
theorem d_law_2523 : decode code 2523 = .ok (.ifCond .ne 15, 3) := by decide +kernel
theorem d_law_2526 : decode code 2526 = .ok (.aload_n 3, 1) := by decide +kernel
theorem d_law_2527 : decode code 2527 = .ok (.iconst 0, 1) := by decide +kernel
theorem d_law_2528 : decode code 2528 = .ok (.laload, 1) := by decide +kernel
theorem d_law_2529 : decode code 2529 = .ok (.iload 6, 2) := by decide +kernel
theorem d_law_2531 : decode code 2531 = .ok (.i2l, 1) := by decide +kernel
theorem d_law_2532 : decode code 2532 = .ok (.lcmp, 1) := by decide +kernel
theorem d_law_2533 : decode code 2533 = .ok (.ifCond .eq 5, 3) := by decide +kernel
theorem d_law_2536 : decode code 2536 = .ok (.iconst 0, 1) := by decide +kernel
theorem d_law_2537 : decode code 2537 = .ok (.ireturn, 1) := by decide +kernel
theorem d_law_2538 : decode code 2538 = .ok (.goto 276, 3) := by decide +kernel
theorem d_law_2541 : decode code 2541 = .ok (.aload_n 1, 1) := by decide +kernel
theorem d_law_2542 : decode code 2542 = .ok (.aload_n 0, 1) := by decide +kernel
theorem d_law_2543 : decode code 2543 = .ok (.iload 4, 2) := by decide +kernel
theorem d_law_2545 : decode code 2545 = .ok (.iconst 1, 1) := by decide +kernel
theorem d_law_2546 : decode code 2546 = .ok (.iadd, 1) := by decide +kernel
theorem d_law_2547 : decode code 2547 = .ok (.iaload, 1) := by decide +kernel
theorem d_law_2548 : decode code 2548 = .ok (.aload_n 3, 1) := by decide +kernel
theorem d_law_2549 : decode code 2549 = .ok (.invokestatic 261, 3) := by decide +kernel
theorem d_law_2552 : decode code 2552 = .ok (.istore 5, 2) := by decide +kernel
theorem d_law_2554 : decode code 2554 = .ok (.aload_n 2, 1) := by decide +kernel
theorem d_law_2555 : decode code 2555 = .ok (.aload_n 0, 1) := by decide +kernel
theorem d_law_2556 : decode code 2556 = .ok (.iload 4, 2) := by decide +kernel
theorem d_law_2558 : decode code 2558 = .ok (.iconst 1, 1) := by decide +kernel
theorem d_law_2559 : decode code 2559 = .ok (.iadd, 1) := by decide +kernel
theorem d_law_2560 : decode code 2560 = .ok (.iaload, 1) := by decide +kernel
theorem d_law_2561 : decode code 2561 = .ok (.invokevirtual 263, 3) := by decide +kernel
theorem d_law_2564 : decode code 2564 = .ok (.istore 6, 2) := by decide +kernel
theorem d_law_2566 : decode code 2566 = .ok (.aload_n 2, 1) := by decide +kernel
theorem d_law_2567 : decode code 2567 = .ok (.invokevirtual 152, 3) := by decide +kernel
theorem d_law_2570 : decode code 2570 = .ok (.iload 5, 2) := by decide +kernel
theorem d_law_2572 : decode code 2572 = .ok (.if_icmp .eq 5, 3) := by decide +kernel
theorem d_law_2575 : decode code 2575 = .ok (.iconst 0, 1) := by decide +kernel
theorem d_law_2576 : decode code 2576 = .ok (.ireturn, 1) := by decide +kernel
theorem d_law_2577 : decode code 2577 = .ok (.iload 5, 2) := by decide +kernel
theorem d_law_2579 : decode code 2579 = .ok (.ifCond .ne 15, 3) := by decide +kernel
theorem d_law_2582 : decode code 2582 = .ok (.aload_n 3, 1) := by decide +kernel
theorem d_law_2583 : decode code 2583 = .ok (.iconst 0, 1) := by decide +kernel
theorem d_law_2584 : decode code 2584 = .ok (.laload, 1) := by decide +kernel
theorem d_law_2585 : decode code 2585 = .ok (.iload 6, 2) := by decide +kernel
theorem d_law_2587 : decode code 2587 = .ok (.i2l, 1) := by decide +kernel
theorem d_law_2588 : decode code 2588 = .ok (.lcmp, 1) := by decide +kernel
theorem d_law_2589 : decode code 2589 = .ok (.ifCond .eq 5, 3) := by decide +kernel
theorem d_law_2592 : decode code 2592 = .ok (.iconst 0, 1) := by decide +kernel
theorem d_law_2593 : decode code 2593 = .ok (.ireturn, 1) := by decide +kernel
theorem d_law_2594 : decode code 2594 = .ok (.goto 220, 3) := by decide +kernel
theorem d_law_2597 : decode code 2597 = .ok (.aload_n 1, 1) := by decide +kernel
theorem d_law_2598 : decode code 2598 = .ok (.aload_n 0, 1) := by decide +kernel
theorem d_law_2599 : decode code 2599 = .ok (.iload 4, 2) := by decide +kernel
theorem d_law_2601 : decode code 2601 = .ok (.iconst 1, 1) := by decide +kernel
theorem d_law_2602 : decode code 2602 = .ok (.iadd, 1) := by decide +kernel
theorem d_law_2603 : decode code 2603 = .ok (.iaload, 1) := by decide +kernel
theorem d_law_2604 : decode code 2604 = .ok (.aload_n 3, 1) := by decide +kernel
theorem d_law_2605 : decode code 2605 = .ok (.invokestatic 264, 3) := by decide +kernel
theorem d_law_2608 : decode code 2608 = .ok (.istore 5, 2) := by decide +kernel
theorem d_law_2610 : decode code 2610 = .ok (.aload_n 2, 1) := by decide +kernel
theorem d_law_2611 : decode code 2611 = .ok (.aload_n 0, 1) := by decide +kernel
theorem d_law_2612 : decode code 2612 = .ok (.iload 4, 2) := by decide +kernel
theorem d_law_2614 : decode code 2614 = .ok (.iconst 1, 1) := by decide +kernel
theorem d_law_2615 : decode code 2615 = .ok (.iadd, 1) := by decide +kernel
theorem d_law_2616 : decode code 2616 = .ok (.iaload, 1) := by decide +kernel
theorem d_law_2617 : decode code 2617 = .ok (.invokevirtual 266, 3) := by decide +kernel
theorem d_law_2620 : decode code 2620 = .ok (.istore 6, 2) := by decide +kernel
theorem d_law_2622 : decode code 2622 = .ok (.aload_n 2, 1) := by decide +kernel
theorem d_law_2623 : decode code 2623 = .ok (.invokevirtual 152, 3) := by decide +kernel
theorem d_law_2626 : decode code 2626 = .ok (.iload 5, 2) := by decide +kernel
theorem d_law_2628 : decode code 2628 = .ok (.if_icmp .eq 5, 3) := by decide +kernel
theorem d_law_2631 : decode code 2631 = .ok (.iconst 0, 1) := by decide +kernel
theorem d_law_2632 : decode code 2632 = .ok (.ireturn, 1) := by decide +kernel
theorem d_law_2633 : decode code 2633 = .ok (.iload 5, 2) := by decide +kernel
theorem d_law_2635 : decode code 2635 = .ok (.ifCond .ne 15, 3) := by decide +kernel
theorem d_law_2638 : decode code 2638 = .ok (.aload_n 3, 1) := by decide +kernel
theorem d_law_2639 : decode code 2639 = .ok (.iconst 0, 1) := by decide +kernel
theorem d_law_2640 : decode code 2640 = .ok (.laload, 1) := by decide +kernel
theorem d_law_2641 : decode code 2641 = .ok (.iload 6, 2) := by decide +kernel
theorem d_law_2643 : decode code 2643 = .ok (.i2l, 1) := by decide +kernel
theorem d_law_2644 : decode code 2644 = .ok (.lcmp, 1) := by decide +kernel
theorem d_law_2645 : decode code 2645 = .ok (.ifCond .eq 5, 3) := by decide +kernel
theorem d_law_2648 : decode code 2648 = .ok (.iconst 0, 1) := by decide +kernel
theorem d_law_2649 : decode code 2649 = .ok (.ireturn, 1) := by decide +kernel
theorem d_law_2650 : decode code 2650 = .ok (.goto 164, 3) := by decide +kernel
theorem d_law_2653 : decode code 2653 = .ok (.aload_n 1, 1) := by decide +kernel
theorem d_law_2654 : decode code 2654 = .ok (.aload_n 0, 1) := by decide +kernel
theorem d_law_2655 : decode code 2655 = .ok (.iload 4, 2) := by decide +kernel
theorem d_law_2657 : decode code 2657 = .ok (.iconst 1, 1) := by decide +kernel
theorem d_law_2658 : decode code 2658 = .ok (.iadd, 1) := by decide +kernel
theorem d_law_2659 : decode code 2659 = .ok (.iaload, 1) := by decide +kernel
theorem d_law_2660 : decode code 2660 = .ok (.aload_n 0, 1) := by decide +kernel
theorem d_law_2661 : decode code 2661 = .ok (.iload 4, 2) := by decide +kernel
theorem d_law_2663 : decode code 2663 = .ok (.iconst 2, 1) := by decide +kernel
theorem d_law_2664 : decode code 2664 = .ok (.iadd, 1) := by decide +kernel
theorem d_law_2665 : decode code 2665 = .ok (.iaload, 1) := by decide +kernel
theorem d_law_2666 : decode code 2666 = .ok (.aload_n 3, 1) := by decide +kernel
theorem d_law_2667 : decode code 2667 = .ok (.invokestatic 267, 3) := by decide +kernel
theorem d_law_2670 : decode code 2670 = .ok (.istore 5, 2) := by decide +kernel
theorem d_law_2672 : decode code 2672 = .ok (.aload_n 2, 1) := by decide +kernel
theorem d_law_2673 : decode code 2673 = .ok (.aload_n 0, 1) := by decide +kernel
theorem d_law_2674 : decode code 2674 = .ok (.iload 4, 2) := by decide +kernel
theorem d_law_2676 : decode code 2676 = .ok (.iconst 1, 1) := by decide +kernel
theorem d_law_2677 : decode code 2677 = .ok (.iadd, 1) := by decide +kernel
theorem d_law_2678 : decode code 2678 = .ok (.iaload, 1) := by decide +kernel
theorem d_law_2679 : decode code 2679 = .ok (.aload_n 0, 1) := by decide +kernel
theorem d_law_2680 : decode code 2680 = .ok (.iload 4, 2) := by decide +kernel
theorem d_law_2682 : decode code 2682 = .ok (.iconst 2, 1) := by decide +kernel
theorem d_law_2683 : decode code 2683 = .ok (.iadd, 1) := by decide +kernel
theorem d_law_2684 : decode code 2684 = .ok (.iaload, 1) := by decide +kernel
theorem d_law_2685 : decode code 2685 = .ok (.invokevirtual 269, 3) := by decide +kernel
theorem d_law_2688 : decode code 2688 = .ok (.istore 6, 2) := by decide +kernel
theorem d_law_2690 : decode code 2690 = .ok (.aload_n 2, 1) := by decide +kernel
theorem d_law_2691 : decode code 2691 = .ok (.invokevirtual 152, 3) := by decide +kernel
theorem d_law_2694 : decode code 2694 = .ok (.iload 5, 2) := by decide +kernel
theorem d_law_2696 : decode code 2696 = .ok (.if_icmp .eq 5, 3) := by decide +kernel
theorem d_law_2699 : decode code 2699 = .ok (.iconst 0, 1) := by decide +kernel
theorem d_law_2700 : decode code 2700 = .ok (.ireturn, 1) := by decide +kernel
theorem d_law_2701 : decode code 2701 = .ok (.iload 5, 2) := by decide +kernel
theorem d_law_2703 : decode code 2703 = .ok (.ifCond .ne 15, 3) := by decide +kernel
theorem d_law_2706 : decode code 2706 = .ok (.aload_n 3, 1) := by decide +kernel
theorem d_law_2707 : decode code 2707 = .ok (.iconst 0, 1) := by decide +kernel
theorem d_law_2708 : decode code 2708 = .ok (.laload, 1) := by decide +kernel
theorem d_law_2709 : decode code 2709 = .ok (.iload 6, 2) := by decide +kernel
theorem d_law_2711 : decode code 2711 = .ok (.i2l, 1) := by decide +kernel
theorem d_law_2712 : decode code 2712 = .ok (.lcmp, 1) := by decide +kernel
theorem d_law_2713 : decode code 2713 = .ok (.ifCond .eq 5, 3) := by decide +kernel
theorem d_law_2716 : decode code 2716 = .ok (.iconst 0, 1) := by decide +kernel
theorem d_law_2717 : decode code 2717 = .ok (.ireturn, 1) := by decide +kernel
theorem d_law_2718 : decode code 2718 = .ok (.goto 96, 3) := by decide +kernel
theorem d_law_2721 : decode code 2721 = .ok (.aload_n 1, 1) := by decide +kernel
theorem d_law_2722 : decode code 2722 = .ok (.aload_n 3, 1) := by decide +kernel
theorem d_law_2723 : decode code 2723 = .ok (.invokestatic 270, 3) := by decide +kernel
theorem d_law_2726 : decode code 2726 = .ok (.istore 5, 2) := by decide +kernel
theorem d_law_2728 : decode code 2728 = .ok (.aload_n 2, 1) := by decide +kernel
theorem d_law_2729 : decode code 2729 = .ok (.invokevirtual 272, 3) := by decide +kernel
theorem d_law_2732 : decode code 2732 = .ok (.istore 6, 2) := by decide +kernel
theorem d_law_2734 : decode code 2734 = .ok (.aload_n 2, 1) := by decide +kernel
theorem d_law_2735 : decode code 2735 = .ok (.invokevirtual 152, 3) := by decide +kernel
theorem d_law_2738 : decode code 2738 = .ok (.iload 5, 2) := by decide +kernel
theorem d_law_2740 : decode code 2740 = .ok (.if_icmp .eq 5, 3) := by decide +kernel
theorem d_law_2743 : decode code 2743 = .ok (.iconst 0, 1) := by decide +kernel
theorem d_law_2744 : decode code 2744 = .ok (.ireturn, 1) := by decide +kernel
theorem d_law_2745 : decode code 2745 = .ok (.iload 5, 2) := by decide +kernel
theorem d_law_2747 : decode code 2747 = .ok (.ifCond .ne 15, 3) := by decide +kernel
theorem d_law_2750 : decode code 2750 = .ok (.aload_n 3, 1) := by decide +kernel
theorem d_law_2751 : decode code 2751 = .ok (.iconst 0, 1) := by decide +kernel
theorem d_law_2752 : decode code 2752 = .ok (.laload, 1) := by decide +kernel
theorem d_law_2753 : decode code 2753 = .ok (.iload 6, 2) := by decide +kernel
theorem d_law_2755 : decode code 2755 = .ok (.i2l, 1) := by decide +kernel
theorem d_law_2756 : decode code 2756 = .ok (.lcmp, 1) := by decide +kernel
theorem d_law_2757 : decode code 2757 = .ok (.ifCond .eq 5, 3) := by decide +kernel
theorem d_law_2760 : decode code 2760 = .ok (.iconst 0, 1) := by decide +kernel
theorem d_law_2761 : decode code 2761 = .ok (.ireturn, 1) := by decide +kernel
theorem d_law_2762 : decode code 2762 = .ok (.goto 52, 3) := by decide +kernel
theorem d_law_2765 : decode code 2765 = .ok (.aload_n 1, 1) := by decide +kernel
theorem d_law_2766 : decode code 2766 = .ok (.invokevirtual 273, 3) := by decide +kernel
theorem d_law_2769 : decode code 2769 = .ok (.aload_n 2, 1) := by decide +kernel
theorem d_law_2770 : decode code 2770 = .ok (.invokevirtual 276, 3) := by decide +kernel
theorem d_law_2773 : decode code 2773 = .ok (.goto 41, 3) := by decide +kernel
theorem d_law_2776 : decode code 2776 = .ok (.aload_n 1, 1) := by decide +kernel
theorem d_law_2777 : decode code 2777 = .ok (.invokevirtual 277, 3) := by decide +kernel
theorem d_law_2780 : decode code 2780 = .ok (.aload_n 2, 1) := by decide +kernel
theorem d_law_2781 : decode code 2781 = .ok (.invokevirtual 281, 3) := by decide +kernel
theorem d_law_2784 : decode code 2784 = .ok (.if_icmp .eq 30, 3) := by decide +kernel
theorem d_law_2787 : decode code 2787 = .ok (.iconst 0, 1) := by decide +kernel
theorem d_law_2788 : decode code 2788 = .ok (.ireturn, 1) := by decide +kernel
theorem d_law_2789 : decode code 2789 = .ok (.aload_n 1, 1) := by decide +kernel
theorem d_law_2790 : decode code 2790 = .ok (.aload_n 0, 1) := by decide +kernel
theorem d_law_2791 : decode code 2791 = .ok (.iload 4, 2) := by decide +kernel
theorem d_law_2793 : decode code 2793 = .ok (.iconst 1, 1) := by decide +kernel
theorem d_law_2794 : decode code 2794 = .ok (.iadd, 1) := by decide +kernel
theorem d_law_2795 : decode code 2795 = .ok (.iaload, 1) := by decide +kernel
theorem d_law_2796 : decode code 2796 = .ok (.invokevirtual 282, 3) := by decide +kernel
theorem d_law_2799 : decode code 2799 = .ok (.aload_n 2, 1) := by decide +kernel
theorem d_law_2800 : decode code 2800 = .ok (.aload_n 0, 1) := by decide +kernel
theorem d_law_2801 : decode code 2801 = .ok (.iload 4, 2) := by decide +kernel
theorem d_law_2803 : decode code 2803 = .ok (.iconst 1, 1) := by decide +kernel
theorem d_law_2804 : decode code 2804 = .ok (.iadd, 1) := by decide +kernel
theorem d_law_2805 : decode code 2805 = .ok (.iaload, 1) := by decide +kernel
theorem d_law_2806 : decode code 2806 = .ok (.invokevirtual 285, 3) := by decide +kernel
theorem d_law_2809 : decode code 2809 = .ok (.if_icmp .eq 5, 3) := by decide +kernel
theorem d_law_2812 : decode code 2812 = .ok (.iconst 0, 1) := by decide +kernel
theorem d_law_2813 : decode code 2813 = .ok (.ireturn, 1) := by decide +kernel
theorem d_law_2814 : decode code 2814 = .ok (.iinc 4 6, 3) := by decide +kernel
theorem d_law_2817 : decode code 2817 = .ok (.goto (-2794), 3) := by decide +kernel
theorem d_law_2820 : decode code 2820 = .ok (.iconst 1, 1) := by decide +kernel
theorem d_law_2821 : decode code 2821 = .ok (.ireturn, 1) := by decide +kernel
def Sc (s : State) (A : Nat → Prop) (b L : Nat) (xs : Nat → Int32) : Prop := va_X b L xs s s.heap ∧ b < s.heap.size ∧ ¬ A b ∧ L ≤ 3072
section ML
variable {p : Program} {l : Launch} {e : Env} {R : Room} {s : State} {m : MethodId} {args : Array Value} {below : List Frame} {meth : Method} {c : Code} {H : Heap} {locs : List Loc} {cells slots : Nat} {Q : State → Prop}
variable {cc : ByteArray} {nL pc : Nat} {ls : Array Slot} {rest : List Value} {own : String} {D : va_G} {ad : Nat → Nat} {cA : Nat → ClassId} {sd sv : Nat → Nat} {A : Nat → Prop} {h : Hp} {b L : Nat} {xs : Nat → Int32}
theorem m_sld (C : Cx p s m args c cc nL own D ad cA sd sv A) (X : Sc s A b L xs) (w : Wd s D ad cA A h H locs) {i : Int} {α : Type} {out : α} {f : Int → Option α} (hM : (rdX xs L i).bind f = some out) (d : decode cc pc = .ok (.iaload, 1)) (kk : ∀ x : Int, f x = some out → W p l e R s m args below meth c H locs cells slots Q (F0 m (pc + 1) ls (.int (iZ x) :: rest))) : W p l e R s m args below meth c H locs cells slots Q (F0 m pc ls (.int (iZ i) :: .ref b :: rest)) := by
  unfold rdX at hM
  by_cases hi : 0 ≤ i ∧ i < (L : Int)
  · rw [if_pos hi] at hM
    obtain ⟨h1, h2⟩ := iZ_inb hi (by have := X.2.2.2; omega)
    refine va_sld C.1 C.2.1 X.1 X.2.1 X.2.2.1 w.2 h1 d ?_
    rw [h2]
    have := kk _ hM
    rwa [iZ_toInt] at this
  · rw [if_neg hi] at hM
    cases hM
theorem m_slen (C : Cx p s m args c cc nL own D ad cA sd sv A) (X : Sc s A b L xs) (w : Wd s D ad cA A h H locs) (d : decode cc pc = .ok (.arraylength, 1)) (kk : W p l e R s m args below meth c H locs cells slots Q (F0 m (pc + 1) ls (.int (iZ (L : Int)) :: rest))) : W p l e R s m args below meth c H locs cells slots Q (F0 m pc ls (.ref b :: rest)) := by
  refine va_slen C.1 C.2.1 X.1 X.2.1 X.2.2.1 w.2 d ?_
  rw [iZ_nat]
  exact kk
theorem m_lald (C : Cx p s m args c cc nL own D ad cA sd sv A) (w : Wd s D ad cA A h H locs) (d : decode cc pc = .ok (.laload, 1)) (kk : W p l e R s m args below meth c H locs cells slots Q (F0 m (pc + 1) ls (.long (Int64.ofInt (h 96 0)) :: rest))) : W p l e R s m args below meth c H locs cells slots Q (F0 m pc ls (.int (iZ 0) :: .ref (ad 96) :: rest)) :=
  va_lald (D := D) C.1 C.2.1 C.2.2.2.2.2.1 w.1 96 3 (cA := cA 3) (n := 1) (f := fun k => Int64.ofInt (h 96 k)) (by rw [wl_at ad cA h (by decide), ent_l sh_96]) rfl (i := iZ 0) (vp_in_iff.mpr (by decide)) d kk
theorem m_lceq (C : Cx p s m args c cc nL own D ad cA sd sv A) {u v : Int} {α : Type} {out : α} {off : Int} {x y : Option α} (hM : (if eqL u v then x else y) = some out) (tgt : Nat) (d1 : decode cc pc = .ok (.lcmp, 1)) (d2 : decode cc (pc + 1) = .ok (.ifCond .eq off, 3)) (ht : ((pc + 1 : Nat) : Int) + off = (tgt : Int)) (kt : x = some out → W p l e R s m args below meth c H locs cells slots Q (F0 m tgt ls rest)) (kf : y = some out → W p l e R s m args below meth c H locs cells slots Q (F0 m (pc + 1 + 3) ls rest)) : W p l e R s m args below meth c H locs cells slots Q (F0 m pc ls (.long (Int64.ofInt v) :: .long (Int64.ofInt u) :: rest)) := by
  refine W.lcmp C.1 C.2.1 d1 ?_
  refine lv_if_eq C.1 C.2.1 d2 ht (fun hc => kt ?_) (fun hc => kf ?_)
  · rwa [if_pos (show eqL u v = true from decide_eq_true ((lg_cmp_eq _ _).mp hc))] at hM
  · rwa [if_neg (show ¬ eqL u v = true from fun z => hc ((lg_cmp_eq _ _).mpr (of_decide_eq_true z)))] at hM
theorem m_b01 (C : Cx p s m args c cc nL own D ad cA sd sv A) {a : Int} (d1 : decode cc pc = .ok (.ifCond .eq 7, 3)) (d2 : decode cc (pc + 3) = .ok (.iconst 1, 1)) (d3 : decode cc (pc + 4) = .ok (.goto 4, 3)) (d4 : decode cc (pc + 7) = .ok (.iconst 0, 1)) (kk : W p l e R s m args below meth c H locs cells slots Q (F0 m (pc + 8) ls (.int (iZ (bz01 a)) :: rest))) : W p l e R s m args below meth c H locs cells slots Q (F0 m pc ls (.int (iZ a) :: rest)) := by
  refine lv_if_eq C.1 C.2.1 d1 (tgt := pc + 7) (by omega) (fun hc => ?_) (fun hc => ?_)
  · refine m_iconst C d4 ?_
    rwa [show bz01 a = 0 from if_pos (decide_eq_true hc)] at kk
  · refine m_iconst C d2 ?_
    refine m_goto C (pc + 8) d3 (by omega) ?_
    rwa [show bz01 a = 1 from if_neg (fun z => hc (of_decide_eq_true z))] at kk
theorem m_bl01 (C : Cx p s m args c cc nL own D ad cA sd sv A) {a : Int} (d1 : decode cc pc = .ok (.ifCond .eq 7, 3)) (d2 : decode cc (pc + 3) = .ok (.lconst 1, 1)) (d3 : decode cc (pc + 4) = .ok (.goto 4, 3)) (d4 : decode cc (pc + 7) = .ok (.lconst 0, 1)) (kk : W p l e R s m args below meth c H locs cells slots Q (F0 m (pc + 8) ls (.long (Int64.ofInt (bz01 a)) :: rest))) : W p l e R s m args below meth c H locs cells slots Q (F0 m pc ls (.int (iZ a) :: rest)) := by
  refine lv_if_eq C.1 C.2.1 d1 (tgt := pc + 7) (by omega) (fun hc => ?_) (fun hc => ?_)
  · refine lv_lconst (v := Int64.ofInt 0) C.1 C.2.1 d4 (by decide) ?_
    rwa [show bz01 a = 0 from if_pos (decide_eq_true hc)] at kk
  · refine lv_lconst (v := Int64.ofInt 1) C.1 C.2.1 d2 (by decide) ?_
    refine m_goto C (pc + 8) d3 (by omega) ?_
    rwa [show bz01 a = 1 from if_neg (fun z => hc (of_decide_eq_true z))] at kk
theorem good_SW {own : String} {idx maxL : Nat} {y : MethodName} {bytes : ByteArray} {ret : Option FieldType} {hh : List (Nat × Nat × Nat × Nat)} (hl : Cond.methodLink own idx y ∈ TT) (h1 : Cond.static y ∈ TT) (h2 : Cond.initialized y.cls ∈ TT) (h3 : Cond.codeWith y bytes maxL ret hh ∈ TT) : GoodIn TT (va_wsS own idx y (.codeWith y bytes maxL ret hh :: TT)) := by
  intro w hw
  unfold va_wsS at hw
  simp only [List.cons_append, List.nil_append, List.mem_cons] at hw
  rcases hw with e | e | e | e | e
  · rw [e]; exact gd1 hl
  · rw [e]; exact gd1 h1
  · rw [e]; exact gd1 h2
  · rw [e]; exact gd1 h3
  · exact gd1 e
theorem runSW (C : Cx p s m args c cc nL own D ad cA sd sv A) (hP : va_P D clL (wl ad cA h) H) (hS : va_S A s.heap H locs) {n idx maxL d' mc' ms' : Nat} {y : MethodName} {bytes : ByteArray} {ret : Option FieldType} {hh : List (Nat × Nat × Nat × Nat)} {As : List Value} {Qc : Array Value → State → Outcome → State → Prop} {free : Addr → Prop}
    (hMet : Met l y (.codeWith y bytes maxL ret hh :: TT) (rmX d' mc' ms') (PC D ad cA sd sv h As) Qc mc' ms' free) (hl : Cond.methodLink own idx y ∈ TT) (h1 : Cond.static y ∈ TT) (h2 : Cond.initialized y.cls ∈ TT) (h3 : Cond.codeWith y bytes maxL ret hh ∈ TT) (hd : y.cls ≠ "java/lang/invoke/MethodHandle" ∧ y.cls ≠ "java/lang/invoke/VarHandle" ∧ (parseMethodDescriptor y.desc).map (fun d => d.parameters.length) = some n) (hn : As.length = n) (hR : d' + 1 ≤ R.frames ∧ 8 + (maxL + 11) + (rmX d' mc' ms').locals ≤ R.locals) (hcs : cells + mc' ≤ R.cells ∧ slots + ms' ≤ R.slots) (hcat : (rest.map fun v => v.category).sum ≤ 8) (d : decode cc pc = .ok (.invokestatic idx, 3)) (hsz : ls.size = nL) {st : List Value} (hst : st = As.reverse ++ rest) :
    va_Run p l e R s m args below meth c H locs cells slots mc' ms' (F0 m pc ls st) rest (Qc As.toArray) free :=
  vx_runSW (As := As) (rest := rest) (hh := hh) ⟨C.1, C.2.1, C.2.2.1, C.2.2.2.1, C.2.2.2.2.1⟩ hMet (vx_cwSW n C.2.2.2.2.1 (good_SW hl h1 h2 h3) rfl rfl rfl hd hR) ⟨PC.blind, fun U hU hW => ⟨rfl, by rw [hU]; exact hP, va_K.moved hW.alike C.2.2.2.2.2.1, C.2.2.2.2.2.2.2.to hS hW hU (FA_A C)⟩⟩ rfl hn hsz hst (lv_room hcat) d hcs
theorem aftW (C : Cx p s m args c cc nL own D ad cA sd sv A) (w : Wd s D ad cA A h H locs) {a : Array Value} {st0 : List Value} {out : Int × Hp} {mc' ms' c1 s1 : Nat} (hr : va_Run p l e R s m args below meth c H locs cells slots mc' ms' (F0 m pc ls st0) rest (QI D ad cA out a) (FA ad)) (hc : cells + mc' ≤ c1) (hs : slots + ms' ≤ s1) (kk : ∀ (H : Heap) (locs : List Loc), Wd s D ad cA A out.2 H locs → W p l e R s m args below meth c H locs c1 s1 Q (F0 m (pc + 3) ls (.int (iZ out.1) :: rest))) : W p l e R s m args below meth c H locs cells slots Q (F0 m pc ls st0) :=
  va_calli hr w.2 (fun q _ hq => FA_A C q hq) (FA_A C) (fun r _ t H1 locs1 ht _ hp hB _ _ hS => by rw [show r = iZ out.1 from hp]; exact W.widen hc hs (kk H1 locs1 ⟨by rw [← ht]; exact hB, hS⟩))
end ML
theorem mb_FB_back : MBv R_FB y_FB_back prog_1_method_43_code 1 (some .boolean) 0 := ⟨mT2 239 (by decide +kernel) (by decide +kernel), mT3 0 (by decide +kernel) (by decide +kernel), mT1 1 (by decide +kernel) (by decide +kernel), mT3 1 (by decide +kernel) (by decide +kernel), by decide, rfl, by decide +kernel, by decide +kernel, by decide +kernel⟩
theorem mb_FB_count : MBv R_FB y_FB_count prog_1_method_44_code 2 (some .int) 1 := ⟨mT3 63 (by decide +kernel) (by decide +kernel), mT3 64 (by decide +kernel) (by decide +kernel), mT1 1 (by decide +kernel) (by decide +kernel), mT3 65 (by decide +kernel) (by decide +kernel), by decide, rfl, by decide +kernel, by decide +kernel, by decide +kernel⟩
theorem mb_FB_end : MBv R_FB y_FB_end prog_1_method_3_code 2 (some .boolean) 1 := ⟨mT2 206 (by decide +kernel) (by decide +kernel), mT2 207 (by decide +kernel) (by decide +kernel), mT1 1 (by decide +kernel) (by decide +kernel), mT2 208 (by decide +kernel) (by decide +kernel), by decide, rfl, by decide +kernel, by decide +kernel, by decide +kernel⟩
theorem mb_FB_fault : MBv R_FB y_FB_fault prog_1_method_5_code 1 (some .int) 0 := ⟨mT2 210 (by decide +kernel) (by decide +kernel), mT2 211 (by decide +kernel) (by decide +kernel), mT1 1 (by decide +kernel) (by decide +kernel), mT2 212 (by decide +kernel) (by decide +kernel), by decide, rfl, by decide +kernel, by decide +kernel, by decide +kernel⟩
theorem mb_FB_feed : MBv R_FB y_FB_feed prog_1_method_2_code 6 (some .int) 5 := ⟨mT2 194 (by decide +kernel) (by decide +kernel), mT2 195 (by decide +kernel) (by decide +kernel), mT1 1 (by decide +kernel) (by decide +kernel), mT2 196 (by decide +kernel) (by decide +kernel), by decide, rfl, by decide +kernel, by decide +kernel, by decide +kernel⟩
theorem mb_FB_image : MBv R_FB y_FB_image prog_1_method_42_code 1 none 0 := ⟨mT2 218 (by decide +kernel) (by decide +kernel), mT2 219 (by decide +kernel) (by decide +kernel), mT1 1 (by decide +kernel) (by decide +kernel), mT2 220 (by decide +kernel) (by decide +kernel), by decide, rfl, by decide +kernel, by decide +kernel, by decide +kernel⟩
theorem mb_FB_order : MBv R_FB y_FB_order prog_1_method_36_code 2 (some .int) 1 := ⟨mT2 214 (by decide +kernel) (by decide +kernel), mT2 215 (by decide +kernel) (by decide +kernel), mT1 1 (by decide +kernel) (by decide +kernel), mT2 216 (by decide +kernel) (by decide +kernel), by decide, rfl, by decide +kernel, by decide +kernel, by decide +kernel⟩
theorem mb_Md_alike : MBv R_Md y_Md_alike prog_13_method_95_code 3 (some .boolean) 2 := ⟨mT10 82 (by decide +kernel) (by decide +kernel), mT10 83 (by decide +kernel) (by decide +kernel), mT1 10 (by decide +kernel) (by decide +kernel), mT10 84 (by decide +kernel) (by decide +kernel), by decide, rfl, by decide +kernel, by decide +kernel, by decide +kernel⟩
theorem mb_Md_back : MBv R_Md y_Md_back prog_13_method_111_code 2 (some .boolean) 0 := ⟨mT10 150 (by decide +kernel) (by decide +kernel), mT10 151 (by decide +kernel) (by decide +kernel), mT1 10 (by decide +kernel) (by decide +kernel), mT10 152 (by decide +kernel) (by decide +kernel), by decide, rfl, by decide +kernel, by decide +kernel, by decide +kernel⟩
theorem mb_Md_base : MBv R_Md y_Md_base prog_13_method_67_code 4 (some .int) 3 := ⟨mT9 207 (by decide +kernel) (by decide +kernel), mT9 208 (by decide +kernel) (by decide +kernel), mT1 10 (by decide +kernel) (by decide +kernel), mT9 209 (by decide +kernel) (by decide +kernel), by decide, rfl, by decide +kernel, by decide +kernel, by decide +kernel⟩
theorem mb_Md_beats : MBv R_Md y_Md_beats prog_13_method_88_code 3 (some .boolean) 2 := ⟨mT10 58 (by decide +kernel) (by decide +kernel), mT10 59 (by decide +kernel) (by decide +kernel), mT1 10 (by decide +kernel) (by decide +kernel), mT10 60 (by decide +kernel) (by decide +kernel), by decide, rfl, by decide +kernel, by decide +kernel, by decide +kernel⟩
theorem mb_Md_better : MBv R_Md y_Md_better prog_13_method_108_code 12 (some .int) 3 := ⟨mT10 130 (by decide +kernel) (by decide +kernel), mT10 131 (by decide +kernel) (by decide +kernel), mT1 10 (by decide +kernel) (by decide +kernel), mT10 132 (by decide +kernel) (by decide +kernel), by decide, rfl, by decide +kernel, by decide +kernel, by decide +kernel⟩
theorem mb_Md_book : MBv R_Md y_Md_book prog_13_method_55_code 2 (some .int) 0 := ⟨mT8 192 (by decide +kernel) (by decide +kernel), mT8 193 (by decide +kernel) (by decide +kernel), mT1 10 (by decide +kernel) (by decide +kernel), mT8 194 (by decide +kernel) (by decide +kernel), by decide, rfl, by decide +kernel, by decide +kernel, by decide +kernel⟩
theorem mb_Md_count : MBv R_Md y_Md_count prog_13_method_112_code 2 (some .int) 1 := ⟨mT10 154 (by decide +kernel) (by decide +kernel), mT10 155 (by decide +kernel) (by decide +kernel), mT1 10 (by decide +kernel) (by decide +kernel), mT10 156 (by decide +kernel) (by decide +kernel), by decide, rfl, by decide +kernel, by decide +kernel, by decide +kernel⟩
theorem mb_Md_course : MBv R_Md y_Md_course prog_13_method_103_code 6 (some .int) 1 := ⟨mT10 110 (by decide +kernel) (by decide +kernel), mT10 111 (by decide +kernel) (by decide +kernel), mT1 10 (by decide +kernel) (by decide +kernel), mT10 112 (by decide +kernel) (by decide +kernel), by decide, rfl, by decide +kernel, by decide +kernel, by decide +kernel⟩
theorem mb_Md_cycle : MBv R_Md y_Md_cycle prog_13_method_83_code 1 (some .int) 0 := ⟨mT10 31 (by decide +kernel) (by decide +kernel), mT10 32 (by decide +kernel) (by decide +kernel), mT1 10 (by decide +kernel) (by decide +kernel), mT10 33 (by decide +kernel) (by decide +kernel), by decide, rfl, by decide +kernel, by decide +kernel, by decide +kernel⟩
theorem mb_Md_day : MBv R_Md y_Md_day prog_13_method_64_code 4 (some .int) 3 := ⟨mT9 187 (by decide +kernel) (by decide +kernel), mT9 188 (by decide +kernel) (by decide +kernel), mT1 10 (by decide +kernel) (by decide +kernel), mT9 189 (by decide +kernel) (by decide +kernel), by decide, rfl, by decide +kernel, by decide +kernel, by decide +kernel⟩
theorem mb_Md_end : MBv R_Md y_Md_end prog_13_method_38_code 2 (some .boolean) 1 := ⟨mT8 185 (by decide +kernel) (by decide +kernel), mT8 186 (by decide +kernel) (by decide +kernel), mT1 10 (by decide +kernel) (by decide +kernel), mT8 187 (by decide +kernel) (by decide +kernel), by decide, rfl, by decide +kernel, by decide +kernel, by decide +kernel⟩
theorem mb_Md_far : MBv R_Md y_Md_far prog_13_method_85_code 6 (some .int) 1 := ⟨mT10 43 (by decide +kernel) (by decide +kernel), mT10 44 (by decide +kernel) (by decide +kernel), mT1 10 (by decide +kernel) (by decide +kernel), mT10 45 (by decide +kernel) (by decide +kernel), by decide, rfl, by decide +kernel, by decide +kernel, by decide +kernel⟩
theorem mb_Md_fast : MBv R_Md y_Md_fast prog_13_method_68_code 3 (some .boolean) 2 := ⟨mT9 211 (by decide +kernel) (by decide +kernel), mT9 212 (by decide +kernel) (by decide +kernel), mT1 10 (by decide +kernel) (by decide +kernel), mT9 213 (by decide +kernel) (by decide +kernel), by decide, rfl, by decide +kernel, by decide +kernel, by decide +kernel⟩
theorem mb_Md_fates : MBv R_Md y_Md_fates prog_13_method_84_code 7 (some .int) 3 := ⟨mT10 39 (by decide +kernel) (by decide +kernel), mT10 40 (by decide +kernel) (by decide +kernel), mT1 10 (by decide +kernel) (by decide +kernel), mT10 41 (by decide +kernel) (by decide +kernel), by decide, rfl, by decide +kernel, by decide +kernel, by decide +kernel⟩
theorem mb_Md_fault : MBv R_Md y_Md_fault prog_13_method_56_code 1 (some .int) 0 := ⟨mT9 43 (by decide +kernel) (by decide +kernel), mT9 44 (by decide +kernel) (by decide +kernel), mT1 10 (by decide +kernel) (by decide +kernel), mT9 45 (by decide +kernel) (by decide +kernel), by decide, rfl, by decide +kernel, by decide +kernel, by decide +kernel⟩
theorem mb_Md_feast : MBv R_Md y_Md_feast prog_13_method_71_code 3 (some .int) 2 := ⟨mT9 223 (by decide +kernel) (by decide +kernel), mT9 224 (by decide +kernel) (by decide +kernel), mT1 10 (by decide +kernel) (by decide +kernel), mT9 225 (by decide +kernel) (by decide +kernel), by decide, rfl, by decide +kernel, by decide +kernel, by decide +kernel⟩
theorem mb_Md_feed : MBv R_Md y_Md_feed prog_13_method_37_code 8 (some .int) 5 := ⟨mT8 181 (by decide +kernel) (by decide +kernel), mT8 182 (by decide +kernel) (by decide +kernel), mT1 10 (by decide +kernel) (by decide +kernel), mT8 183 (by decide +kernel) (by decide +kernel), by decide, rfl, by decide +kernel, by decide +kernel, by decide +kernel⟩
theorem mb_Md_heaviest : MBv R_Md y_Md_heaviest prog_13_method_104_code 8 (some .int) 3 := ⟨mT10 118 (by decide +kernel) (by decide +kernel), mT10 119 (by decide +kernel) (by decide +kernel), mT1 10 (by decide +kernel) (by decide +kernel), mT10 120 (by decide +kernel) (by decide +kernel), by decide, rfl, by decide +kernel, by decide +kernel, by decide +kernel⟩
theorem mb_Md_image : MBv R_Md y_Md_image prog_13_method_110_code 2 none 0 := ⟨mT10 146 (by decide +kernel) (by decide +kernel), mT10 147 (by decide +kernel) (by decide +kernel), mT1 10 (by decide +kernel) (by decide +kernel), mT10 148 (by decide +kernel) (by decide +kernel), by decide, rfl, by decide +kernel, by decide +kernel, by decide +kernel⟩
theorem mb_Md_interval : MBv R_Md y_Md_interval prog_13_method_105_code 9 (some .int) 2 := ⟨mT10 122 (by decide +kernel) (by decide +kernel), mT10 123 (by decide +kernel) (by decide +kernel), mT1 10 (by decide +kernel) (by decide +kernel), mT10 124 (by decide +kernel) (by decide +kernel), by decide, rfl, by decide +kernel, by decide +kernel, by decide +kernel⟩
theorem mb_Md_joined : MBv R_Md y_Md_joined prog_13_method_70_code 5 (some .int) 2 := ⟨mT9 219 (by decide +kernel) (by decide +kernel), mT9 220 (by decide +kernel) (by decide +kernel), mT1 10 (by decide +kernel) (by decide +kernel), mT9 221 (by decide +kernel) (by decide +kernel), by decide, rfl, by decide +kernel, by decide +kernel, by decide +kernel⟩
theorem mb_Md_law : MBv R_Md y_Md_law prog_13_method_77_code 3 (some .int) 2 := ⟨mT10 11 (by decide +kernel) (by decide +kernel), mT10 12 (by decide +kernel) (by decide +kernel), mT1 10 (by decide +kernel) (by decide +kernel), mT10 13 (by decide +kernel) (by decide +kernel), by decide, rfl, by decide +kernel, by decide +kernel, by decide +kernel⟩
theorem mb_Md_leader : MBv R_Md y_Md_leader prog_13_method_109_code 5 (some .int) 0 := ⟨mT10 142 (by decide +kernel) (by decide +kernel), mT10 143 (by decide +kernel) (by decide +kernel), mT1 10 (by decide +kernel) (by decide +kernel), mT10 144 (by decide +kernel) (by decide +kernel), by decide, rfl, by decide +kernel, by decide +kernel, by decide +kernel⟩
theorem mb_Md_lesson : MBv R_Md y_Md_lesson prog_13_method_69_code 5 (some .int) 2 := ⟨mT9 215 (by decide +kernel) (by decide +kernel), mT9 216 (by decide +kernel) (by decide +kernel), mT1 10 (by decide +kernel) (by decide +kernel), mT9 217 (by decide +kernel) (by decide +kernel), by decide, rfl, by decide +kernel, by decide +kernel, by decide +kernel⟩
theorem mb_Md_lull : MBv R_Md y_Md_lull prog_13_method_100_code 4 (some .int) 1 := ⟨mT10 102 (by decide +kernel) (by decide +kernel), mT10 103 (by decide +kernel) (by decide +kernel), mT1 10 (by decide +kernel) (by decide +kernel), mT10 104 (by decide +kernel) (by decide +kernel), by decide, rfl, by decide +kernel, by decide +kernel, by decide +kernel⟩
theorem mb_Md_meets : MBv R_Md y_Md_meets prog_13_method_87_code 6 (some .int) 1 := ⟨mT10 54 (by decide +kernel) (by decide +kernel), mT10 55 (by decide +kernel) (by decide +kernel), mT1 10 (by decide +kernel) (by decide +kernel), mT10 56 (by decide +kernel) (by decide +kernel), by decide, rfl, by decide +kernel, by decide +kernel, by decide +kernel⟩
theorem mb_Md_next : MBv R_Md y_Md_next prog_13_method_92_code 6 (some .int) 3 := ⟨mT10 70 (by decide +kernel) (by decide +kernel), mT10 71 (by decide +kernel) (by decide +kernel), mT1 10 (by decide +kernel) (by decide +kernel), mT10 72 (by decide +kernel) (by decide +kernel), by decide, rfl, by decide +kernel, by decide +kernel, by decide +kernel⟩
theorem mb_Md_of : MBv R_Md y_Md_of prog_13_method_73_code 4 (some .int) 3 := ⟨mT9 231 (by decide +kernel) (by decide +kernel), mT9 232 (by decide +kernel) (by decide +kernel), mT1 10 (by decide +kernel) (by decide +kernel), mT9 233 (by decide +kernel) (by decide +kernel), by decide, rfl, by decide +kernel, by decide +kernel, by decide +kernel⟩
theorem mb_Md_office : MBv R_Md y_Md_office prog_13_method_66_code 4 (some .int) 3 := ⟨mT9 199 (by decide +kernel) (by decide +kernel), mT9 200 (by decide +kernel) (by decide +kernel), mT1 10 (by decide +kernel) (by decide +kernel), mT9 201 (by decide +kernel) (by decide +kernel), by decide, rfl, by decide +kernel, by decide +kernel, by decide +kernel⟩
theorem mb_Md_order : MBv R_Md y_Md_order prog_13_method_106_code 2 (some .int) 1 := ⟨mT10 126 (by decide +kernel) (by decide +kernel), mT10 127 (by decide +kernel) (by decide +kernel), mT1 10 (by decide +kernel) (by decide +kernel), mT10 128 (by decide +kernel) (by decide +kernel), by decide, rfl, by decide +kernel, by decide +kernel, by decide +kernel⟩
theorem mb_Md_paschs : MBv R_Md y_Md_paschs prog_13_method_94_code 5 (some .int) 1 := ⟨mT10 78 (by decide +kernel) (by decide +kernel), mT10 79 (by decide +kernel) (by decide +kernel), mT1 10 (by decide +kernel) (by decide +kernel), mT10 80 (by decide +kernel) (by decide +kernel), by decide, rfl, by decide +kernel, by decide +kernel, by decide +kernel⟩
theorem mb_Md_put : MBv R_Md y_Md_put prog_13_method_79_code 6 (some .int) 3 := ⟨mT10 15 (by decide +kernel) (by decide +kernel), mT10 16 (by decide +kernel) (by decide +kernel), mT1 10 (by decide +kernel) (by decide +kernel), mT10 17 (by decide +kernel) (by decide +kernel), by decide, rfl, by decide +kernel, by decide +kernel, by decide +kernel⟩
theorem mb_Md_rank : MBv R_Md y_Md_rank prog_13_method_76_code 3 (some .int) 2 := ⟨mT9 239 (by decide +kernel) (by decide +kernel), mT10 0 (by decide +kernel) (by decide +kernel), mT1 10 (by decide +kernel) (by decide +kernel), mT10 1 (by decide +kernel) (by decide +kernel), by decide, rfl, by decide +kernel, by decide +kernel, by decide +kernel⟩
theorem mb_Md_reach : MBv R_Md y_Md_reach prog_13_method_80_code 2 (some .int) 1 := ⟨mT10 23 (by decide +kernel) (by decide +kernel), mT10 24 (by decide +kernel) (by decide +kernel), mT1 10 (by decide +kernel) (by decide +kernel), mT10 25 (by decide +kernel) (by decide +kernel), by decide, rfl, by decide +kernel, by decide +kernel, by decide +kernel⟩
theorem mb_Md_rival : MBv R_Md y_Md_rival prog_13_method_99_code 6 (some .int) 1 := ⟨mT10 98 (by decide +kernel) (by decide +kernel), mT10 99 (by decide +kernel) (by decide +kernel), mT1 10 (by decide +kernel) (by decide +kernel), mT10 100 (by decide +kernel) (by decide +kernel), by decide, rfl, by decide +kernel, by decide +kernel, by decide +kernel⟩
theorem mb_Md_safe : MBv R_Md y_Md_safe prog_13_method_91_code 5 (some .int) 1 := ⟨mT10 62 (by decide +kernel) (by decide +kernel), mT10 63 (by decide +kernel) (by decide +kernel), mT1 10 (by decide +kernel) (by decide +kernel), mT10 64 (by decide +kernel) (by decide +kernel), by decide, rfl, by decide +kernel, by decide +kernel, by decide +kernel⟩
theorem mb_Md_sorts : MBv R_Md y_Md_sorts prog_13_method_96_code 5 (some .int) 0 := ⟨mT10 86 (by decide +kernel) (by decide +kernel), mT10 87 (by decide +kernel) (by decide +kernel), mT1 10 (by decide +kernel) (by decide +kernel), mT10 88 (by decide +kernel) (by decide +kernel), by decide, rfl, by decide +kernel, by decide +kernel, by decide +kernel⟩
theorem mb_Md_span : MBv R_Md y_Md_span prog_13_method_86_code 7 (some .int) 2 := ⟨mT10 50 (by decide +kernel) (by decide +kernel), mT10 51 (by decide +kernel) (by decide +kernel), mT1 10 (by decide +kernel) (by decide +kernel), mT10 52 (by decide +kernel) (by decide +kernel), by decide, rfl, by decide +kernel, by decide +kernel, by decide +kernel⟩
theorem mb_Md_tally : MBv R_Md y_Md_tally prog_13_method_101_code 5 (some .int) 2 := ⟨mT10 106 (by decide +kernel) (by decide +kernel), mT10 107 (by decide +kernel) (by decide +kernel), mT1 10 (by decide +kernel) (by decide +kernel), mT10 108 (by decide +kernel) (by decide +kernel), by decide, rfl, by decide +kernel, by decide +kernel, by decide +kernel⟩
theorem mb_Md_thrown : MBv R_Md y_Md_thrown prog_13_method_2_code 1 (some .int) 0 := ⟨mT8 177 (by decide +kernel) (by decide +kernel), mT8 178 (by decide +kernel) (by decide +kernel), mT1 10 (by decide +kernel) (by decide +kernel), mT8 179 (by decide +kernel) (by decide +kernel), by decide, rfl, by decide +kernel, by decide +kernel, by decide +kernel⟩
theorem mb_Md_undo : MBv R_Md y_Md_undo prog_13_method_81_code 2 (some .int) 0 := ⟨mT10 27 (by decide +kernel) (by decide +kernel), mT10 28 (by decide +kernel) (by decide +kernel), mT1 10 (by decide +kernel) (by decide +kernel), mT10 29 (by decide +kernel) (by decide +kernel), by decide, rfl, by decide +kernel, by decide +kernel, by decide +kernel⟩
theorem mb_Md_unresolved : MBv R_Md y_Md_unresolved prog_13_method_93_code 4 (some .int) 0 := ⟨mT10 74 (by decide +kernel) (by decide +kernel), mT10 75 (by decide +kernel) (by decide +kernel), mT1 10 (by decide +kernel) (by decide +kernel), mT10 76 (by decide +kernel) (by decide +kernel), by decide, rfl, by decide +kernel, by decide +kernel, by decide +kernel⟩
theorem mb_Md_year : MBv R_Md y_Md_year prog_13_method_62_code 3 (some .int) 2 := ⟨mT9 47 (by decide +kernel) (by decide +kernel), mT9 48 (by decide +kernel) (by decide +kernel), mT1 10 (by decide +kernel) (by decide +kernel), mT9 49 (by decide +kernel) (by decide +kernel), by decide, rfl, by decide +kernel, by decide +kernel, by decide +kernel⟩
theorem mb_Md_yields : MBv R_Md y_Md_yields prog_13_method_97_code 3 (some .int) 2 := ⟨mT10 90 (by decide +kernel) (by decide +kernel), mT10 91 (by decide +kernel) (by decide +kernel), mT1 10 (by decide +kernel) (by decide +kernel), mT10 92 (by decide +kernel) (by decide +kernel), by decide, rfl, by decide +kernel, by decide +kernel, by decide +kernel⟩
theorem lk_Lw_136 : Cond.methodLink "FeastBookLaw" 136 y_FB_feed ∈ TT := mT2 193 (by decide +kernel) (by decide +kernel)
theorem lk_Lw_140 : Cond.methodLink "FeastBookLaw" 140 y_Md_feed ∈ TT := mT8 180 (by decide +kernel) (by decide +kernel)
theorem lk_Lw_141 : Cond.methodLink "FeastBookLaw" 141 y_FB_end ∈ TT := mT2 205 (by decide +kernel) (by decide +kernel)
theorem lk_Lw_145 : Cond.methodLink "FeastBookLaw" 145 y_Md_end ∈ TT := mT8 184 (by decide +kernel) (by decide +kernel)
theorem lk_Lw_151 : Cond.methodLink "FeastBookLaw" 151 y_Md_book ∈ TT := mT8 191 (by decide +kernel) (by decide +kernel)
theorem lk_Lw_152 : Cond.methodLink "FeastBookLaw" 152 y_Md_thrown ∈ TT := mT8 176 (by decide +kernel) (by decide +kernel)
theorem lk_Lw_155 : Cond.methodLink "FeastBookLaw" 155 y_FB_fault ∈ TT := mT2 209 (by decide +kernel) (by decide +kernel)
theorem lk_Lw_158 : Cond.methodLink "FeastBookLaw" 158 y_Md_fault ∈ TT := mT9 42 (by decide +kernel) (by decide +kernel)
theorem lk_Lw_162 : Cond.methodLink "FeastBookLaw" 162 y_Md_year ∈ TT := mT9 46 (by decide +kernel) (by decide +kernel)
theorem lk_Lw_166 : Cond.methodLink "FeastBookLaw" 166 y_Md_day ∈ TT := mT9 186 (by decide +kernel) (by decide +kernel)
theorem lk_Lw_169 : Cond.methodLink "FeastBookLaw" 169 y_Md_office ∈ TT := mT9 198 (by decide +kernel) (by decide +kernel)
theorem lk_Lw_172 : Cond.methodLink "FeastBookLaw" 172 y_Md_base ∈ TT := mT9 206 (by decide +kernel) (by decide +kernel)
theorem lk_Lw_175 : Cond.methodLink "FeastBookLaw" 175 y_Md_fast ∈ TT := mT9 210 (by decide +kernel) (by decide +kernel)
theorem lk_Lw_178 : Cond.methodLink "FeastBookLaw" 178 y_Md_lesson ∈ TT := mT9 214 (by decide +kernel) (by decide +kernel)
theorem lk_Lw_181 : Cond.methodLink "FeastBookLaw" 181 y_Md_joined ∈ TT := mT9 218 (by decide +kernel) (by decide +kernel)
theorem lk_Lw_184 : Cond.methodLink "FeastBookLaw" 184 y_Md_feast ∈ TT := mT9 222 (by decide +kernel) (by decide +kernel)
theorem lk_Lw_187 : Cond.methodLink "FeastBookLaw" 187 y_Md_of ∈ TT := mT9 230 (by decide +kernel) (by decide +kernel)
theorem lk_Lw_190 : Cond.methodLink "FeastBookLaw" 190 y_Md_rank ∈ TT := mT9 238 (by decide +kernel) (by decide +kernel)
theorem lk_Lw_193 : Cond.methodLink "FeastBookLaw" 193 y_Md_law ∈ TT := mT10 10 (by decide +kernel) (by decide +kernel)
theorem lk_Lw_196 : Cond.methodLink "FeastBookLaw" 196 y_Md_put ∈ TT := mT10 14 (by decide +kernel) (by decide +kernel)
theorem lk_Lw_200 : Cond.methodLink "FeastBookLaw" 200 y_Md_reach ∈ TT := mT10 22 (by decide +kernel) (by decide +kernel)
theorem lk_Lw_203 : Cond.methodLink "FeastBookLaw" 203 y_Md_undo ∈ TT := mT10 26 (by decide +kernel) (by decide +kernel)
theorem lk_Lw_206 : Cond.methodLink "FeastBookLaw" 206 y_Md_cycle ∈ TT := mT10 30 (by decide +kernel) (by decide +kernel)
theorem lk_Lw_210 : Cond.methodLink "FeastBookLaw" 210 y_Md_fates ∈ TT := mT10 38 (by decide +kernel) (by decide +kernel)
theorem lk_Lw_213 : Cond.methodLink "FeastBookLaw" 213 y_Md_far ∈ TT := mT10 42 (by decide +kernel) (by decide +kernel)
theorem lk_Lw_217 : Cond.methodLink "FeastBookLaw" 217 y_Md_span ∈ TT := mT10 49 (by decide +kernel) (by decide +kernel)
theorem lk_Lw_220 : Cond.methodLink "FeastBookLaw" 220 y_Md_meets ∈ TT := mT10 53 (by decide +kernel) (by decide +kernel)
theorem lk_Lw_223 : Cond.methodLink "FeastBookLaw" 223 y_Md_beats ∈ TT := mT10 57 (by decide +kernel) (by decide +kernel)
theorem lk_Lw_226 : Cond.methodLink "FeastBookLaw" 226 y_Md_safe ∈ TT := mT10 61 (by decide +kernel) (by decide +kernel)
theorem lk_Lw_229 : Cond.methodLink "FeastBookLaw" 229 y_Md_next ∈ TT := mT10 69 (by decide +kernel) (by decide +kernel)
theorem lk_Lw_232 : Cond.methodLink "FeastBookLaw" 232 y_Md_unresolved ∈ TT := mT10 73 (by decide +kernel) (by decide +kernel)
theorem lk_Lw_235 : Cond.methodLink "FeastBookLaw" 235 y_Md_paschs ∈ TT := mT10 77 (by decide +kernel) (by decide +kernel)
theorem lk_Lw_238 : Cond.methodLink "FeastBookLaw" 238 y_Md_alike ∈ TT := mT10 81 (by decide +kernel) (by decide +kernel)
theorem lk_Lw_241 : Cond.methodLink "FeastBookLaw" 241 y_Md_sorts ∈ TT := mT10 85 (by decide +kernel) (by decide +kernel)
theorem lk_Lw_244 : Cond.methodLink "FeastBookLaw" 244 y_Md_yields ∈ TT := mT10 89 (by decide +kernel) (by decide +kernel)
theorem lk_Lw_247 : Cond.methodLink "FeastBookLaw" 247 y_Md_course ∈ TT := mT10 109 (by decide +kernel) (by decide +kernel)
theorem lk_Lw_250 : Cond.methodLink "FeastBookLaw" 250 y_Md_heaviest ∈ TT := mT10 117 (by decide +kernel) (by decide +kernel)
theorem lk_Lw_253 : Cond.methodLink "FeastBookLaw" 253 y_Md_interval ∈ TT := mT10 121 (by decide +kernel) (by decide +kernel)
theorem lk_Lw_254 : Cond.methodLink "FeastBookLaw" 254 y_FB_order ∈ TT := mT2 213 (by decide +kernel) (by decide +kernel)
theorem lk_Lw_257 : Cond.methodLink "FeastBookLaw" 257 y_Md_order ∈ TT := mT10 125 (by decide +kernel) (by decide +kernel)
theorem lk_Lw_260 : Cond.methodLink "FeastBookLaw" 260 y_Md_better ∈ TT := mT10 129 (by decide +kernel) (by decide +kernel)
theorem lk_Lw_263 : Cond.methodLink "FeastBookLaw" 263 y_Md_rival ∈ TT := mT10 97 (by decide +kernel) (by decide +kernel)
theorem lk_Lw_266 : Cond.methodLink "FeastBookLaw" 266 y_Md_lull ∈ TT := mT10 101 (by decide +kernel) (by decide +kernel)
theorem lk_Lw_269 : Cond.methodLink "FeastBookLaw" 269 y_Md_tally ∈ TT := mT10 105 (by decide +kernel) (by decide +kernel)
theorem lk_Lw_272 : Cond.methodLink "FeastBookLaw" 272 y_Md_leader ∈ TT := mT10 141 (by decide +kernel) (by decide +kernel)
theorem lk_Lw_273 : Cond.methodLink "FeastBookLaw" 273 y_FB_image ∈ TT := mT2 217 (by decide +kernel) (by decide +kernel)
theorem lk_Lw_276 : Cond.methodLink "FeastBookLaw" 276 y_Md_image ∈ TT := mT10 145 (by decide +kernel) (by decide +kernel)
theorem lk_Lw_277 : Cond.methodLink "FeastBookLaw" 277 y_FB_back ∈ TT := mT2 238 (by decide +kernel) (by decide +kernel)
theorem lk_Lw_281 : Cond.methodLink "FeastBookLaw" 281 y_Md_back ∈ TT := mT10 149 (by decide +kernel) (by decide +kernel)
theorem lk_Lw_282 : Cond.methodLink "FeastBookLaw" 282 y_FB_count ∈ TT := mT3 62 (by decide +kernel) (by decide +kernel)
theorem lk_Lw_285 : Cond.methodLink "FeastBookLaw" 285 y_Md_count ∈ TT := mT10 153 (by decide +kernel) (by decide +kernel)
theorem lh_146 : Cond.methodLink "FeastBookLaw" 146 y_Lw_book ∈ TT := mT3 66 (by decide +kernel) (by decide +kernel)
theorem lh_159 : Cond.methodLink "FeastBookLaw" 159 y_Lw_year ∈ TT := mT4 98 (by decide +kernel) (by decide +kernel)
theorem lh_163 : Cond.methodLink "FeastBookLaw" 163 y_Lw_day ∈ TT := mT6 84 (by decide +kernel) (by decide +kernel)
theorem lh_167 : Cond.methodLink "FeastBookLaw" 167 y_Lw_office ∈ TT := mT6 104 (by decide +kernel) (by decide +kernel)
theorem lh_170 : Cond.methodLink "FeastBookLaw" 170 y_Lw_base ∈ TT := mT6 119 (by decide +kernel) (by decide +kernel)
theorem lh_173 : Cond.methodLink "FeastBookLaw" 173 y_Lw_fast ∈ TT := mT6 126 (by decide +kernel) (by decide +kernel)
theorem lh_176 : Cond.methodLink "FeastBookLaw" 176 y_Lw_lesson ∈ TT := mT6 134 (by decide +kernel) (by decide +kernel)
theorem lh_179 : Cond.methodLink "FeastBookLaw" 179 y_Lw_joined ∈ TT := mT6 143 (by decide +kernel) (by decide +kernel)
theorem lh_182 : Cond.methodLink "FeastBookLaw" 182 y_Lw_feast ∈ TT := mT6 151 (by decide +kernel) (by decide +kernel)
theorem lh_185 : Cond.methodLink "FeastBookLaw" 185 y_Lw_of ∈ TT := mT6 164 (by decide +kernel) (by decide +kernel)
theorem lh_188 : Cond.methodLink "FeastBookLaw" 188 y_Lw_rank ∈ TT := mT6 180 (by decide +kernel) (by decide +kernel)
theorem lh_191 : Cond.methodLink "FeastBookLaw" 191 y_Lw_law ∈ TT := mT6 210 (by decide +kernel) (by decide +kernel)
theorem lh_194 : Cond.methodLink "FeastBookLaw" 194 y_Lw_put ∈ TT := mT6 221 (by decide +kernel) (by decide +kernel)
theorem lh_197 : Cond.methodLink "FeastBookLaw" 197 y_Lw_reach ∈ TT := mT6 237 (by decide +kernel) (by decide +kernel)
theorem lh_201 : Cond.methodLink "FeastBookLaw" 201 y_Lw_undo ∈ TT := mT7 29 (by decide +kernel) (by decide +kernel)
theorem lh_204 : Cond.methodLink "FeastBookLaw" 204 y_Lw_cycle ∈ TT := mT7 41 (by decide +kernel) (by decide +kernel)
theorem lh_207 : Cond.methodLink "FeastBookLaw" 207 y_Lw_fates ∈ TT := mT7 48 (by decide +kernel) (by decide +kernel)
theorem lh_211 : Cond.methodLink "FeastBookLaw" 211 y_Lw_far ∈ TT := mT7 73 (by decide +kernel) (by decide +kernel)
theorem lh_214 : Cond.methodLink "FeastBookLaw" 214 y_Lw_span ∈ TT := mT7 88 (by decide +kernel) (by decide +kernel)
theorem lh_218 : Cond.methodLink "FeastBookLaw" 218 y_Lw_meets ∈ TT := mT7 103 (by decide +kernel) (by decide +kernel)
theorem lh_221 : Cond.methodLink "FeastBookLaw" 221 y_Lw_beats ∈ TT := mT7 119 (by decide +kernel) (by decide +kernel)
theorem lh_224 : Cond.methodLink "FeastBookLaw" 224 y_Lw_safe ∈ TT := mT7 131 (by decide +kernel) (by decide +kernel)
theorem lh_227 : Cond.methodLink "FeastBookLaw" 227 y_Lw_next ∈ TT := mT7 151 (by decide +kernel) (by decide +kernel)
theorem lh_230 : Cond.methodLink "FeastBookLaw" 230 y_Lw_unresolved ∈ TT := mT7 164 (by decide +kernel) (by decide +kernel)
theorem lh_233 : Cond.methodLink "FeastBookLaw" 233 y_Lw_paschs ∈ TT := mT7 176 (by decide +kernel) (by decide +kernel)
theorem lh_236 : Cond.methodLink "FeastBookLaw" 236 y_Lw_alike ∈ TT := mT7 187 (by decide +kernel) (by decide +kernel)
theorem lh_239 : Cond.methodLink "FeastBookLaw" 239 y_Lw_sorts ∈ TT := mT7 194 (by decide +kernel) (by decide +kernel)
theorem lh_242 : Cond.methodLink "FeastBookLaw" 242 y_Lw_yields ∈ TT := mT7 205 (by decide +kernel) (by decide +kernel)
theorem lh_245 : Cond.methodLink "FeastBookLaw" 245 y_Lw_course ∈ TT := mT7 216 (by decide +kernel) (by decide +kernel)
theorem lh_248 : Cond.methodLink "FeastBookLaw" 248 y_Lw_heaviest ∈ TT := mT7 233 (by decide +kernel) (by decide +kernel)
theorem lh_251 : Cond.methodLink "FeastBookLaw" 251 y_Lw_interval ∈ TT := mT8 5 (by decide +kernel) (by decide +kernel)
theorem lh_258 : Cond.methodLink "FeastBookLaw" 258 y_Lw_better ∈ TT := mT8 17 (by decide +kernel) (by decide +kernel)
theorem lh_261 : Cond.methodLink "FeastBookLaw" 261 y_Lw_rival ∈ TT := mT8 44 (by decide +kernel) (by decide +kernel)
theorem lh_264 : Cond.methodLink "FeastBookLaw" 264 y_Lw_lull ∈ TT := mT8 56 (by decide +kernel) (by decide +kernel)
theorem lh_267 : Cond.methodLink "FeastBookLaw" 267 y_Lw_tally ∈ TT := mT8 67 (by decide +kernel) (by decide +kernel)
theorem lh_270 : Cond.methodLink "FeastBookLaw" 270 y_Lw_leader ∈ TT := mT8 78 (by decide +kernel) (by decide +kernel)
theorem in_Law : Cond.initialized "FeastBookLaw" ∈ TT := mT1 0 (by decide +kernel) (by decide +kernel)
