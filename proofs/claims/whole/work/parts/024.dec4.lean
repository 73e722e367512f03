theorem dX12_init_279 : decode cX12_init 279 = .ok (.putfield 114, 3) := by decide +kernel
theorem dX12_init_282 : decode cX12_init 282 = .ok (.aload_n 0, 1) := by decide +kernel
theorem dX12_init_283 : decode cX12_init 283 = .ok (.sipush 4288, 3) := by decide +kernel
theorem dX12_init_286 : decode cX12_init 286 = .ok (.newarray .int, 2) := by decide +kernel
theorem dX12_init_288 : decode cX12_init 288 = .ok (.putfield 117, 3) := by decide +kernel
theorem dX12_init_291 : decode cX12_init 291 = .ok (.aload_n 0, 1) := by decide +kernel
theorem dX12_init_292 : decode cX12_init 292 = .ok (.sipush 17152, 3) := by decide +kernel
theorem dX12_init_295 : decode cX12_init 295 = .ok (.newarray .int, 2) := by decide +kernel
theorem dX12_init_297 : decode cX12_init 297 = .ok (.putfield 120, 3) := by decide +kernel
theorem dX12_init_300 : decode cX12_init 300 = .ok (.aload_n 0, 1) := by decide +kernel
theorem dX12_init_301 : decode cX12_init 301 = .ok (.sipush 17152, 3) := by decide +kernel
theorem dX12_init_304 : decode cX12_init 304 = .ok (.newarray .int, 2) := by decide +kernel
theorem dX12_init_306 : decode cX12_init 306 = .ok (.putfield 123, 3) := by decide +kernel
theorem dX12_init_309 : decode cX12_init 309 = .ok (.aload_n 0, 1) := by decide +kernel
theorem dX12_init_310 : decode cX12_init 310 = .ok (.sipush 17152, 3) := by decide +kernel
theorem dX12_init_313 : decode cX12_init 313 = .ok (.newarray .int, 2) := by decide +kernel
theorem dX12_init_315 : decode cX12_init 315 = .ok (.putfield 126, 3) := by decide +kernel
theorem dX12_init_318 : decode cX12_init 318 = .ok (.aload_n 0, 1) := by decide +kernel
theorem dX12_init_319 : decode cX12_init 319 = .ok (.iconst 5, 1) := by decide +kernel
theorem dX12_init_320 : decode cX12_init 320 = .ok (.newarray .int, 2) := by decide +kernel
theorem dX12_init_322 : decode cX12_init 322 = .ok (.putfield 129, 3) := by decide +kernel
theorem dX12_init_325 : decode cX12_init 325 = .ok (.aload_n 0, 1) := by decide +kernel
theorem dX12_init_326 : decode cX12_init 326 = .ok (.bipush 40, 2) := by decide +kernel
theorem dX12_init_328 : decode cX12_init 328 = .ok (.newarray .int, 2) := by decide +kernel
theorem dX12_init_330 : decode cX12_init 330 = .ok (.putfield 132, 3) := by decide +kernel
theorem dX12_init_333 : decode cX12_init 333 = .ok (.aload_n 0, 1) := by decide +kernel
theorem dX12_init_334 : decode cX12_init 334 = .ok (.bipush 20, 2) := by decide +kernel
theorem dX12_init_336 : decode cX12_init 336 = .ok (.newarray .int, 2) := by decide +kernel
theorem dX12_init_338 : decode cX12_init 338 = .ok (.putfield 135, 3) := by decide +kernel
theorem dX12_init_341 : decode cX12_init 341 = .ok (.aload_n 0, 1) := by decide +kernel
theorem dX12_init_342 : decode cX12_init 342 = .ok (.bipush 20, 2) := by decide +kernel
theorem dX12_init_344 : decode cX12_init 344 = .ok (.newarray .int, 2) := by decide +kernel
theorem dX12_init_346 : decode cX12_init 346 = .ok (.putfield 138, 3) := by decide +kernel
theorem dX12_init_349 : decode cX12_init 349 = .ok (.aload_n 0, 1) := by decide +kernel
theorem dX12_init_350 : decode cX12_init 350 = .ok (.bipush 17, 2) := by decide +kernel
theorem dX12_init_352 : decode cX12_init 352 = .ok (.newarray .int, 2) := by decide +kernel
theorem dX12_init_354 : decode cX12_init 354 = .ok (.putfield 141, 3) := by decide +kernel
theorem dX12_init_357 : decode cX12_init 357 = .ok (.aload_n 0, 1) := by decide +kernel
theorem dX12_init_358 : decode cX12_init 358 = .ok (.bipush 17, 2) := by decide +kernel
theorem dX12_init_360 : decode cX12_init 360 = .ok (.newarray .int, 2) := by decide +kernel
theorem dX12_init_362 : decode cX12_init 362 = .ok (.putfield 144, 3) := by decide +kernel
theorem dX12_init_365 : decode cX12_init 365 = .ok (.aload_n 0, 1) := by decide +kernel
theorem dX12_init_366 : decode cX12_init 366 = .ok (.bipush 17, 2) := by decide +kernel
theorem dX12_init_368 : decode cX12_init 368 = .ok (.newarray .int, 2) := by decide +kernel
theorem dX12_init_370 : decode cX12_init 370 = .ok (.putfield 147, 3) := by decide +kernel
theorem dX12_init_373 : decode cX12_init 373 = .ok (.aload_n 0, 1) := by decide +kernel
theorem dX12_init_374 : decode cX12_init 374 = .ok (.bipush 64, 2) := by decide +kernel
theorem dX12_init_376 : decode cX12_init 376 = .ok (.newarray .int, 2) := by decide +kernel
theorem dX12_init_378 : decode cX12_init 378 = .ok (.putfield 150, 3) := by decide +kernel
theorem dX12_init_381 : decode cX12_init 381 = .ok (.aload_n 0, 1) := by decide +kernel
theorem dX12_init_382 : decode cX12_init 382 = .ok (.bipush 64, 2) := by decide +kernel
theorem dX12_init_384 : decode cX12_init 384 = .ok (.newarray .int, 2) := by decide +kernel
theorem dX12_init_386 : decode cX12_init 386 = .ok (.putfield 153, 3) := by decide +kernel
theorem dX12_init_389 : decode cX12_init 389 = .ok (.aload_n 0, 1) := by decide +kernel
theorem dX12_init_390 : decode cX12_init 390 = .ok (.bipush 64, 2) := by decide +kernel
theorem dX12_init_392 : decode cX12_init 392 = .ok (.newarray .int, 2) := by decide +kernel
theorem dX12_init_394 : decode cX12_init 394 = .ok (.putfield 156, 3) := by decide +kernel
theorem dX12_init_397 : decode cX12_init 397 = .ok (.aload_n 0, 1) := by decide +kernel
theorem dX12_init_398 : decode cX12_init 398 = .ok (.bipush 11, 2) := by decide +kernel
theorem dX12_init_400 : decode cX12_init 400 = .ok (.newarray .int, 2) := by decide +kernel
theorem dX12_init_402 : decode cX12_init 402 = .ok (.putfield 159, 3) := by decide +kernel
theorem dX12_init_405 : decode cX12_init 405 = .ok (.aload_n 0, 1) := by decide +kernel
theorem dX12_init_406 : decode cX12_init 406 = .ok (.iconst 2, 1) := by decide +kernel
theorem dX12_init_407 : decode cX12_init 407 = .ok (.newarray .int, 2) := by decide +kernel
theorem dX12_init_409 : decode cX12_init 409 = .ok (.putfield 162, 3) := by decide +kernel
theorem dX12_init_412 : decode cX12_init 412 = .ok (.aload_n 0, 1) := by decide +kernel
theorem dX12_init_413 : decode cX12_init 413 = .ok (.bipush 8, 2) := by decide +kernel
theorem dX12_init_415 : decode cX12_init 415 = .ok (.newarray .int, 2) := by decide +kernel
theorem dX12_init_417 : decode cX12_init 417 = .ok (.putfield 165, 3) := by decide +kernel
theorem dX12_init_420 : decode cX12_init 420 = .ok (.aload_n 0, 1) := by decide +kernel
theorem dX12_init_421 : decode cX12_init 421 = .ok (.bipush 8, 2) := by decide +kernel
theorem dX12_init_423 : decode cX12_init 423 = .ok (.newarray .int, 2) := by decide +kernel
theorem dX12_init_425 : decode cX12_init 425 = .ok (.putfield 168, 3) := by decide +kernel
theorem dX12_init_428 : decode cX12_init 428 = .ok (.aload_n 0, 1) := by decide +kernel
theorem dX12_init_429 : decode cX12_init 429 = .ok (.bipush 64, 2) := by decide +kernel
theorem dX12_init_431 : decode cX12_init 431 = .ok (.newarray .int, 2) := by decide +kernel
theorem dX12_init_433 : decode cX12_init 433 = .ok (.putfield 171, 3) := by decide +kernel
theorem dX12_init_436 : decode cX12_init 436 = .ok (.aload_n 0, 1) := by decide +kernel
theorem dX12_init_437 : decode cX12_init 437 = .ok (.sipush 2304, 3) := by decide +kernel
theorem dX12_init_440 : decode cX12_init 440 = .ok (.newarray .long, 2) := by decide +kernel
theorem dX12_init_442 : decode cX12_init 442 = .ok (.putfield 174, 3) := by decide +kernel
theorem dX12_init_445 : decode cX12_init 445 = .ok (.aload_n 0, 1) := by decide +kernel
theorem dX12_init_446 : decode cX12_init 446 = .ok (.bipush 8, 2) := by decide +kernel
theorem dX12_init_448 : decode cX12_init 448 = .ok (.newarray .int, 2) := by decide +kernel
theorem dX12_init_450 : decode cX12_init 450 = .ok (.putfield 178, 3) := by decide +kernel
theorem dX12_init_453 : decode cX12_init 453 = .ok (.aload_n 0, 1) := by decide +kernel
theorem dX12_init_454 : decode cX12_init 454 = .ok (.bipush 8, 2) := by decide +kernel
theorem dX12_init_456 : decode cX12_init 456 = .ok (.newarray .int, 2) := by decide +kernel
theorem dX12_init_458 : decode cX12_init 458 = .ok (.putfield 181, 3) := by decide +kernel
theorem dX12_init_461 : decode cX12_init 461 = .ok (.aload_n 0, 1) := by decide +kernel
theorem dX12_init_462 : decode cX12_init 462 = .ok (.bipush 64, 2) := by decide +kernel
theorem dX12_init_464 : decode cX12_init 464 = .ok (.newarray .int, 2) := by decide +kernel
theorem dX12_init_466 : decode cX12_init 466 = .ok (.putfield 184, 3) := by decide +kernel
theorem dX12_init_469 : decode cX12_init 469 = .ok (.aload_n 0, 1) := by decide +kernel
theorem dX12_init_470 : decode cX12_init 470 = .ok (.bipush 64, 2) := by decide +kernel
theorem dX12_init_472 : decode cX12_init 472 = .ok (.newarray .int, 2) := by decide +kernel
theorem dX12_init_474 : decode cX12_init 474 = .ok (.putfield 187, 3) := by decide +kernel
theorem dX12_init_477 : decode cX12_init 477 = .ok (.aload_n 0, 1) := by decide +kernel
theorem dX12_init_478 : decode cX12_init 478 = .ok (.bipush 64, 2) := by decide +kernel
theorem dX12_init_480 : decode cX12_init 480 = .ok (.newarray .int, 2) := by decide +kernel
theorem dX12_init_482 : decode cX12_init 482 = .ok (.putfield 190, 3) := by decide +kernel
theorem dX12_init_485 : decode cX12_init 485 = .ok (.aload_n 0, 1) := by decide +kernel
theorem dX12_init_486 : decode cX12_init 486 = .ok (.iconst 4, 1) := by decide +kernel
theorem dX12_init_487 : decode cX12_init 487 = .ok (.newarray .int, 2) := by decide +kernel
theorem dX12_init_489 : decode cX12_init 489 = .ok (.putfield 193, 3) := by decide +kernel
theorem dX12_init_492 : decode cX12_init 492 = .ok (.aload_n 0, 1) := by decide +kernel
theorem dX12_init_493 : decode cX12_init 493 = .ok (.iconst 4, 1) := by decide +kernel
theorem dX12_init_494 : decode cX12_init 494 = .ok (.newarray .int, 2) := by decide +kernel
theorem dX12_init_496 : decode cX12_init 496 = .ok (.putfield 196, 3) := by decide +kernel
theorem dX12_init_499 : decode cX12_init 499 = .ok (.aload_n 0, 1) := by decide +kernel
theorem dX12_init_500 : decode cX12_init 500 = .ok (.iconst 3, 1) := by decide +kernel
theorem dX12_init_501 : decode cX12_init 501 = .ok (.newarray .boolean, 2) := by decide +kernel
theorem dX12_init_503 : decode cX12_init 503 = .ok (.putfield 199, 3) := by decide +kernel
theorem dX12_init_506 : decode cX12_init 506 = .ok (.aload_n 0, 1) := by decide +kernel
theorem dX12_init_507 : decode cX12_init 507 = .ok (.getfield 20, 3) := by decide +kernel
theorem dX12_init_510 : decode cX12_init 510 = .ok (.iconst 0, 1) := by decide +kernel
theorem dX12_init_511 : decode cX12_init 511 = .ok (.iconst (-1), 1) := by decide +kernel
theorem dX12_init_512 : decode cX12_init 512 = .ok (.iastore, 1) := by decide +kernel
theorem dX12_init_513 : decode cX12_init 513 = .ok (.iconst 0, 1) := by decide +kernel
theorem dX12_init_514 : decode cX12_init 514 = .ok (.istore_n 1, 1) := by decide +kernel
theorem dX12_init_515 : decode cX12_init 515 = .ok (.iload_n 1, 1) := by decide +kernel
theorem dX12_init_516 : decode cX12_init 516 = .ok (.bipush 25, 2) := by decide +kernel
theorem dX12_init_518 : decode cX12_init 518 = .ok (.if_icmp .ge 16, 3) := by decide +kernel
theorem dX12_init_521 : decode cX12_init 521 = .ok (.aload_n 0, 1) := by decide +kernel
theorem dX12_init_522 : decode cX12_init 522 = .ok (.getfield 26, 3) := by decide +kernel
theorem dX12_init_525 : decode cX12_init 525 = .ok (.iload_n 1, 1) := by decide +kernel
theorem dX12_init_526 : decode cX12_init 526 = .ok (.iconst (-1), 1) := by decide +kernel
theorem dX12_init_527 : decode cX12_init 527 = .ok (.iastore, 1) := by decide +kernel
theorem dX12_init_528 : decode cX12_init 528 = .ok (.iinc 1 1, 3) := by decide +kernel
theorem dX12_init_531 : decode cX12_init 531 = .ok (.goto (-16), 3) := by decide +kernel
theorem dX12_init_534 : decode cX12_init 534 = .ok (.return_, 1) := by decide +kernel
theorem dX12_in_0 : decode cX12_in 0 = .ok (.iload_n 0, 1) := by decide +kernel
theorem dX12_in_1 : decode cX12_in 1 = .ok (.iload_n 1, 1) := by decide +kernel
theorem dX12_in_2 : decode cX12_in 2 = .ok (.if_icmp .lt 12, 3) := by decide +kernel
theorem dX12_in_5 : decode cX12_in 5 = .ok (.iload_n 0, 1) := by decide +kernel
theorem dX12_in_6 : decode cX12_in 6 = .ok (.iload_n 2, 1) := by decide +kernel
theorem dX12_in_7 : decode cX12_in 7 = .ok (.if_icmp .gt 7, 3) := by decide +kernel
theorem dX12_in_10 : decode cX12_in 10 = .ok (.iconst 1, 1) := by decide +kernel
theorem dX12_in_11 : decode cX12_in 11 = .ok (.goto 4, 3) := by decide +kernel
theorem dX12_in_14 : decode cX12_in 14 = .ok (.iconst 0, 1) := by decide +kernel
theorem dX12_in_15 : decode cX12_in 15 = .ok (.ireturn, 1) := by decide +kernel
theorem dX12_move_0 : decode cX12_move 0 = .ok (.iconst 0, 1) := by decide +kernel
theorem dX12_move_1 : decode cX12_move 1 = .ok (.istore 4, 2) := by decide +kernel
theorem dX12_move_3 : decode cX12_move 3 = .ok (.iload 4, 2) := by decide +kernel
theorem dX12_move_5 : decode cX12_move 5 = .ok (.iload_n 1, 1) := by decide +kernel
theorem dX12_move_6 : decode cX12_move 6 = .ok (.if_icmp .ge 25, 3) := by decide +kernel
theorem dX12_move_9 : decode cX12_move 9 = .ok (.aload_n 0, 1) := by decide +kernel
theorem dX12_move_10 : decode cX12_move 10 = .ok (.iload_n 1, 1) := by decide +kernel
theorem dX12_move_11 : decode cX12_move 11 = .ok (.iload_n 3, 1) := by decide +kernel
theorem dX12_move_12 : decode cX12_move 12 = .ok (.imul, 1) := by decide +kernel
theorem dX12_move_13 : decode cX12_move 13 = .ok (.iload 4, 2) := by decide +kernel
theorem dX12_move_15 : decode cX12_move 15 = .ok (.iadd, 1) := by decide +kernel
theorem dX12_move_16 : decode cX12_move 16 = .ok (.aload_n 0, 1) := by decide +kernel
theorem dX12_move_17 : decode cX12_move 17 = .ok (.iload_n 1, 1) := by decide +kernel
theorem dX12_move_18 : decode cX12_move 18 = .ok (.iload_n 2, 1) := by decide +kernel
theorem dX12_move_19 : decode cX12_move 19 = .ok (.imul, 1) := by decide +kernel
theorem dX12_move_20 : decode cX12_move 20 = .ok (.iload 4, 2) := by decide +kernel
theorem dX12_move_22 : decode cX12_move 22 = .ok (.iadd, 1) := by decide +kernel
theorem dX12_move_23 : decode cX12_move 23 = .ok (.iaload, 1) := by decide +kernel
theorem dX12_move_24 : decode cX12_move 24 = .ok (.iastore, 1) := by decide +kernel
theorem dX12_move_25 : decode cX12_move 25 = .ok (.iinc 4 1, 3) := by decide +kernel
theorem dX12_move_28 : decode cX12_move 28 = .ok (.goto (-25), 3) := by decide +kernel
theorem dX12_move_31 : decode cX12_move 31 = .ok (.return_, 1) := by decide +kernel
theorem dX12_moveBits_0 : decode cX12_moveBits 0 = .ok (.iconst 0, 1) := by decide +kernel
theorem dX12_moveBits_1 : decode cX12_moveBits 1 = .ok (.istore 4, 2) := by decide +kernel
theorem dX12_moveBits_3 : decode cX12_moveBits 3 = .ok (.iload 4, 2) := by decide +kernel
theorem dX12_moveBits_5 : decode cX12_moveBits 5 = .ok (.iload_n 1, 1) := by decide +kernel
theorem dX12_moveBits_6 : decode cX12_moveBits 6 = .ok (.if_icmp .ge 25, 3) := by decide +kernel
theorem dX12_moveBits_9 : decode cX12_moveBits 9 = .ok (.aload_n 0, 1) := by decide +kernel
theorem dX12_moveBits_10 : decode cX12_moveBits 10 = .ok (.iload_n 1, 1) := by decide +kernel
theorem dX12_moveBits_11 : decode cX12_moveBits 11 = .ok (.iload_n 3, 1) := by decide +kernel
theorem dX12_moveBits_12 : decode cX12_moveBits 12 = .ok (.imul, 1) := by decide +kernel
theorem dX12_moveBits_13 : decode cX12_moveBits 13 = .ok (.iload 4, 2) := by decide +kernel
theorem dX12_moveBits_15 : decode cX12_moveBits 15 = .ok (.iadd, 1) := by decide +kernel
theorem dX12_moveBits_16 : decode cX12_moveBits 16 = .ok (.aload_n 0, 1) := by decide +kernel
theorem dX12_moveBits_17 : decode cX12_moveBits 17 = .ok (.iload_n 1, 1) := by decide +kernel
theorem dX12_moveBits_18 : decode cX12_moveBits 18 = .ok (.iload_n 2, 1) := by decide +kernel
theorem dX12_moveBits_19 : decode cX12_moveBits 19 = .ok (.imul, 1) := by decide +kernel
theorem dX12_moveBits_20 : decode cX12_moveBits 20 = .ok (.iload 4, 2) := by decide +kernel
theorem dX12_moveBits_22 : decode cX12_moveBits 22 = .ok (.iadd, 1) := by decide +kernel
theorem dX12_moveBits_23 : decode cX12_moveBits 23 = .ok (.baload, 1) := by decide +kernel
theorem dX12_moveBits_24 : decode cX12_moveBits 24 = .ok (.bastore, 1) := by decide +kernel
theorem dX12_moveBits_25 : decode cX12_moveBits 25 = .ok (.iinc 4 1, 3) := by decide +kernel
theorem dX12_moveBits_28 : decode cX12_moveBits 28 = .ok (.goto (-25), 3) := by decide +kernel
theorem dX12_moveBits_31 : decode cX12_moveBits 31 = .ok (.return_, 1) := by decide +kernel
theorem dX12_copy_0 : decode cX12_copy 0 = .ok (.iconst 0, 1) := by decide +kernel
theorem dX12_copy_1 : decode cX12_copy 1 = .ok (.istore_n 3, 1) := by decide +kernel
theorem dX12_copy_2 : decode cX12_copy 2 = .ok (.iload_n 3, 1) := by decide +kernel
theorem dX12_copy_3 : decode cX12_copy 3 = .ok (.sipush 500, 3) := by decide +kernel
theorem dX12_copy_6 : decode cX12_copy 6 = .ok (.if_icmp .ge 33, 3) := by decide +kernel
theorem dX12_copy_9 : decode cX12_copy 9 = .ok (.aload_n 0, 1) := by decide +kernel
theorem dX12_copy_10 : decode cX12_copy 10 = .ok (.getfield 7, 3) := by decide +kernel
theorem dX12_copy_13 : decode cX12_copy 13 = .ok (.sipush 500, 3) := by decide +kernel
theorem dX12_copy_16 : decode cX12_copy 16 = .ok (.iload_n 2, 1) := by decide +kernel
theorem dX12_copy_17 : decode cX12_copy 17 = .ok (.imul, 1) := by decide +kernel
theorem dX12_copy_18 : decode cX12_copy 18 = .ok (.iload_n 3, 1) := by decide +kernel
theorem dX12_copy_19 : decode cX12_copy 19 = .ok (.iadd, 1) := by decide +kernel
theorem dX12_copy_20 : decode cX12_copy 20 = .ok (.aload_n 0, 1) := by decide +kernel
theorem dX12_copy_21 : decode cX12_copy 21 = .ok (.getfield 7, 3) := by decide +kernel
theorem dX12_copy_24 : decode cX12_copy 24 = .ok (.sipush 500, 3) := by decide +kernel
theorem dX12_copy_27 : decode cX12_copy 27 = .ok (.iload_n 1, 1) := by decide +kernel
theorem dX12_copy_28 : decode cX12_copy 28 = .ok (.imul, 1) := by decide +kernel
theorem dX12_copy_29 : decode cX12_copy 29 = .ok (.iload_n 3, 1) := by decide +kernel
theorem dX12_copy_30 : decode cX12_copy 30 = .ok (.iadd, 1) := by decide +kernel
theorem dX12_copy_31 : decode cX12_copy 31 = .ok (.baload, 1) := by decide +kernel
theorem dX12_copy_32 : decode cX12_copy 32 = .ok (.bastore, 1) := by decide +kernel
theorem dX12_copy_33 : decode cX12_copy 33 = .ok (.iinc 3 1, 3) := by decide +kernel
theorem dX12_copy_36 : decode cX12_copy 36 = .ok (.goto (-34), 3) := by decide +kernel
theorem dX12_copy_39 : decode cX12_copy 39 = .ok (.aload_n 0, 1) := by decide +kernel
theorem dX12_copy_40 : decode cX12_copy 40 = .ok (.getfield 13, 3) := by decide +kernel
theorem dX12_copy_43 : decode cX12_copy 43 = .ok (.iconst 1, 1) := by decide +kernel
theorem dX12_copy_44 : decode cX12_copy 44 = .ok (.iload_n 1, 1) := by decide +kernel
theorem dX12_copy_45 : decode cX12_copy 45 = .ok (.iload_n 2, 1) := by decide +kernel
theorem dX12_copy_46 : decode cX12_copy 46 = .ok (.invokestatic 206, 3) := by decide +kernel
theorem dX12_copy_49 : decode cX12_copy 49 = .ok (.aload_n 0, 1) := by decide +kernel
theorem dX12_copy_50 : decode cX12_copy 50 = .ok (.getfield 17, 3) := by decide +kernel
theorem dX12_copy_53 : decode cX12_copy 53 = .ok (.iconst 1, 1) := by decide +kernel
theorem dX12_copy_54 : decode cX12_copy 54 = .ok (.iload_n 1, 1) := by decide +kernel
theorem dX12_copy_55 : decode cX12_copy 55 = .ok (.iload_n 2, 1) := by decide +kernel
theorem dX12_copy_56 : decode cX12_copy 56 = .ok (.invokestatic 206, 3) := by decide +kernel
theorem dX12_copy_59 : decode cX12_copy 59 = .ok (.aload_n 0, 1) := by decide +kernel
theorem dX12_copy_60 : decode cX12_copy 60 = .ok (.getfield 20, 3) := by decide +kernel
theorem dX12_copy_63 : decode cX12_copy 63 = .ok (.iconst 1, 1) := by decide +kernel
theorem dX12_copy_64 : decode cX12_copy 64 = .ok (.iload_n 1, 1) := by decide +kernel
theorem dX12_copy_65 : decode cX12_copy 65 = .ok (.iload_n 2, 1) := by decide +kernel
theorem dX12_copy_66 : decode cX12_copy 66 = .ok (.invokestatic 206, 3) := by decide +kernel
theorem dX12_copy_69 : decode cX12_copy 69 = .ok (.aload_n 0, 1) := by decide +kernel
theorem dX12_copy_70 : decode cX12_copy 70 = .ok (.getfield 23, 3) := by decide +kernel
theorem dX12_copy_73 : decode cX12_copy 73 = .ok (.iconst 1, 1) := by decide +kernel
theorem dX12_copy_74 : decode cX12_copy 74 = .ok (.iload_n 1, 1) := by decide +kernel
theorem dX12_copy_75 : decode cX12_copy 75 = .ok (.iload_n 2, 1) := by decide +kernel
theorem dX12_copy_76 : decode cX12_copy 76 = .ok (.invokestatic 206, 3) := by decide +kernel
theorem dX12_copy_79 : decode cX12_copy 79 = .ok (.aload_n 0, 1) := by decide +kernel
theorem dX12_copy_80 : decode cX12_copy 80 = .ok (.getfield 26, 3) := by decide +kernel
theorem dX12_copy_83 : decode cX12_copy 83 = .ok (.bipush 25, 2) := by decide +kernel
theorem dX12_copy_85 : decode cX12_copy 85 = .ok (.iload_n 1, 1) := by decide +kernel
theorem dX12_copy_86 : decode cX12_copy 86 = .ok (.iload_n 2, 1) := by decide +kernel
theorem dX12_copy_87 : decode cX12_copy 87 = .ok (.invokestatic 206, 3) := by decide +kernel
theorem dX12_copy_90 : decode cX12_copy 90 = .ok (.aload_n 0, 1) := by decide +kernel
theorem dX12_copy_91 : decode cX12_copy 91 = .ok (.getfield 29, 3) := by decide +kernel
theorem dX12_copy_94 : decode cX12_copy 94 = .ok (.iconst 1, 1) := by decide +kernel
theorem dX12_copy_95 : decode cX12_copy 95 = .ok (.iload_n 1, 1) := by decide +kernel
theorem dX12_copy_96 : decode cX12_copy 96 = .ok (.iload_n 2, 1) := by decide +kernel
theorem dX12_copy_97 : decode cX12_copy 97 = .ok (.invokestatic 206, 3) := by decide +kernel
theorem dX12_copy_100 : decode cX12_copy 100 = .ok (.aload_n 0, 1) := by decide +kernel
theorem dX12_copy_101 : decode cX12_copy 101 = .ok (.getfield 32, 3) := by decide +kernel
theorem dX12_copy_104 : decode cX12_copy 104 = .ok (.bipush 8, 2) := by decide +kernel
theorem dX12_copy_106 : decode cX12_copy 106 = .ok (.iload_n 1, 1) := by decide +kernel
theorem dX12_copy_107 : decode cX12_copy 107 = .ok (.iload_n 2, 1) := by decide +kernel
theorem dX12_copy_108 : decode cX12_copy 108 = .ok (.invokestatic 206, 3) := by decide +kernel
theorem dX12_copy_111 : decode cX12_copy 111 = .ok (.aload_n 0, 1) := by decide +kernel
theorem dX12_copy_112 : decode cX12_copy 112 = .ok (.getfield 35, 3) := by decide +kernel
theorem dX12_copy_115 : decode cX12_copy 115 = .ok (.bipush 8, 2) := by decide +kernel
theorem dX12_copy_117 : decode cX12_copy 117 = .ok (.iload_n 1, 1) := by decide +kernel
theorem dX12_copy_118 : decode cX12_copy 118 = .ok (.iload_n 2, 1) := by decide +kernel
theorem dX12_copy_119 : decode cX12_copy 119 = .ok (.invokestatic 206, 3) := by decide +kernel
theorem dX12_copy_122 : decode cX12_copy 122 = .ok (.aload_n 0, 1) := by decide +kernel
theorem dX12_copy_123 : decode cX12_copy 123 = .ok (.getfield 38, 3) := by decide +kernel
theorem dX12_copy_126 : decode cX12_copy 126 = .ok (.bipush 8, 2) := by decide +kernel
theorem dX12_copy_128 : decode cX12_copy 128 = .ok (.iload_n 1, 1) := by decide +kernel
theorem dX12_copy_129 : decode cX12_copy 129 = .ok (.iload_n 2, 1) := by decide +kernel
theorem dX12_copy_130 : decode cX12_copy 130 = .ok (.invokestatic 206, 3) := by decide +kernel
theorem dX12_copy_133 : decode cX12_copy 133 = .ok (.aload_n 0, 1) := by decide +kernel
theorem dX12_copy_134 : decode cX12_copy 134 = .ok (.getfield 41, 3) := by decide +kernel
theorem dX12_copy_137 : decode cX12_copy 137 = .ok (.bipush 8, 2) := by decide +kernel
theorem dX12_copy_139 : decode cX12_copy 139 = .ok (.iload_n 1, 1) := by decide +kernel
theorem dX12_copy_140 : decode cX12_copy 140 = .ok (.iload_n 2, 1) := by decide +kernel
theorem dX12_copy_141 : decode cX12_copy 141 = .ok (.invokestatic 206, 3) := by decide +kernel
theorem dX12_copy_144 : decode cX12_copy 144 = .ok (.aload_n 0, 1) := by decide +kernel
theorem dX12_copy_145 : decode cX12_copy 145 = .ok (.getfield 44, 3) := by decide +kernel
theorem dX12_copy_148 : decode cX12_copy 148 = .ok (.iconst 1, 1) := by decide +kernel
theorem dX12_copy_149 : decode cX12_copy 149 = .ok (.iload_n 1, 1) := by decide +kernel
theorem dX12_copy_150 : decode cX12_copy 150 = .ok (.iload_n 2, 1) := by decide +kernel
theorem dX12_copy_151 : decode cX12_copy 151 = .ok (.invokestatic 206, 3) := by decide +kernel
theorem dX12_copy_154 : decode cX12_copy 154 = .ok (.aload_n 0, 1) := by decide +kernel
theorem dX12_copy_155 : decode cX12_copy 155 = .ok (.getfield 47, 3) := by decide +kernel
theorem dX12_copy_158 : decode cX12_copy 158 = .ok (.bipush 20, 2) := by decide +kernel
theorem dX12_copy_160 : decode cX12_copy 160 = .ok (.iload_n 1, 1) := by decide +kernel
theorem dX12_copy_161 : decode cX12_copy 161 = .ok (.iload_n 2, 1) := by decide +kernel
theorem dX12_copy_162 : decode cX12_copy 162 = .ok (.invokestatic 206, 3) := by decide +kernel
theorem dX12_copy_165 : decode cX12_copy 165 = .ok (.aload_n 0, 1) := by decide +kernel
theorem dX12_copy_166 : decode cX12_copy 166 = .ok (.getfield 50, 3) := by decide +kernel
theorem dX12_copy_169 : decode cX12_copy 169 = .ok (.bipush 20, 2) := by decide +kernel
theorem dX12_copy_171 : decode cX12_copy 171 = .ok (.iload_n 1, 1) := by decide +kernel
theorem dX12_copy_172 : decode cX12_copy 172 = .ok (.iload_n 2, 1) := by decide +kernel
theorem dX12_copy_173 : decode cX12_copy 173 = .ok (.invokestatic 206, 3) := by decide +kernel
theorem dX12_copy_176 : decode cX12_copy 176 = .ok (.aload_n 0, 1) := by decide +kernel
theorem dX12_copy_177 : decode cX12_copy 177 = .ok (.getfield 53, 3) := by decide +kernel
theorem dX12_copy_180 : decode cX12_copy 180 = .ok (.bipush 20, 2) := by decide +kernel
theorem dX12_copy_182 : decode cX12_copy 182 = .ok (.iload_n 1, 1) := by decide +kernel
theorem dX12_copy_183 : decode cX12_copy 183 = .ok (.iload_n 2, 1) := by decide +kernel
theorem dX12_copy_184 : decode cX12_copy 184 = .ok (.invokestatic 206, 3) := by decide +kernel
theorem dX12_copy_187 : decode cX12_copy 187 = .ok (.aload_n 0, 1) := by decide +kernel
theorem dX12_copy_188 : decode cX12_copy 188 = .ok (.getfield 56, 3) := by decide +kernel
theorem dX12_copy_191 : decode cX12_copy 191 = .ok (.bipush 20, 2) := by decide +kernel
theorem dX12_copy_193 : decode cX12_copy 193 = .ok (.iload_n 1, 1) := by decide +kernel
theorem dX12_copy_194 : decode cX12_copy 194 = .ok (.iload_n 2, 1) := by decide +kernel
theorem dX12_copy_195 : decode cX12_copy 195 = .ok (.invokestatic 206, 3) := by decide +kernel
theorem dX12_copy_198 : decode cX12_copy 198 = .ok (.aload_n 0, 1) := by decide +kernel
theorem dX12_copy_199 : decode cX12_copy 199 = .ok (.getfield 59, 3) := by decide +kernel
theorem dX12_copy_202 : decode cX12_copy 202 = .ok (.bipush 20, 2) := by decide +kernel
theorem dX12_copy_204 : decode cX12_copy 204 = .ok (.iload_n 1, 1) := by decide +kernel
theorem dX12_copy_205 : decode cX12_copy 205 = .ok (.iload_n 2, 1) := by decide +kernel
theorem dX12_copy_206 : decode cX12_copy 206 = .ok (.invokestatic 210, 3) := by decide +kernel
theorem dX12_copy_209 : decode cX12_copy 209 = .ok (.aload_n 0, 1) := by decide +kernel
theorem dX12_copy_210 : decode cX12_copy 210 = .ok (.getfield 63, 3) := by decide +kernel
theorem dX12_copy_213 : decode cX12_copy 213 = .ok (.bipush 20, 2) := by decide +kernel
theorem dX12_copy_215 : decode cX12_copy 215 = .ok (.iload_n 1, 1) := by decide +kernel
theorem dX12_copy_216 : decode cX12_copy 216 = .ok (.iload_n 2, 1) := by decide +kernel
theorem dX12_copy_217 : decode cX12_copy 217 = .ok (.invokestatic 206, 3) := by decide +kernel
theorem dX12_copy_220 : decode cX12_copy 220 = .ok (.aload_n 0, 1) := by decide +kernel
theorem dX12_copy_221 : decode cX12_copy 221 = .ok (.getfield 66, 3) := by decide +kernel
theorem dX12_copy_224 : decode cX12_copy 224 = .ok (.bipush 20, 2) := by decide +kernel
theorem dX12_copy_226 : decode cX12_copy 226 = .ok (.iload_n 1, 1) := by decide +kernel
theorem dX12_copy_227 : decode cX12_copy 227 = .ok (.iload_n 2, 1) := by decide +kernel
theorem dX12_copy_228 : decode cX12_copy 228 = .ok (.invokestatic 210, 3) := by decide +kernel
theorem dX12_copy_231 : decode cX12_copy 231 = .ok (.aload_n 0, 1) := by decide +kernel
theorem dX12_copy_232 : decode cX12_copy 232 = .ok (.getfield 69, 3) := by decide +kernel
theorem dX12_copy_235 : decode cX12_copy 235 = .ok (.bipush 20, 2) := by decide +kernel
theorem dX12_copy_237 : decode cX12_copy 237 = .ok (.iload_n 1, 1) := by decide +kernel
theorem dX12_copy_238 : decode cX12_copy 238 = .ok (.iload_n 2, 1) := by decide +kernel
theorem dX12_copy_239 : decode cX12_copy 239 = .ok (.invokestatic 210, 3) := by decide +kernel
theorem dX12_copy_242 : decode cX12_copy 242 = .ok (.aload_n 0, 1) := by decide +kernel
theorem dX12_copy_243 : decode cX12_copy 243 = .ok (.getfield 72, 3) := by decide +kernel
theorem dX12_copy_246 : decode cX12_copy 246 = .ok (.iconst 1, 1) := by decide +kernel
theorem dX12_copy_247 : decode cX12_copy 247 = .ok (.iload_n 1, 1) := by decide +kernel
theorem dX12_copy_248 : decode cX12_copy 248 = .ok (.iload_n 2, 1) := by decide +kernel
theorem dX12_copy_249 : decode cX12_copy 249 = .ok (.invokestatic 206, 3) := by decide +kernel
theorem dX12_copy_252 : decode cX12_copy 252 = .ok (.aload_n 0, 1) := by decide +kernel
theorem dX12_copy_253 : decode cX12_copy 253 = .ok (.getfield 75, 3) := by decide +kernel
theorem dX12_copy_256 : decode cX12_copy 256 = .ok (.sipush 240, 3) := by decide +kernel
theorem dX12_copy_259 : decode cX12_copy 259 = .ok (.iload_n 1, 1) := by decide +kernel
theorem dX12_copy_260 : decode cX12_copy 260 = .ok (.iload_n 2, 1) := by decide +kernel
theorem dX12_copy_261 : decode cX12_copy 261 = .ok (.invokestatic 206, 3) := by decide +kernel
theorem dX12_copy_264 : decode cX12_copy 264 = .ok (.aload_n 0, 1) := by decide +kernel
theorem dX12_copy_265 : decode cX12_copy 265 = .ok (.iload_n 1, 1) := by decide +kernel
theorem dX12_copy_266 : decode cX12_copy 266 = .ok (.iload_n 2, 1) := by decide +kernel
theorem dX12_copy_267 : decode cX12_copy 267 = .ok (.invokevirtual 214, 3) := by decide +kernel
theorem dX12_copy_270 : decode cX12_copy 270 = .ok (.return_, 1) := by decide +kernel
theorem dX12_copyMatches_0 : decode cX12_copyMatches 0 = .ok (.aload_n 0, 1) := by decide +kernel
theorem dX12_copyMatches_1 : decode cX12_copyMatches 1 = .ok (.getfield 78, 3) := by decide +kernel
theorem dX12_copyMatches_4 : decode cX12_copyMatches 4 = .ok (.iconst 1, 1) := by decide +kernel
theorem dX12_copyMatches_5 : decode cX12_copyMatches 5 = .ok (.iload_n 1, 1) := by decide +kernel
theorem dX12_copyMatches_6 : decode cX12_copyMatches 6 = .ok (.iload_n 2, 1) := by decide +kernel
theorem dX12_copyMatches_7 : decode cX12_copyMatches 7 = .ok (.invokestatic 206, 3) := by decide +kernel
theorem dX12_copyMatches_10 : decode cX12_copyMatches 10 = .ok (.aload_n 0, 1) := by decide +kernel
theorem dX12_copyMatches_11 : decode cX12_copyMatches 11 = .ok (.getfield 81, 3) := by decide +kernel
theorem dX12_copyMatches_14 : decode cX12_copyMatches 14 = .ok (.bipush 30, 2) := by decide +kernel
theorem dX12_copyMatches_16 : decode cX12_copyMatches 16 = .ok (.iload_n 1, 1) := by decide +kernel
theorem dX12_copyMatches_17 : decode cX12_copyMatches 17 = .ok (.iload_n 2, 1) := by decide +kernel
theorem dX12_copyMatches_18 : decode cX12_copyMatches 18 = .ok (.invokestatic 206, 3) := by decide +kernel
theorem dX12_copyMatches_21 : decode cX12_copyMatches 21 = .ok (.aload_n 0, 1) := by decide +kernel
theorem dX12_copyMatches_22 : decode cX12_copyMatches 22 = .ok (.getfield 84, 3) := by decide +kernel
theorem dX12_copyMatches_25 : decode cX12_copyMatches 25 = .ok (.bipush 30, 2) := by decide +kernel
theorem dX12_copyMatches_27 : decode cX12_copyMatches 27 = .ok (.iload_n 1, 1) := by decide +kernel
theorem dX12_copyMatches_28 : decode cX12_copyMatches 28 = .ok (.iload_n 2, 1) := by decide +kernel
theorem dX12_copyMatches_29 : decode cX12_copyMatches 29 = .ok (.invokestatic 206, 3) := by decide +kernel
theorem dX12_copyMatches_32 : decode cX12_copyMatches 32 = .ok (.aload_n 0, 1) := by decide +kernel
theorem dX12_copyMatches_33 : decode cX12_copyMatches 33 = .ok (.getfield 87, 3) := by decide +kernel
theorem dX12_copyMatches_36 : decode cX12_copyMatches 36 = .ok (.bipush 30, 2) := by decide +kernel
theorem dX12_copyMatches_38 : decode cX12_copyMatches 38 = .ok (.iload_n 1, 1) := by decide +kernel
theorem dX12_copyMatches_39 : decode cX12_copyMatches 39 = .ok (.iload_n 2, 1) := by decide +kernel
theorem dX12_copyMatches_40 : decode cX12_copyMatches 40 = .ok (.invokestatic 206, 3) := by decide +kernel
theorem dX12_copyMatches_43 : decode cX12_copyMatches 43 = .ok (.aload_n 0, 1) := by decide +kernel
theorem dX12_copyMatches_44 : decode cX12_copyMatches 44 = .ok (.getfield 90, 3) := by decide +kernel
theorem dX12_copyMatches_47 : decode cX12_copyMatches 47 = .ok (.bipush 30, 2) := by decide +kernel
theorem dX12_copyMatches_49 : decode cX12_copyMatches 49 = .ok (.iload_n 1, 1) := by decide +kernel
theorem dX12_copyMatches_50 : decode cX12_copyMatches 50 = .ok (.iload_n 2, 1) := by decide +kernel
theorem dX12_copyMatches_51 : decode cX12_copyMatches 51 = .ok (.invokestatic 206, 3) := by decide +kernel
theorem dX12_copyMatches_54 : decode cX12_copyMatches 54 = .ok (.aload_n 0, 1) := by decide +kernel
theorem dX12_copyMatches_55 : decode cX12_copyMatches 55 = .ok (.getfield 93, 3) := by decide +kernel
theorem dX12_copyMatches_58 : decode cX12_copyMatches 58 = .ok (.bipush 30, 2) := by decide +kernel
theorem dX12_copyMatches_60 : decode cX12_copyMatches 60 = .ok (.iload_n 1, 1) := by decide +kernel
theorem dX12_copyMatches_61 : decode cX12_copyMatches 61 = .ok (.iload_n 2, 1) := by decide +kernel
theorem dX12_copyMatches_62 : decode cX12_copyMatches 62 = .ok (.invokestatic 206, 3) := by decide +kernel
theorem dX12_copyMatches_65 : decode cX12_copyMatches 65 = .ok (.aload_n 0, 1) := by decide +kernel
theorem dX12_copyMatches_66 : decode cX12_copyMatches 66 = .ok (.getfield 96, 3) := by decide +kernel
theorem dX12_copyMatches_69 : decode cX12_copyMatches 69 = .ok (.bipush 30, 2) := by decide +kernel
theorem dX12_copyMatches_71 : decode cX12_copyMatches 71 = .ok (.iload_n 1, 1) := by decide +kernel
theorem dX12_copyMatches_72 : decode cX12_copyMatches 72 = .ok (.iload_n 2, 1) := by decide +kernel
theorem dX12_copyMatches_73 : decode cX12_copyMatches 73 = .ok (.invokestatic 206, 3) := by decide +kernel
theorem dX12_copyMatches_76 : decode cX12_copyMatches 76 = .ok (.aload_n 0, 1) := by decide +kernel
theorem dX12_copyMatches_77 : decode cX12_copyMatches 77 = .ok (.getfield 99, 3) := by decide +kernel
theorem dX12_copyMatches_80 : decode cX12_copyMatches 80 = .ok (.bipush 30, 2) := by decide +kernel
theorem dX12_copyMatches_82 : decode cX12_copyMatches 82 = .ok (.iload_n 1, 1) := by decide +kernel
theorem dX12_copyMatches_83 : decode cX12_copyMatches 83 = .ok (.iload_n 2, 1) := by decide +kernel
theorem dX12_copyMatches_84 : decode cX12_copyMatches 84 = .ok (.invokestatic 206, 3) := by decide +kernel
theorem dX12_copyMatches_87 : decode cX12_copyMatches 87 = .ok (.aload_n 0, 1) := by decide +kernel
theorem dX12_copyMatches_88 : decode cX12_copyMatches 88 = .ok (.getfield 102, 3) := by decide +kernel
theorem dX12_copyMatches_91 : decode cX12_copyMatches 91 = .ok (.bipush 30, 2) := by decide +kernel
theorem dX12_copyMatches_93 : decode cX12_copyMatches 93 = .ok (.iload_n 1, 1) := by decide +kernel
theorem dX12_copyMatches_94 : decode cX12_copyMatches 94 = .ok (.iload_n 2, 1) := by decide +kernel
theorem dX12_copyMatches_95 : decode cX12_copyMatches 95 = .ok (.invokestatic 206, 3) := by decide +kernel
theorem dX12_copyMatches_98 : decode cX12_copyMatches 98 = .ok (.aload_n 0, 1) := by decide +kernel
theorem dX12_copyMatches_99 : decode cX12_copyMatches 99 = .ok (.getfield 105, 3) := by decide +kernel
theorem dX12_copyMatches_102 : decode cX12_copyMatches 102 = .ok (.sipush 330, 3) := by decide +kernel
theorem dX12_copyMatches_105 : decode cX12_copyMatches 105 = .ok (.iload_n 1, 1) := by decide +kernel
theorem dX12_copyMatches_106 : decode cX12_copyMatches 106 = .ok (.iload_n 2, 1) := by decide +kernel
theorem dX12_copyMatches_107 : decode cX12_copyMatches 107 = .ok (.invokestatic 206, 3) := by decide +kernel
theorem dX12_copyMatches_110 : decode cX12_copyMatches 110 = .ok (.bipush 67, 2) := by decide +kernel
theorem dX12_copyMatches_112 : decode cX12_copyMatches 112 = .ok (.istore_n 3, 1) := by decide +kernel
theorem dX12_copyMatches_113 : decode cX12_copyMatches 113 = .ok (.aload_n 0, 1) := by decide +kernel
theorem dX12_copyMatches_114 : decode cX12_copyMatches 114 = .ok (.getfield 108, 3) := by decide +kernel
theorem dX12_copyMatches_117 : decode cX12_copyMatches 117 = .ok (.iload_n 3, 1) := by decide +kernel
theorem dX12_copyMatches_118 : decode cX12_copyMatches 118 = .ok (.iload_n 1, 1) := by decide +kernel
theorem dX12_copyMatches_119 : decode cX12_copyMatches 119 = .ok (.iload_n 2, 1) := by decide +kernel
theorem dX12_copyMatches_120 : decode cX12_copyMatches 120 = .ok (.invokestatic 206, 3) := by decide +kernel
theorem dX12_copyMatches_123 : decode cX12_copyMatches 123 = .ok (.aload_n 0, 1) := by decide +kernel
theorem dX12_copyMatches_124 : decode cX12_copyMatches 124 = .ok (.getfield 111, 3) := by decide +kernel
theorem dX12_copyMatches_127 : decode cX12_copyMatches 127 = .ok (.bipush 16, 2) := by decide +kernel
theorem dX12_copyMatches_129 : decode cX12_copyMatches 129 = .ok (.iload_n 3, 1) := by decide +kernel
theorem dX12_copyMatches_130 : decode cX12_copyMatches 130 = .ok (.imul, 1) := by decide +kernel
theorem dX12_copyMatches_131 : decode cX12_copyMatches 131 = .ok (.iload_n 1, 1) := by decide +kernel
theorem dX12_copyMatches_132 : decode cX12_copyMatches 132 = .ok (.iload_n 2, 1) := by decide +kernel
theorem dX12_copyMatches_133 : decode cX12_copyMatches 133 = .ok (.invokestatic 206, 3) := by decide +kernel
theorem dX12_copyMatches_136 : decode cX12_copyMatches 136 = .ok (.aload_n 0, 1) := by decide +kernel
theorem dX12_copyMatches_137 : decode cX12_copyMatches 137 = .ok (.getfield 114, 3) := by decide +kernel
theorem dX12_copyMatches_140 : decode cX12_copyMatches 140 = .ok (.bipush 16, 2) := by decide +kernel
theorem dX12_copyMatches_142 : decode cX12_copyMatches 142 = .ok (.iload_n 3, 1) := by decide +kernel
theorem dX12_copyMatches_143 : decode cX12_copyMatches 143 = .ok (.imul, 1) := by decide +kernel
theorem dX12_copyMatches_144 : decode cX12_copyMatches 144 = .ok (.iload_n 1, 1) := by decide +kernel
theorem dX12_copyMatches_145 : decode cX12_copyMatches 145 = .ok (.iload_n 2, 1) := by decide +kernel
theorem dX12_copyMatches_146 : decode cX12_copyMatches 146 = .ok (.invokestatic 206, 3) := by decide +kernel
theorem dX12_copyMatches_149 : decode cX12_copyMatches 149 = .ok (.aload_n 0, 1) := by decide +kernel
theorem dX12_copyMatches_150 : decode cX12_copyMatches 150 = .ok (.getfield 117, 3) := by decide +kernel
theorem dX12_copyMatches_153 : decode cX12_copyMatches 153 = .ok (.bipush 16, 2) := by decide +kernel
theorem dX12_copyMatches_155 : decode cX12_copyMatches 155 = .ok (.iload_n 3, 1) := by decide +kernel
theorem dX12_copyMatches_156 : decode cX12_copyMatches 156 = .ok (.imul, 1) := by decide +kernel
theorem dX12_copyMatches_157 : decode cX12_copyMatches 157 = .ok (.iload_n 1, 1) := by decide +kernel
theorem dX12_copyMatches_158 : decode cX12_copyMatches 158 = .ok (.iload_n 2, 1) := by decide +kernel
theorem dX12_copyMatches_159 : decode cX12_copyMatches 159 = .ok (.invokestatic 206, 3) := by decide +kernel
theorem dX12_copyMatches_162 : decode cX12_copyMatches 162 = .ok (.aload_n 0, 1) := by decide +kernel
theorem dX12_copyMatches_163 : decode cX12_copyMatches 163 = .ok (.getfield 120, 3) := by decide +kernel
theorem dX12_copyMatches_166 : decode cX12_copyMatches 166 = .ok (.bipush 64, 2) := by decide +kernel
theorem dX12_copyMatches_168 : decode cX12_copyMatches 168 = .ok (.iload_n 3, 1) := by decide +kernel
theorem dX12_copyMatches_169 : decode cX12_copyMatches 169 = .ok (.imul, 1) := by decide +kernel
theorem dX12_copyMatches_170 : decode cX12_copyMatches 170 = .ok (.iload_n 1, 1) := by decide +kernel
theorem dX12_copyMatches_171 : decode cX12_copyMatches 171 = .ok (.iload_n 2, 1) := by decide +kernel
theorem dX12_copyMatches_172 : decode cX12_copyMatches 172 = .ok (.invokestatic 206, 3) := by decide +kernel
theorem dX12_copyMatches_175 : decode cX12_copyMatches 175 = .ok (.aload_n 0, 1) := by decide +kernel
theorem dX12_copyMatches_176 : decode cX12_copyMatches 176 = .ok (.getfield 123, 3) := by decide +kernel
theorem dX12_copyMatches_179 : decode cX12_copyMatches 179 = .ok (.bipush 64, 2) := by decide +kernel
theorem dX12_copyMatches_181 : decode cX12_copyMatches 181 = .ok (.iload_n 3, 1) := by decide +kernel
theorem dX12_copyMatches_182 : decode cX12_copyMatches 182 = .ok (.imul, 1) := by decide +kernel
theorem dX12_copyMatches_183 : decode cX12_copyMatches 183 = .ok (.iload_n 1, 1) := by decide +kernel
theorem dX12_copyMatches_184 : decode cX12_copyMatches 184 = .ok (.iload_n 2, 1) := by decide +kernel
theorem dX12_copyMatches_185 : decode cX12_copyMatches 185 = .ok (.invokestatic 206, 3) := by decide +kernel
theorem dX12_copyMatches_188 : decode cX12_copyMatches 188 = .ok (.aload_n 0, 1) := by decide +kernel
theorem dX12_copyMatches_189 : decode cX12_copyMatches 189 = .ok (.getfield 126, 3) := by decide +kernel
theorem dX12_copyMatches_192 : decode cX12_copyMatches 192 = .ok (.bipush 64, 2) := by decide +kernel
theorem dX12_copyMatches_194 : decode cX12_copyMatches 194 = .ok (.iload_n 3, 1) := by decide +kernel
theorem dX12_copyMatches_195 : decode cX12_copyMatches 195 = .ok (.imul, 1) := by decide +kernel
theorem dX12_copyMatches_196 : decode cX12_copyMatches 196 = .ok (.iload_n 1, 1) := by decide +kernel
theorem dX12_copyMatches_197 : decode cX12_copyMatches 197 = .ok (.iload_n 2, 1) := by decide +kernel
theorem dX12_copyMatches_198 : decode cX12_copyMatches 198 = .ok (.invokestatic 206, 3) := by decide +kernel
theorem dX12_copyMatches_201 : decode cX12_copyMatches 201 = .ok (.return_, 1) := by decide +kernel
theorem dX12_isVillage_0 : decode cX12_isVillage 0 = .ok (.iload_n 0, 1) := by decide +kernel
theorem dX12_isVillage_1 : decode cX12_isVillage 1 = .ok (.iconst 0, 1) := by decide +kernel
theorem dX12_isVillage_2 : decode cX12_isVillage 2 = .ok (.iconst 4, 1) := by decide +kernel
theorem dX12_isVillage_3 : decode cX12_isVillage 3 = .ok (.invokestatic 218, 3) := by decide +kernel
theorem dX12_isVillage_6 : decode cX12_isVillage 6 = .ok (.ireturn, 1) := by decide +kernel
theorem dX12_isHouse_0 : decode cX12_isHouse 0 = .ok (.iload_n 1, 1) := by decide +kernel
theorem dX12_isHouse_1 : decode cX12_isHouse 1 = .ok (.iconst 0, 1) := by decide +kernel
theorem dX12_isHouse_2 : decode cX12_isHouse 2 = .ok (.aload_n 0, 1) := by decide +kernel
theorem dX12_isHouse_3 : decode cX12_isHouse 3 = .ok (.getfield 29, 3) := by decide +kernel
theorem dX12_isHouse_6 : decode cX12_isHouse 6 = .ok (.iconst 0, 1) := by decide +kernel
theorem dX12_isHouse_7 : decode cX12_isHouse 7 = .ok (.iaload, 1) := by decide +kernel
theorem dX12_isHouse_8 : decode cX12_isHouse 8 = .ok (.iconst 1, 1) := by decide +kernel
theorem dX12_isHouse_9 : decode cX12_isHouse 9 = .ok (.isub, 1) := by decide +kernel
theorem dX12_isHouse_10 : decode cX12_isHouse 10 = .ok (.invokestatic 218, 3) := by decide +kernel
theorem dX12_isHouse_13 : decode cX12_isHouse 13 = .ok (.ireturn, 1) := by decide +kernel
theorem dX12_isPerson_0 : decode cX12_isPerson 0 = .ok (.iload_n 1, 1) := by decide +kernel
theorem dX12_isPerson_1 : decode cX12_isPerson 1 = .ok (.iconst 0, 1) := by decide +kernel
theorem dX12_isPerson_2 : decode cX12_isPerson 2 = .ok (.aload_n 0, 1) := by decide +kernel
theorem dX12_isPerson_3 : decode cX12_isPerson 3 = .ok (.getfield 44, 3) := by decide +kernel
theorem dX12_isPerson_6 : decode cX12_isPerson 6 = .ok (.iconst 0, 1) := by decide +kernel
theorem dX12_isPerson_7 : decode cX12_isPerson 7 = .ok (.iaload, 1) := by decide +kernel
theorem dX12_isPerson_8 : decode cX12_isPerson 8 = .ok (.iconst 1, 1) := by decide +kernel
theorem dX12_isPerson_9 : decode cX12_isPerson 9 = .ok (.isub, 1) := by decide +kernel
theorem dX12_isPerson_10 : decode cX12_isPerson 10 = .ok (.invokestatic 218, 3) := by decide +kernel
theorem dX12_isPerson_13 : decode cX12_isPerson 13 = .ok (.ireturn, 1) := by decide +kernel
theorem dX12_areCouple_0 : decode cX12_areCouple 0 = .ok (.aload_n 0, 1) := by decide +kernel
theorem dX12_areCouple_1 : decode cX12_areCouple 1 = .ok (.iload_n 1, 1) := by decide +kernel
theorem dX12_areCouple_2 : decode cX12_areCouple 2 = .ok (.invokevirtual 222, 3) := by decide +kernel
theorem dX12_areCouple_5 : decode cX12_areCouple 5 = .ok (.ifCond .eq 34, 3) := by decide +kernel
theorem dX12_areCouple_8 : decode cX12_areCouple 8 = .ok (.aload_n 0, 1) := by decide +kernel
theorem dX12_areCouple_9 : decode cX12_areCouple 9 = .ok (.iload_n 2, 1) := by decide +kernel
theorem dX12_areCouple_10 : decode cX12_areCouple 10 = .ok (.invokevirtual 222, 3) := by decide +kernel
theorem dX12_areCouple_13 : decode cX12_areCouple 13 = .ok (.ifCond .eq 26, 3) := by decide +kernel
theorem dX12_areCouple_16 : decode cX12_areCouple 16 = .ok (.aload_n 0, 1) := by decide +kernel
theorem dX12_areCouple_17 : decode cX12_areCouple 17 = .ok (.getfield 50, 3) := by decide +kernel
theorem dX12_areCouple_20 : decode cX12_areCouple 20 = .ok (.iload_n 1, 1) := by decide +kernel
theorem dX12_areCouple_21 : decode cX12_areCouple 21 = .ok (.iaload, 1) := by decide +kernel
theorem dX12_areCouple_22 : decode cX12_areCouple 22 = .ok (.ifCond .ne 17, 3) := by decide +kernel
theorem dX12_areCouple_25 : decode cX12_areCouple 25 = .ok (.aload_n 0, 1) := by decide +kernel
theorem dX12_areCouple_26 : decode cX12_areCouple 26 = .ok (.getfield 50, 3) := by decide +kernel
theorem dX12_areCouple_29 : decode cX12_areCouple 29 = .ok (.iload_n 2, 1) := by decide +kernel
theorem dX12_areCouple_30 : decode cX12_areCouple 30 = .ok (.iaload, 1) := by decide +kernel
theorem dX12_areCouple_31 : decode cX12_areCouple 31 = .ok (.iconst 1, 1) := by decide +kernel
theorem dX12_areCouple_32 : decode cX12_areCouple 32 = .ok (.if_icmp .ne 7, 3) := by decide +kernel
theorem dX12_areCouple_35 : decode cX12_areCouple 35 = .ok (.iconst 1, 1) := by decide +kernel
theorem dX12_areCouple_36 : decode cX12_areCouple 36 = .ok (.goto 4, 3) := by decide +kernel
theorem dX12_areCouple_39 : decode cX12_areCouple 39 = .ok (.iconst 0, 1) := by decide +kernel
theorem dX12_areCouple_40 : decode cX12_areCouple 40 = .ok (.ireturn, 1) := by decide +kernel
theorem dX12_ageOf_0 : decode cX12_ageOf 0 = .ok (.aload_n 0, 1) := by decide +kernel
theorem dX12_ageOf_1 : decode cX12_ageOf 1 = .ok (.getfield 23, 3) := by decide +kernel
theorem dX12_ageOf_4 : decode cX12_ageOf 4 = .ok (.iconst 0, 1) := by decide +kernel
theorem dX12_ageOf_5 : decode cX12_ageOf 5 = .ok (.iaload, 1) := by decide +kernel
theorem dX12_ageOf_6 : decode cX12_ageOf 6 = .ok (.aload_n 0, 1) := by decide +kernel
theorem dX12_ageOf_7 : decode cX12_ageOf 7 = .ok (.getfield 56, 3) := by decide +kernel
theorem dX12_ageOf_10 : decode cX12_ageOf 10 = .ok (.iload_n 1, 1) := by decide +kernel
theorem dX12_ageOf_11 : decode cX12_ageOf 11 = .ok (.iaload, 1) := by decide +kernel
theorem dX12_ageOf_12 : decode cX12_ageOf 12 = .ok (.isub, 1) := by decide +kernel
theorem dX12_ageOf_13 : decode cX12_ageOf 13 = .ok (.ireturn, 1) := by decide +kernel
theorem dX12_house_0 : decode cX12_house 0 = .ok (.aload_n 0, 1) := by decide +kernel
theorem dX12_house_1 : decode cX12_house 1 = .ok (.iconst 0, 1) := by decide +kernel
theorem dX12_house_2 : decode cX12_house 2 = .ok (.putfield 202, 3) := by decide +kernel
theorem dX12_house_5 : decode cX12_house 5 = .ok (.aload_n 0, 1) := by decide +kernel
theorem dX12_house_6 : decode cX12_house 6 = .ok (.getfield 29, 3) := by decide +kernel
theorem dX12_house_9 : decode cX12_house 9 = .ok (.iconst 0, 1) := by decide +kernel
theorem dX12_house_10 : decode cX12_house 10 = .ok (.iaload, 1) := by decide +kernel
theorem dX12_house_11 : decode cX12_house 11 = .ok (.bipush 8, 2) := by decide +kernel
theorem dX12_house_13 : decode cX12_house 13 = .ok (.if_icmp .eq 29, 3) := by decide +kernel
theorem dX12_house_16 : decode cX12_house 16 = .ok (.iload_n 1, 1) := by decide +kernel
theorem dX12_house_17 : decode cX12_house 17 = .ok (.iconst 0, 1) := by decide +kernel
theorem dX12_house_18 : decode cX12_house 18 = .ok (.iconst 5, 1) := by decide +kernel
theorem dX12_house_19 : decode cX12_house 19 = .ok (.invokestatic 218, 3) := by decide +kernel
theorem dX12_house_22 : decode cX12_house 22 = .ok (.ifCond .eq 20, 3) := by decide +kernel
theorem dX12_house_25 : decode cX12_house 25 = .ok (.iload_n 2, 1) := by decide +kernel
theorem dX12_house_26 : decode cX12_house 26 = .ok (.invokestatic 226, 3) := by decide +kernel
theorem dX12_house_29 : decode cX12_house 29 = .ok (.ifCond .eq 13, 3) := by decide +kernel
theorem dX12_house_32 : decode cX12_house 32 = .ok (.iload_n 3, 1) := by decide +kernel
theorem dX12_house_33 : decode cX12_house 33 = .ok (.iconst 0, 1) := by decide +kernel
theorem dX12_house_34 : decode cX12_house 34 = .ok (.ldc 229, 2) := by decide +kernel
theorem dX12_house_36 : decode cX12_house 36 = .ok (.invokestatic 218, 3) := by decide +kernel
theorem dX12_house_39 : decode cX12_house 39 = .ok (.ifCond .ne 5, 3) := by decide +kernel
theorem dX12_house_42 : decode cX12_house 42 = .ok (.iconst (-1), 1) := by decide +kernel
theorem dX12_house_43 : decode cX12_house 43 = .ok (.ireturn, 1) := by decide +kernel
theorem dX12_house_44 : decode cX12_house 44 = .ok (.aload_n 0, 1) := by decide +kernel
theorem dX12_house_45 : decode cX12_house 45 = .ok (.getfield 29, 3) := by decide +kernel
theorem dX12_house_48 : decode cX12_house 48 = .ok (.iconst 0, 1) := by decide +kernel
theorem dX12_house_49 : decode cX12_house 49 = .ok (.iaload, 1) := by decide +kernel
theorem dX12_house_50 : decode cX12_house 50 = .ok (.istore 4, 2) := by decide +kernel
theorem dX12_house_52 : decode cX12_house 52 = .ok (.aload_n 0, 1) := by decide +kernel
theorem dX12_house_53 : decode cX12_house 53 = .ok (.getfield 29, 3) := by decide +kernel
theorem dX12_house_56 : decode cX12_house 56 = .ok (.iconst 0, 1) := by decide +kernel
theorem dX12_house_57 : decode cX12_house 57 = .ok (.dup2, 1) := by decide +kernel
theorem dX12_house_58 : decode cX12_house 58 = .ok (.iaload, 1) := by decide +kernel
theorem dX12_house_59 : decode cX12_house 59 = .ok (.iconst 1, 1) := by decide +kernel
theorem dX12_house_60 : decode cX12_house 60 = .ok (.iadd, 1) := by decide +kernel
theorem dX12_house_61 : decode cX12_house 61 = .ok (.iastore, 1) := by decide +kernel
theorem dX12_house_62 : decode cX12_house 62 = .ok (.aload_n 0, 1) := by decide +kernel
theorem dX12_house_63 : decode cX12_house 63 = .ok (.getfield 32, 3) := by decide +kernel
theorem dX12_house_66 : decode cX12_house 66 = .ok (.iload 4, 2) := by decide +kernel
theorem dX12_house_68 : decode cX12_house 68 = .ok (.iload_n 1, 1) := by decide +kernel
theorem dX12_house_69 : decode cX12_house 69 = .ok (.iastore, 1) := by decide +kernel
theorem dX12_house_70 : decode cX12_house 70 = .ok (.aload_n 0, 1) := by decide +kernel
theorem dX12_house_71 : decode cX12_house 71 = .ok (.getfield 35, 3) := by decide +kernel
theorem dX12_house_74 : decode cX12_house 74 = .ok (.iload 4, 2) := by decide +kernel
theorem dX12_house_76 : decode cX12_house 76 = .ok (.iload_n 2, 1) := by decide +kernel
theorem dX12_house_77 : decode cX12_house 77 = .ok (.iastore, 1) := by decide +kernel
theorem dX12_house_78 : decode cX12_house 78 = .ok (.aload_n 0, 1) := by decide +kernel
theorem dX12_house_79 : decode cX12_house 79 = .ok (.getfield 38, 3) := by decide +kernel
theorem dX12_house_82 : decode cX12_house 82 = .ok (.iload 4, 2) := by decide +kernel
theorem dX12_house_84 : decode cX12_house 84 = .ok (.iload_n 3, 1) := by decide +kernel
theorem dX12_house_85 : decode cX12_house 85 = .ok (.iastore, 1) := by decide +kernel
theorem dX12_house_86 : decode cX12_house 86 = .ok (.aload_n 0, 1) := by decide +kernel
theorem dX12_house_87 : decode cX12_house 87 = .ok (.getfield 41, 3) := by decide +kernel
theorem dX12_house_90 : decode cX12_house 90 = .ok (.iload 4, 2) := by decide +kernel
theorem dX12_house_92 : decode cX12_house 92 = .ok (.iconst 0, 1) := by decide +kernel
theorem dX12_house_93 : decode cX12_house 93 = .ok (.iastore, 1) := by decide +kernel
theorem dX12_house_94 : decode cX12_house 94 = .ok (.iload 4, 2) := by decide +kernel
theorem dX12_house_96 : decode cX12_house 96 = .ok (.ireturn, 1) := by decide +kernel
theorem dX12_person_0 : decode cX12_person 0 = .ok (.aload_n 0, 1) := by decide +kernel
theorem dX12_person_1 : decode cX12_person 1 = .ok (.iconst 0, 1) := by decide +kernel
theorem dX12_person_2 : decode cX12_person 2 = .ok (.putfield 202, 3) := by decide +kernel
theorem dX12_person_5 : decode cX12_person 5 = .ok (.aload_n 0, 1) := by decide +kernel
theorem dX12_person_6 : decode cX12_person 6 = .ok (.getfield 44, 3) := by decide +kernel
theorem dX12_person_9 : decode cX12_person 9 = .ok (.iconst 0, 1) := by decide +kernel
theorem dX12_person_10 : decode cX12_person 10 = .ok (.iaload, 1) := by decide +kernel
theorem dX12_person_11 : decode cX12_person 11 = .ok (.bipush 20, 2) := by decide +kernel
theorem dX12_person_13 : decode cX12_person 13 = .ok (.if_icmp .eq 46, 3) := by decide +kernel
theorem dX12_person_16 : decode cX12_person 16 = .ok (.aload_n 0, 1) := by decide +kernel
theorem dX12_person_17 : decode cX12_person 17 = .ok (.iload_n 1, 1) := by decide +kernel
theorem dX12_person_18 : decode cX12_person 18 = .ok (.invokevirtual 230, 3) := by decide +kernel
theorem dX12_person_21 : decode cX12_person 21 = .ok (.ifCond .eq 38, 3) := by decide +kernel
theorem dX12_person_24 : decode cX12_person 24 = .ok (.iload_n 2, 1) := by decide +kernel
theorem dX12_person_25 : decode cX12_person 25 = .ok (.iconst 0, 1) := by decide +kernel
theorem dX12_person_26 : decode cX12_person 26 = .ok (.iconst 1, 1) := by decide +kernel
theorem dX12_person_27 : decode cX12_person 27 = .ok (.invokestatic 218, 3) := by decide +kernel
theorem dX12_person_30 : decode cX12_person 30 = .ok (.ifCond .eq 29, 3) := by decide +kernel
theorem dX12_person_33 : decode cX12_person 33 = .ok (.iload_n 3, 1) := by decide +kernel
theorem dX12_person_34 : decode cX12_person 34 = .ok (.iconst 0, 1) := by decide +kernel
theorem dX12_person_35 : decode cX12_person 35 = .ok (.bipush 7, 2) := by decide +kernel
theorem dX12_person_37 : decode cX12_person 37 = .ok (.invokestatic 218, 3) := by decide +kernel
theorem dX12_person_40 : decode cX12_person 40 = .ok (.ifCond .eq 19, 3) := by decide +kernel
theorem dX12_person_43 : decode cX12_person 43 = .ok (.iload 4, 2) := by decide +kernel
theorem dX12_person_45 : decode cX12_person 45 = .ok (.bipush (-80), 2) := by decide +kernel
theorem dX12_person_47 : decode cX12_person 47 = .ok (.aload_n 0, 1) := by decide +kernel
theorem dX12_person_48 : decode cX12_person 48 = .ok (.getfield 23, 3) := by decide +kernel
theorem dX12_person_51 : decode cX12_person 51 = .ok (.iconst 0, 1) := by decide +kernel
theorem dX12_person_52 : decode cX12_person 52 = .ok (.iaload, 1) := by decide +kernel
theorem dX12_person_53 : decode cX12_person 53 = .ok (.invokestatic 218, 3) := by decide +kernel
theorem dX12_person_56 : decode cX12_person 56 = .ok (.ifCond .ne 5, 3) := by decide +kernel
theorem dX12_person_59 : decode cX12_person 59 = .ok (.iconst (-1), 1) := by decide +kernel
theorem dX12_person_60 : decode cX12_person 60 = .ok (.ireturn, 1) := by decide +kernel
theorem dX12_person_61 : decode cX12_person 61 = .ok (.aload_n 0, 1) := by decide +kernel
theorem dX12_person_62 : decode cX12_person 62 = .ok (.getfield 44, 3) := by decide +kernel
theorem dX12_person_65 : decode cX12_person 65 = .ok (.iconst 0, 1) := by decide +kernel
theorem dX12_person_66 : decode cX12_person 66 = .ok (.iaload, 1) := by decide +kernel
theorem dX12_person_67 : decode cX12_person 67 = .ok (.istore 5, 2) := by decide +kernel
theorem dX12_person_69 : decode cX12_person 69 = .ok (.aload_n 0, 1) := by decide +kernel
theorem dX12_person_70 : decode cX12_person 70 = .ok (.getfield 44, 3) := by decide +kernel
theorem dX12_person_73 : decode cX12_person 73 = .ok (.iconst 0, 1) := by decide +kernel
theorem dX12_person_74 : decode cX12_person 74 = .ok (.dup2, 1) := by decide +kernel
theorem dX12_person_75 : decode cX12_person 75 = .ok (.iaload, 1) := by decide +kernel
theorem dX12_person_76 : decode cX12_person 76 = .ok (.iconst 1, 1) := by decide +kernel
theorem dX12_person_77 : decode cX12_person 77 = .ok (.iadd, 1) := by decide +kernel
theorem dX12_person_78 : decode cX12_person 78 = .ok (.iastore, 1) := by decide +kernel
theorem dX12_person_79 : decode cX12_person 79 = .ok (.aload_n 0, 1) := by decide +kernel
theorem dX12_person_80 : decode cX12_person 80 = .ok (.getfield 47, 3) := by decide +kernel
theorem dX12_person_83 : decode cX12_person 83 = .ok (.iload 5, 2) := by decide +kernel
theorem dX12_person_85 : decode cX12_person 85 = .ok (.iload_n 1, 1) := by decide +kernel
theorem dX12_person_86 : decode cX12_person 86 = .ok (.iastore, 1) := by decide +kernel
theorem dX12_person_87 : decode cX12_person 87 = .ok (.aload_n 0, 1) := by decide +kernel
theorem dX12_person_88 : decode cX12_person 88 = .ok (.getfield 50, 3) := by decide +kernel
theorem dX12_person_91 : decode cX12_person 91 = .ok (.iload 5, 2) := by decide +kernel
theorem dX12_person_93 : decode cX12_person 93 = .ok (.iload_n 2, 1) := by decide +kernel
theorem dX12_person_94 : decode cX12_person 94 = .ok (.iastore, 1) := by decide +kernel
theorem dX12_person_95 : decode cX12_person 95 = .ok (.aload_n 0, 1) := by decide +kernel
theorem dX12_person_96 : decode cX12_person 96 = .ok (.getfield 53, 3) := by decide +kernel
theorem dX12_person_99 : decode cX12_person 99 = .ok (.iload 5, 2) := by decide +kernel
theorem dX12_person_101 : decode cX12_person 101 = .ok (.iload_n 3, 1) := by decide +kernel
theorem dX12_person_102 : decode cX12_person 102 = .ok (.iastore, 1) := by decide +kernel
theorem dX12_person_103 : decode cX12_person 103 = .ok (.aload_n 0, 1) := by decide +kernel
theorem dX12_person_104 : decode cX12_person 104 = .ok (.getfield 56, 3) := by decide +kernel
theorem dX12_person_107 : decode cX12_person 107 = .ok (.iload 5, 2) := by decide +kernel
theorem dX12_person_109 : decode cX12_person 109 = .ok (.iload 4, 2) := by decide +kernel
theorem dX12_person_111 : decode cX12_person 111 = .ok (.iastore, 1) := by decide +kernel
theorem dX12_person_112 : decode cX12_person 112 = .ok (.aload_n 0, 1) := by decide +kernel
theorem dX12_person_113 : decode cX12_person 113 = .ok (.getfield 59, 3) := by decide +kernel
theorem dX12_person_116 : decode cX12_person 116 = .ok (.iload 5, 2) := by decide +kernel
theorem dX12_person_118 : decode cX12_person 118 = .ok (.iconst 0, 1) := by decide +kernel
theorem dX12_person_119 : decode cX12_person 119 = .ok (.bastore, 1) := by decide +kernel
theorem dX12_person_120 : decode cX12_person 120 = .ok (.aload_n 0, 1) := by decide +kernel
theorem dX12_person_121 : decode cX12_person 121 = .ok (.getfield 63, 3) := by decide +kernel
theorem dX12_person_124 : decode cX12_person 124 = .ok (.iload 5, 2) := by decide +kernel
theorem dX12_person_126 : decode cX12_person 126 = .ok (.iconst (-1), 1) := by decide +kernel
theorem dX12_person_127 : decode cX12_person 127 = .ok (.iastore, 1) := by decide +kernel
theorem dX12_person_128 : decode cX12_person 128 = .ok (.aload_n 0, 1) := by decide +kernel
theorem dX12_person_129 : decode cX12_person 129 = .ok (.getfield 66, 3) := by decide +kernel
theorem dX12_person_132 : decode cX12_person 132 = .ok (.iload 5, 2) := by decide +kernel
theorem dX12_person_134 : decode cX12_person 134 = .ok (.iconst 0, 1) := by decide +kernel
theorem dX12_person_135 : decode cX12_person 135 = .ok (.bastore, 1) := by decide +kernel
theorem dX12_person_136 : decode cX12_person 136 = .ok (.aload_n 0, 1) := by decide +kernel
theorem dX12_person_137 : decode cX12_person 137 = .ok (.getfield 69, 3) := by decide +kernel
theorem dX12_person_140 : decode cX12_person 140 = .ok (.iload 5, 2) := by decide +kernel
theorem dX12_person_142 : decode cX12_person 142 = .ok (.iconst 0, 1) := by decide +kernel
theorem dX12_person_143 : decode cX12_person 143 = .ok (.bastore, 1) := by decide +kernel
theorem dX12_person_144 : decode cX12_person 144 = .ok (.iload 5, 2) := by decide +kernel
theorem dX12_person_146 : decode cX12_person 146 = .ok (.ireturn, 1) := by decide +kernel
theorem dX12_road_0 : decode cX12_road 0 = .ok (.aload_n 0, 1) := by decide +kernel
theorem dX12_road_1 : decode cX12_road 1 = .ok (.iconst 0, 1) := by decide +kernel
theorem dX12_road_2 : decode cX12_road 2 = .ok (.putfield 202, 3) := by decide +kernel
theorem dX12_road_5 : decode cX12_road 5 = .ok (.iload_n 1, 1) := by decide +kernel
theorem dX12_road_6 : decode cX12_road 6 = .ok (.invokestatic 226, 3) := by decide +kernel
theorem dX12_road_9 : decode cX12_road 9 = .ok (.ifCond .eq 25, 3) := by decide +kernel
theorem dX12_road_12 : decode cX12_road 12 = .ok (.iload_n 2, 1) := by decide +kernel
theorem dX12_road_13 : decode cX12_road 13 = .ok (.invokestatic 226, 3) := by decide +kernel
theorem dX12_road_16 : decode cX12_road 16 = .ok (.ifCond .eq 18, 3) := by decide +kernel
theorem dX12_road_19 : decode cX12_road 19 = .ok (.iload_n 1, 1) := by decide +kernel
theorem dX12_road_20 : decode cX12_road 20 = .ok (.iload_n 2, 1) := by decide +kernel
theorem dX12_road_21 : decode cX12_road 21 = .ok (.if_icmp .eq 13, 3) := by decide +kernel
theorem dX12_road_24 : decode cX12_road 24 = .ok (.iload_n 3, 1) := by decide +kernel
theorem dX12_road_25 : decode cX12_road 25 = .ok (.iconst (-1), 1) := by decide +kernel
theorem dX12_road_26 : decode cX12_road 26 = .ok (.bipush 9, 2) := by decide +kernel
theorem dX12_road_28 : decode cX12_road 28 = .ok (.invokestatic 218, 3) := by decide +kernel
theorem dX12_road_31 : decode cX12_road 31 = .ok (.ifCond .ne 5, 3) := by decide +kernel
theorem dX12_road_34 : decode cX12_road 34 = .ok (.iconst 0, 1) := by decide +kernel
theorem dX12_road_35 : decode cX12_road 35 = .ok (.ireturn, 1) := by decide +kernel
theorem dX12_road_36 : decode cX12_road 36 = .ok (.aload_n 0, 1) := by decide +kernel
theorem dX12_road_37 : decode cX12_road 37 = .ok (.getfield 26, 3) := by decide +kernel
theorem dX12_road_40 : decode cX12_road 40 = .ok (.iconst 5, 1) := by decide +kernel
theorem dX12_road_41 : decode cX12_road 41 = .ok (.iload_n 1, 1) := by decide +kernel
theorem dX12_road_42 : decode cX12_road 42 = .ok (.imul, 1) := by decide +kernel
theorem dX12_road_43 : decode cX12_road 43 = .ok (.iload_n 2, 1) := by decide +kernel
theorem dX12_road_44 : decode cX12_road 44 = .ok (.iadd, 1) := by decide +kernel
theorem dX12_road_45 : decode cX12_road 45 = .ok (.iload_n 3, 1) := by decide +kernel
theorem dX12_road_46 : decode cX12_road 46 = .ok (.iastore, 1) := by decide +kernel
theorem dX12_road_47 : decode cX12_road 47 = .ok (.aload_n 0, 1) := by decide +kernel
theorem dX12_road_48 : decode cX12_road 48 = .ok (.getfield 26, 3) := by decide +kernel
theorem dX12_road_51 : decode cX12_road 51 = .ok (.iconst 5, 1) := by decide +kernel
theorem dX12_road_52 : decode cX12_road 52 = .ok (.iload_n 2, 1) := by decide +kernel
theorem dX12_road_53 : decode cX12_road 53 = .ok (.imul, 1) := by decide +kernel
theorem dX12_road_54 : decode cX12_road 54 = .ok (.iload_n 1, 1) := by decide +kernel
theorem dX12_road_55 : decode cX12_road 55 = .ok (.iadd, 1) := by decide +kernel
theorem dX12_road_56 : decode cX12_road 56 = .ok (.iload_n 3, 1) := by decide +kernel
theorem dX12_road_57 : decode cX12_road 57 = .ok (.iastore, 1) := by decide +kernel
theorem dX12_road_58 : decode cX12_road 58 = .ok (.iconst 1, 1) := by decide +kernel
theorem dX12_road_59 : decode cX12_road 59 = .ok (.ireturn, 1) := by decide +kernel
theorem dX12_areFeuding_0 : decode cX12_areFeuding 0 = .ok (.aload_n 0, 1) := by decide +kernel
theorem dX12_areFeuding_1 : decode cX12_areFeuding 1 = .ok (.getfield 41, 3) := by decide +kernel
theorem dX12_areFeuding_4 : decode cX12_areFeuding 4 = .ok (.iload_n 1, 1) := by decide +kernel
theorem dX12_areFeuding_5 : decode cX12_areFeuding 5 = .ok (.iaload, 1) := by decide +kernel
theorem dX12_areFeuding_6 : decode cX12_areFeuding 6 = .ok (.iload_n 2, 1) := by decide +kernel
theorem dX12_areFeuding_7 : decode cX12_areFeuding 7 = .ok (.ishr, 1) := by decide +kernel
theorem dX12_areFeuding_8 : decode cX12_areFeuding 8 = .ok (.iconst 1, 1) := by decide +kernel
theorem dX12_areFeuding_9 : decode cX12_areFeuding 9 = .ok (.iand, 1) := by decide +kernel
theorem dX12_areFeuding_10 : decode cX12_areFeuding 10 = .ok (.ifCond .eq 7, 3) := by decide +kernel
theorem dX12_areFeuding_13 : decode cX12_areFeuding 13 = .ok (.iconst 1, 1) := by decide +kernel
theorem dX12_areFeuding_14 : decode cX12_areFeuding 14 = .ok (.goto 4, 3) := by decide +kernel
theorem dX12_areFeuding_17 : decode cX12_areFeuding 17 = .ok (.iconst 0, 1) := by decide +kernel
theorem dX12_areFeuding_18 : decode cX12_areFeuding 18 = .ok (.ireturn, 1) := by decide +kernel
theorem dX12_setFeud_0 : decode cX12_setFeud 0 = .ok (.aload_n 0, 1) := by decide +kernel
theorem dX12_setFeud_1 : decode cX12_setFeud 1 = .ok (.getfield 41, 3) := by decide +kernel
theorem dX12_setFeud_4 : decode cX12_setFeud 4 = .ok (.iload_n 1, 1) := by decide +kernel
theorem dX12_setFeud_5 : decode cX12_setFeud 5 = .ok (.iload_n 3, 1) := by decide +kernel
theorem dX12_setFeud_6 : decode cX12_setFeud 6 = .ok (.ifCond .eq 16, 3) := by decide +kernel
theorem dX12_setFeud_9 : decode cX12_setFeud 9 = .ok (.aload_n 0, 1) := by decide +kernel
theorem dX12_setFeud_10 : decode cX12_setFeud 10 = .ok (.getfield 41, 3) := by decide +kernel
theorem dX12_setFeud_13 : decode cX12_setFeud 13 = .ok (.iload_n 1, 1) := by decide +kernel
theorem dX12_setFeud_14 : decode cX12_setFeud 14 = .ok (.iaload, 1) := by decide +kernel
theorem dX12_setFeud_15 : decode cX12_setFeud 15 = .ok (.iconst 1, 1) := by decide +kernel
theorem dX12_setFeud_16 : decode cX12_setFeud 16 = .ok (.iload_n 2, 1) := by decide +kernel
theorem dX12_setFeud_17 : decode cX12_setFeud 17 = .ok (.ishl, 1) := by decide +kernel
theorem dX12_setFeud_18 : decode cX12_setFeud 18 = .ok (.ior, 1) := by decide +kernel
theorem dX12_setFeud_19 : decode cX12_setFeud 19 = .ok (.goto 15, 3) := by decide +kernel
theorem dX12_setFeud_22 : decode cX12_setFeud 22 = .ok (.aload_n 0, 1) := by decide +kernel
theorem dX12_setFeud_23 : decode cX12_setFeud 23 = .ok (.getfield 41, 3) := by decide +kernel
theorem dX12_setFeud_26 : decode cX12_setFeud 26 = .ok (.iload_n 1, 1) := by decide +kernel
theorem dX12_setFeud_27 : decode cX12_setFeud 27 = .ok (.iaload, 1) := by decide +kernel
theorem dX12_setFeud_28 : decode cX12_setFeud 28 = .ok (.iconst 1, 1) := by decide +kernel
theorem dX12_setFeud_29 : decode cX12_setFeud 29 = .ok (.iload_n 2, 1) := by decide +kernel
theorem dX12_setFeud_30 : decode cX12_setFeud 30 = .ok (.ishl, 1) := by decide +kernel
theorem dX12_setFeud_31 : decode cX12_setFeud 31 = .ok (.iconst (-1), 1) := by decide +kernel
theorem dX12_setFeud_32 : decode cX12_setFeud 32 = .ok (.ixor, 1) := by decide +kernel
theorem dX12_setFeud_33 : decode cX12_setFeud 33 = .ok (.iand, 1) := by decide +kernel
theorem dX12_setFeud_34 : decode cX12_setFeud 34 = .ok (.iastore, 1) := by decide +kernel
theorem dX12_setFeud_35 : decode cX12_setFeud 35 = .ok (.aload_n 0, 1) := by decide +kernel
theorem dX12_setFeud_36 : decode cX12_setFeud 36 = .ok (.getfield 41, 3) := by decide +kernel
theorem dX12_setFeud_39 : decode cX12_setFeud 39 = .ok (.iload_n 2, 1) := by decide +kernel
theorem dX12_setFeud_40 : decode cX12_setFeud 40 = .ok (.iload_n 3, 1) := by decide +kernel
theorem dX12_setFeud_41 : decode cX12_setFeud 41 = .ok (.ifCond .eq 16, 3) := by decide +kernel
theorem dX12_setFeud_44 : decode cX12_setFeud 44 = .ok (.aload_n 0, 1) := by decide +kernel
theorem dX12_setFeud_45 : decode cX12_setFeud 45 = .ok (.getfield 41, 3) := by decide +kernel
theorem dX12_setFeud_48 : decode cX12_setFeud 48 = .ok (.iload_n 2, 1) := by decide +kernel
theorem dX12_setFeud_49 : decode cX12_setFeud 49 = .ok (.iaload, 1) := by decide +kernel
theorem dX12_setFeud_50 : decode cX12_setFeud 50 = .ok (.iconst 1, 1) := by decide +kernel
theorem dX12_setFeud_51 : decode cX12_setFeud 51 = .ok (.iload_n 1, 1) := by decide +kernel
theorem dX12_setFeud_52 : decode cX12_setFeud 52 = .ok (.ishl, 1) := by decide +kernel
theorem dX12_setFeud_53 : decode cX12_setFeud 53 = .ok (.ior, 1) := by decide +kernel
theorem dX12_setFeud_54 : decode cX12_setFeud 54 = .ok (.goto 15, 3) := by decide +kernel
theorem dX12_setFeud_57 : decode cX12_setFeud 57 = .ok (.aload_n 0, 1) := by decide +kernel
theorem dX12_setFeud_58 : decode cX12_setFeud 58 = .ok (.getfield 41, 3) := by decide +kernel
theorem dX12_setFeud_61 : decode cX12_setFeud 61 = .ok (.iload_n 2, 1) := by decide +kernel
theorem dX12_setFeud_62 : decode cX12_setFeud 62 = .ok (.iaload, 1) := by decide +kernel
theorem dX12_setFeud_63 : decode cX12_setFeud 63 = .ok (.iconst 1, 1) := by decide +kernel
theorem dX12_setFeud_64 : decode cX12_setFeud 64 = .ok (.iload_n 1, 1) := by decide +kernel
theorem dX12_setFeud_65 : decode cX12_setFeud 65 = .ok (.ishl, 1) := by decide +kernel
theorem dX12_setFeud_66 : decode cX12_setFeud 66 = .ok (.iconst (-1), 1) := by decide +kernel
theorem dX12_setFeud_67 : decode cX12_setFeud 67 = .ok (.ixor, 1) := by decide +kernel
theorem dX12_setFeud_68 : decode cX12_setFeud 68 = .ok (.iand, 1) := by decide +kernel
theorem dX12_setFeud_69 : decode cX12_setFeud 69 = .ok (.iastore, 1) := by decide +kernel
theorem dX12_setFeud_70 : decode cX12_setFeud 70 = .ok (.return_, 1) := by decide +kernel
theorem dX12_feud_0 : decode cX12_feud 0 = .ok (.aload_n 0, 1) := by decide +kernel
theorem dX12_feud_1 : decode cX12_feud 1 = .ok (.iconst 0, 1) := by decide +kernel
theorem dX12_feud_2 : decode cX12_feud 2 = .ok (.putfield 202, 3) := by decide +kernel
theorem dX12_feud_5 : decode cX12_feud 5 = .ok (.aload_n 0, 1) := by decide +kernel
theorem dX12_feud_6 : decode cX12_feud 6 = .ok (.iload_n 1, 1) := by decide +kernel
theorem dX12_feud_7 : decode cX12_feud 7 = .ok (.invokevirtual 230, 3) := by decide +kernel
theorem dX12_feud_10 : decode cX12_feud 10 = .ok (.ifCond .eq 26, 3) := by decide +kernel
theorem dX12_feud_13 : decode cX12_feud 13 = .ok (.aload_n 0, 1) := by decide +kernel
theorem dX12_feud_14 : decode cX12_feud 14 = .ok (.iload_n 2, 1) := by decide +kernel
theorem dX12_feud_15 : decode cX12_feud 15 = .ok (.invokevirtual 230, 3) := by decide +kernel
theorem dX12_feud_18 : decode cX12_feud 18 = .ok (.ifCond .eq 18, 3) := by decide +kernel
theorem dX12_feud_21 : decode cX12_feud 21 = .ok (.iload_n 1, 1) := by decide +kernel
theorem dX12_feud_22 : decode cX12_feud 22 = .ok (.iload_n 2, 1) := by decide +kernel
theorem dX12_feud_23 : decode cX12_feud 23 = .ok (.if_icmp .eq 13, 3) := by decide +kernel
theorem dX12_feud_26 : decode cX12_feud 26 = .ok (.aload_n 0, 1) := by decide +kernel
theorem dX12_feud_27 : decode cX12_feud 27 = .ok (.iload_n 1, 1) := by decide +kernel
theorem dX12_feud_28 : decode cX12_feud 28 = .ok (.iload_n 2, 1) := by decide +kernel
theorem dX12_feud_29 : decode cX12_feud 29 = .ok (.invokevirtual 233, 3) := by decide +kernel
theorem dX12_feud_32 : decode cX12_feud 32 = .ok (.iload_n 3, 1) := by decide +kernel
theorem dX12_feud_33 : decode cX12_feud 33 = .ok (.if_icmp .ne 5, 3) := by decide +kernel
theorem dX12_feud_36 : decode cX12_feud 36 = .ok (.iconst 0, 1) := by decide +kernel
theorem dX12_feud_37 : decode cX12_feud 37 = .ok (.ireturn, 1) := by decide +kernel
theorem dX12_feud_38 : decode cX12_feud 38 = .ok (.aload_n 0, 1) := by decide +kernel
theorem dX12_feud_39 : decode cX12_feud 39 = .ok (.iload_n 1, 1) := by decide +kernel
theorem dX12_feud_40 : decode cX12_feud 40 = .ok (.iload_n 2, 1) := by decide +kernel
theorem dX12_feud_41 : decode cX12_feud 41 = .ok (.iload_n 3, 1) := by decide +kernel
theorem dX12_feud_42 : decode cX12_feud 42 = .ok (.invokevirtual 237, 3) := by decide +kernel
theorem dX12_feud_45 : decode cX12_feud 45 = .ok (.iconst 1, 1) := by decide +kernel
theorem dX12_feud_46 : decode cX12_feud 46 = .ok (.ireturn, 1) := by decide +kernel
theorem dX12_harvest_0 : decode cX12_harvest 0 = .ok (.aload_n 0, 1) := by decide +kernel
theorem dX12_harvest_1 : decode cX12_harvest 1 = .ok (.iconst 0, 1) := by decide +kernel
theorem dX12_harvest_2 : decode cX12_harvest 2 = .ok (.putfield 202, 3) := by decide +kernel
theorem dX12_harvest_5 : decode cX12_harvest 5 = .ok (.aload_n 0, 1) := by decide +kernel
theorem dX12_harvest_6 : decode cX12_harvest 6 = .ok (.iload_n 1, 1) := by decide +kernel
theorem dX12_harvest_7 : decode cX12_harvest 7 = .ok (.invokevirtual 230, 3) := by decide +kernel
theorem dX12_harvest_10 : decode cX12_harvest 10 = .ok (.ifCond .eq 13, 3) := by decide +kernel
theorem dX12_harvest_13 : decode cX12_harvest 13 = .ok (.iload_n 2, 1) := by decide +kernel
theorem dX12_harvest_14 : decode cX12_harvest 14 = .ok (.iconst 1, 1) := by decide +kernel
theorem dX12_harvest_15 : decode cX12_harvest 15 = .ok (.ldc 229, 2) := by decide +kernel
theorem dX12_harvest_17 : decode cX12_harvest 17 = .ok (.invokestatic 218, 3) := by decide +kernel
theorem dX12_harvest_20 : decode cX12_harvest 20 = .ok (.ifCond .ne 5, 3) := by decide +kernel
theorem dX12_harvest_23 : decode cX12_harvest 23 = .ok (.iconst (-1), 1) := by decide +kernel
theorem dX12_harvest_24 : decode cX12_harvest 24 = .ok (.ireturn, 1) := by decide +kernel
theorem dX12_harvest_25 : decode cX12_harvest 25 = .ok (.aload_n 0, 1) := by decide +kernel
theorem dX12_harvest_26 : decode cX12_harvest 26 = .ok (.getfield 38, 3) := by decide +kernel
theorem dX12_harvest_29 : decode cX12_harvest 29 = .ok (.iload_n 1, 1) := by decide +kernel
theorem dX12_harvest_30 : decode cX12_harvest 30 = .ok (.dup2, 1) := by decide +kernel
theorem dX12_harvest_31 : decode cX12_harvest 31 = .ok (.iaload, 1) := by decide +kernel
theorem dX12_harvest_32 : decode cX12_harvest 32 = .ok (.iload_n 2, 1) := by decide +kernel
theorem dX12_harvest_33 : decode cX12_harvest 33 = .ok (.iadd, 1) := by decide +kernel
theorem dX12_harvest_34 : decode cX12_harvest 34 = .ok (.iastore, 1) := by decide +kernel
theorem dX12_harvest_35 : decode cX12_harvest 35 = .ok (.aload_n 0, 1) := by decide +kernel
theorem dX12_harvest_36 : decode cX12_harvest 36 = .ok (.getfield 38, 3) := by decide +kernel
theorem dX12_harvest_39 : decode cX12_harvest 39 = .ok (.iload_n 1, 1) := by decide +kernel
theorem dX12_harvest_40 : decode cX12_harvest 40 = .ok (.iaload, 1) := by decide +kernel
theorem dX12_harvest_41 : decode cX12_harvest 41 = .ok (.ireturn, 1) := by decide +kernel
theorem dX12_parent_0 : decode cX12_parent 0 = .ok (.aload_n 0, 1) := by decide +kernel
theorem dX12_parent_1 : decode cX12_parent 1 = .ok (.iconst 0, 1) := by decide +kernel
theorem dX12_parent_2 : decode cX12_parent 2 = .ok (.putfield 202, 3) := by decide +kernel
theorem dX12_parent_5 : decode cX12_parent 5 = .ok (.aload_n 0, 1) := by decide +kernel
theorem dX12_parent_6 : decode cX12_parent 6 = .ok (.getfield 72, 3) := by decide +kernel
theorem dX12_parent_9 : decode cX12_parent 9 = .ok (.iconst 0, 1) := by decide +kernel
theorem dX12_parent_10 : decode cX12_parent 10 = .ok (.iaload, 1) := by decide +kernel
theorem dX12_parent_11 : decode cX12_parent 11 = .ok (.bipush 60, 2) := by decide +kernel
theorem dX12_parent_13 : decode cX12_parent 13 = .ok (.if_icmp .eq 41, 3) := by decide +kernel
theorem dX12_parent_16 : decode cX12_parent 16 = .ok (.aload_n 0, 1) := by decide +kernel
theorem dX12_parent_17 : decode cX12_parent 17 = .ok (.iload_n 1, 1) := by decide +kernel
theorem dX12_parent_18 : decode cX12_parent 18 = .ok (.invokevirtual 222, 3) := by decide +kernel
theorem dX12_parent_21 : decode cX12_parent 21 = .ok (.ifCond .eq 33, 3) := by decide +kernel
theorem dX12_parent_24 : decode cX12_parent 24 = .ok (.aload_n 0, 1) := by decide +kernel
theorem dX12_parent_25 : decode cX12_parent 25 = .ok (.iload_n 2, 1) := by decide +kernel
theorem dX12_parent_26 : decode cX12_parent 26 = .ok (.invokevirtual 222, 3) := by decide +kernel
theorem dX12_parent_29 : decode cX12_parent 29 = .ok (.ifCond .eq 25, 3) := by decide +kernel
theorem dX12_parent_32 : decode cX12_parent 32 = .ok (.iload_n 3, 1) := by decide +kernel
theorem dX12_parent_33 : decode cX12_parent 33 = .ok (.invokestatic 226, 3) := by decide +kernel
theorem dX12_parent_36 : decode cX12_parent 36 = .ok (.ifCond .eq 18, 3) := by decide +kernel
theorem dX12_parent_39 : decode cX12_parent 39 = .ok (.aload_n 0, 1) := by decide +kernel
theorem dX12_parent_40 : decode cX12_parent 40 = .ok (.getfield 56, 3) := by decide +kernel
theorem dX12_parent_43 : decode cX12_parent 43 = .ok (.iload_n 2, 1) := by decide +kernel
theorem dX12_parent_44 : decode cX12_parent 44 = .ok (.iaload, 1) := by decide +kernel
theorem dX12_parent_45 : decode cX12_parent 45 = .ok (.aload_n 0, 1) := by decide +kernel
theorem dX12_parent_46 : decode cX12_parent 46 = .ok (.getfield 56, 3) := by decide +kernel
theorem dX12_parent_49 : decode cX12_parent 49 = .ok (.iload_n 1, 1) := by decide +kernel
theorem dX12_parent_50 : decode cX12_parent 50 = .ok (.iaload, 1) := by decide +kernel
theorem dX12_parent_51 : decode cX12_parent 51 = .ok (.if_icmp .lt 5, 3) := by decide +kernel
theorem dX12_parent_54 : decode cX12_parent 54 = .ok (.iconst (-1), 1) := by decide +kernel
theorem dX12_parent_55 : decode cX12_parent 55 = .ok (.ireturn, 1) := by decide +kernel
theorem dX12_parent_56 : decode cX12_parent 56 = .ok (.iconst 4, 1) := by decide +kernel
theorem dX12_parent_57 : decode cX12_parent 57 = .ok (.aload_n 0, 1) := by decide +kernel
theorem dX12_parent_58 : decode cX12_parent 58 = .ok (.getfield 72, 3) := by decide +kernel
theorem dX12_parent_61 : decode cX12_parent 61 = .ok (.iconst 0, 1) := by decide +kernel
theorem dX12_parent_62 : decode cX12_parent 62 = .ok (.iaload, 1) := by decide +kernel
theorem dX12_parent_63 : decode cX12_parent 63 = .ok (.imul, 1) := by decide +kernel
theorem dX12_parent_64 : decode cX12_parent 64 = .ok (.istore 4, 2) := by decide +kernel
theorem dX12_parent_66 : decode cX12_parent 66 = .ok (.aload_n 0, 1) := by decide +kernel
theorem dX12_parent_67 : decode cX12_parent 67 = .ok (.getfield 75, 3) := by decide +kernel
theorem dX12_parent_70 : decode cX12_parent 70 = .ok (.iload 4, 2) := by decide +kernel
theorem dX12_parent_72 : decode cX12_parent 72 = .ok (.iload_n 1, 1) := by decide +kernel
theorem dX12_parent_73 : decode cX12_parent 73 = .ok (.iastore, 1) := by decide +kernel
theorem dX12_parent_74 : decode cX12_parent 74 = .ok (.aload_n 0, 1) := by decide +kernel
theorem dX12_parent_75 : decode cX12_parent 75 = .ok (.getfield 75, 3) := by decide +kernel
theorem dX12_parent_78 : decode cX12_parent 78 = .ok (.iload 4, 2) := by decide +kernel
theorem dX12_parent_80 : decode cX12_parent 80 = .ok (.iconst 1, 1) := by decide +kernel
theorem dX12_parent_81 : decode cX12_parent 81 = .ok (.iadd, 1) := by decide +kernel
theorem dX12_parent_82 : decode cX12_parent 82 = .ok (.iload_n 2, 1) := by decide +kernel
theorem dX12_parent_83 : decode cX12_parent 83 = .ok (.iastore, 1) := by decide +kernel
theorem dX12_parent_84 : decode cX12_parent 84 = .ok (.aload_n 0, 1) := by decide +kernel
theorem dX12_parent_85 : decode cX12_parent 85 = .ok (.getfield 75, 3) := by decide +kernel
theorem dX12_parent_88 : decode cX12_parent 88 = .ok (.iload 4, 2) := by decide +kernel
theorem dX12_parent_90 : decode cX12_parent 90 = .ok (.iconst 2, 1) := by decide +kernel
theorem dX12_parent_91 : decode cX12_parent 91 = .ok (.iadd, 1) := by decide +kernel
theorem dX12_parent_92 : decode cX12_parent 92 = .ok (.iload_n 3, 1) := by decide +kernel
theorem dX12_parent_93 : decode cX12_parent 93 = .ok (.iastore, 1) := by decide +kernel
theorem dX12_parent_94 : decode cX12_parent 94 = .ok (.aload_n 0, 1) := by decide +kernel
theorem dX12_parent_95 : decode cX12_parent 95 = .ok (.getfield 75, 3) := by decide +kernel
theorem dX12_parent_98 : decode cX12_parent 98 = .ok (.iload 4, 2) := by decide +kernel
theorem dX12_parent_100 : decode cX12_parent 100 = .ok (.iconst 3, 1) := by decide +kernel
theorem dX12_parent_101 : decode cX12_parent 101 = .ok (.iadd, 1) := by decide +kernel
theorem dX12_parent_102 : decode cX12_parent 102 = .ok (.aload_n 0, 1) := by decide +kernel
theorem dX12_parent_103 : decode cX12_parent 103 = .ok (.getfield 23, 3) := by decide +kernel
theorem dX12_parent_106 : decode cX12_parent 106 = .ok (.iconst 0, 1) := by decide +kernel
theorem dX12_parent_107 : decode cX12_parent 107 = .ok (.iaload, 1) := by decide +kernel
theorem dX12_parent_108 : decode cX12_parent 108 = .ok (.iastore, 1) := by decide +kernel
theorem dX12_parent_109 : decode cX12_parent 109 = .ok (.aload_n 0, 1) := by decide +kernel
theorem dX12_parent_110 : decode cX12_parent 110 = .ok (.getfield 72, 3) := by decide +kernel
theorem dX12_parent_113 : decode cX12_parent 113 = .ok (.iconst 0, 1) := by decide +kernel
theorem dX12_parent_114 : decode cX12_parent 114 = .ok (.dup2, 1) := by decide +kernel
theorem dX12_parent_115 : decode cX12_parent 115 = .ok (.iaload, 1) := by decide +kernel
theorem dX12_parent_116 : decode cX12_parent 116 = .ok (.iconst 1, 1) := by decide +kernel
theorem dX12_parent_117 : decode cX12_parent 117 = .ok (.iadd, 1) := by decide +kernel
theorem dX12_parent_118 : decode cX12_parent 118 = .ok (.iastore, 1) := by decide +kernel
theorem dX12_parent_119 : decode cX12_parent 119 = .ok (.aload_n 0, 1) := by decide +kernel
theorem dX12_parent_120 : decode cX12_parent 120 = .ok (.getfield 72, 3) := by decide +kernel
theorem dX12_parent_123 : decode cX12_parent 123 = .ok (.iconst 0, 1) := by decide +kernel
theorem dX12_parent_124 : decode cX12_parent 124 = .ok (.iaload, 1) := by decide +kernel
theorem dX12_parent_125 : decode cX12_parent 125 = .ok (.iconst 1, 1) := by decide +kernel
theorem dX12_parent_126 : decode cX12_parent 126 = .ok (.isub, 1) := by decide +kernel
theorem dX12_parent_127 : decode cX12_parent 127 = .ok (.ireturn, 1) := by decide +kernel
theorem dX12_findTakes_0 : decode cX12_findTakes 0 = .ok (.iconst 0, 1) := by decide +kernel
theorem dX12_findTakes_1 : decode cX12_findTakes 1 = .ok (.istore_n 2, 1) := by decide +kernel
theorem dX12_findTakes_2 : decode cX12_findTakes 2 = .ok (.iload_n 2, 1) := by decide +kernel
theorem dX12_findTakes_3 : decode cX12_findTakes 3 = .ok (.iconst 5, 1) := by decide +kernel
theorem dX12_findTakes_4 : decode cX12_findTakes 4 = .ok (.if_icmp .ge 27, 3) := by decide +kernel
theorem dX12_findTakes_7 : decode cX12_findTakes 7 = .ok (.aload_n 0, 1) := by decide +kernel
theorem dX12_findTakes_8 : decode cX12_findTakes 8 = .ok (.getfield 129, 3) := by decide +kernel
theorem dX12_findTakes_11 : decode cX12_findTakes 11 = .ok (.iload_n 2, 1) := by decide +kernel
theorem dX12_findTakes_12 : decode cX12_findTakes 12 = .ok (.iload_n 2, 1) := by decide +kernel
theorem dX12_findTakes_13 : decode cX12_findTakes 13 = .ok (.iload_n 1, 1) := by decide +kernel
theorem dX12_findTakes_14 : decode cX12_findTakes 14 = .ok (.if_icmp .ne 7, 3) := by decide +kernel
theorem dX12_findTakes_17 : decode cX12_findTakes 17 = .ok (.iconst 0, 1) := by decide +kernel
theorem dX12_findTakes_18 : decode cX12_findTakes 18 = .ok (.goto 6, 3) := by decide +kernel
theorem dX12_findTakes_21 : decode cX12_findTakes 21 = .ok (.sipush 1000, 3) := by decide +kernel
theorem dX12_findTakes_24 : decode cX12_findTakes 24 = .ok (.iastore, 1) := by decide +kernel
theorem dX12_findTakes_25 : decode cX12_findTakes 25 = .ok (.iinc 2 1, 3) := by decide +kernel
theorem dX12_findTakes_28 : decode cX12_findTakes 28 = .ok (.goto (-26), 3) := by decide +kernel
theorem dX12_findTakes_31 : decode cX12_findTakes 31 = .ok (.iconst 0, 1) := by decide +kernel
theorem dX12_findTakes_32 : decode cX12_findTakes 32 = .ok (.istore_n 2, 1) := by decide +kernel
theorem dX12_findTakes_33 : decode cX12_findTakes 33 = .ok (.iload_n 2, 1) := by decide +kernel
theorem dX12_findTakes_34 : decode cX12_findTakes 34 = .ok (.iconst 5, 1) := by decide +kernel
theorem dX12_findTakes_35 : decode cX12_findTakes 35 = .ok (.if_icmp .ge 119, 3) := by decide +kernel
theorem dX12_findTakes_38 : decode cX12_findTakes 38 = .ok (.iconst 0, 1) := by decide +kernel
theorem dX12_findTakes_39 : decode cX12_findTakes 39 = .ok (.istore_n 3, 1) := by decide +kernel
theorem dX12_findTakes_40 : decode cX12_findTakes 40 = .ok (.iload_n 3, 1) := by decide +kernel
theorem dX12_findTakes_41 : decode cX12_findTakes 41 = .ok (.iconst 5, 1) := by decide +kernel
theorem dX12_findTakes_42 : decode cX12_findTakes 42 = .ok (.if_icmp .ge 106, 3) := by decide +kernel
theorem dX12_findTakes_45 : decode cX12_findTakes 45 = .ok (.iconst 0, 1) := by decide +kernel
theorem dX12_findTakes_46 : decode cX12_findTakes 46 = .ok (.istore 4, 2) := by decide +kernel
theorem dX12_findTakes_48 : decode cX12_findTakes 48 = .ok (.iload 4, 2) := by decide +kernel
theorem dX12_findTakes_50 : decode cX12_findTakes 50 = .ok (.iconst 5, 1) := by decide +kernel
theorem dX12_findTakes_51 : decode cX12_findTakes 51 = .ok (.if_icmp .ge 91, 3) := by decide +kernel
theorem dX12_findTakes_54 : decode cX12_findTakes 54 = .ok (.aload_n 0, 1) := by decide +kernel
theorem dX12_findTakes_55 : decode cX12_findTakes 55 = .ok (.getfield 26, 3) := by decide +kernel
theorem dX12_findTakes_58 : decode cX12_findTakes 58 = .ok (.iconst 5, 1) := by decide +kernel
theorem dX12_findTakes_59 : decode cX12_findTakes 59 = .ok (.iload_n 3, 1) := by decide +kernel
theorem dX12_findTakes_60 : decode cX12_findTakes 60 = .ok (.imul, 1) := by decide +kernel
theorem dX12_findTakes_61 : decode cX12_findTakes 61 = .ok (.iload 4, 2) := by decide +kernel
theorem dX12_findTakes_63 : decode cX12_findTakes 63 = .ok (.iadd, 1) := by decide +kernel
theorem dX12_findTakes_64 : decode cX12_findTakes 64 = .ok (.iaload, 1) := by decide +kernel
theorem dX12_findTakes_65 : decode cX12_findTakes 65 = .ok (.istore 5, 2) := by decide +kernel
theorem dX12_findTakes_67 : decode cX12_findTakes 67 = .ok (.iload_n 3, 1) := by decide +kernel
theorem dX12_findTakes_68 : decode cX12_findTakes 68 = .ok (.iload 4, 2) := by decide +kernel
theorem dX12_findTakes_70 : decode cX12_findTakes 70 = .ok (.if_icmp .eq 32, 3) := by decide +kernel
theorem dX12_findTakes_73 : decode cX12_findTakes 73 = .ok (.iload 5, 2) := by decide +kernel
theorem dX12_findTakes_75 : decode cX12_findTakes 75 = .ok (.iconst (-1), 1) := by decide +kernel
theorem dX12_findTakes_76 : decode cX12_findTakes 76 = .ok (.if_icmp .eq 26, 3) := by decide +kernel
theorem dX12_findTakes_79 : decode cX12_findTakes 79 = .ok (.aload_n 0, 1) := by decide +kernel
theorem dX12_findTakes_80 : decode cX12_findTakes 80 = .ok (.getfield 129, 3) := by decide +kernel
theorem dX12_findTakes_83 : decode cX12_findTakes 83 = .ok (.iload_n 3, 1) := by decide +kernel
theorem dX12_findTakes_84 : decode cX12_findTakes 84 = .ok (.iaload, 1) := by decide +kernel
theorem dX12_findTakes_85 : decode cX12_findTakes 85 = .ok (.iload 5, 2) := by decide +kernel
theorem dX12_findTakes_87 : decode cX12_findTakes 87 = .ok (.iadd, 1) := by decide +kernel
theorem dX12_findTakes_88 : decode cX12_findTakes 88 = .ok (.aload_n 0, 1) := by decide +kernel
theorem dX12_findTakes_89 : decode cX12_findTakes 89 = .ok (.getfield 129, 3) := by decide +kernel
theorem dX12_findTakes_92 : decode cX12_findTakes 92 = .ok (.iload 4, 2) := by decide +kernel
theorem dX12_findTakes_94 : decode cX12_findTakes 94 = .ok (.iaload, 1) := by decide +kernel
theorem dX12_findTakes_95 : decode cX12_findTakes 95 = .ok (.if_icmp .ge 7, 3) := by decide +kernel
theorem dX12_findTakes_98 : decode cX12_findTakes 98 = .ok (.iconst 1, 1) := by decide +kernel
theorem dX12_findTakes_99 : decode cX12_findTakes 99 = .ok (.goto 4, 3) := by decide +kernel
theorem dX12_findTakes_102 : decode cX12_findTakes 102 = .ok (.iconst 0, 1) := by decide +kernel
theorem dX12_findTakes_103 : decode cX12_findTakes 103 = .ok (.istore 6, 2) := by decide +kernel
theorem dX12_findTakes_105 : decode cX12_findTakes 105 = .ok (.aload_n 0, 1) := by decide +kernel
theorem dX12_findTakes_106 : decode cX12_findTakes 106 = .ok (.getfield 129, 3) := by decide +kernel
theorem dX12_findTakes_109 : decode cX12_findTakes 109 = .ok (.iload 4, 2) := by decide +kernel
theorem dX12_findTakes_111 : decode cX12_findTakes 111 = .ok (.iload 6, 2) := by decide +kernel
theorem dX12_findTakes_113 : decode cX12_findTakes 113 = .ok (.ifCond .eq 15, 3) := by decide +kernel
theorem dX12_findTakes_116 : decode cX12_findTakes 116 = .ok (.aload_n 0, 1) := by decide +kernel
theorem dX12_findTakes_117 : decode cX12_findTakes 117 = .ok (.getfield 129, 3) := by decide +kernel
theorem dX12_findTakes_120 : decode cX12_findTakes 120 = .ok (.iload_n 3, 1) := by decide +kernel
theorem dX12_findTakes_121 : decode cX12_findTakes 121 = .ok (.iaload, 1) := by decide +kernel
theorem dX12_findTakes_122 : decode cX12_findTakes 122 = .ok (.iload 5, 2) := by decide +kernel
theorem dX12_findTakes_124 : decode cX12_findTakes 124 = .ok (.iadd, 1) := by decide +kernel
theorem dX12_findTakes_125 : decode cX12_findTakes 125 = .ok (.goto 10, 3) := by decide +kernel
theorem dX12_findTakes_128 : decode cX12_findTakes 128 = .ok (.aload_n 0, 1) := by decide +kernel
theorem dX12_findTakes_129 : decode cX12_findTakes 129 = .ok (.getfield 129, 3) := by decide +kernel
theorem dX12_findTakes_132 : decode cX12_findTakes 132 = .ok (.iload 4, 2) := by decide +kernel
theorem dX12_findTakes_134 : decode cX12_findTakes 134 = .ok (.iaload, 1) := by decide +kernel
theorem dX12_findTakes_135 : decode cX12_findTakes 135 = .ok (.iastore, 1) := by decide +kernel
theorem dX12_findTakes_136 : decode cX12_findTakes 136 = .ok (.iinc 4 1, 3) := by decide +kernel
theorem dX12_findTakes_139 : decode cX12_findTakes 139 = .ok (.goto (-91), 3) := by decide +kernel
theorem dX12_findTakes_142 : decode cX12_findTakes 142 = .ok (.iinc 3 1, 3) := by decide +kernel
theorem dX12_findTakes_145 : decode cX12_findTakes 145 = .ok (.goto (-105), 3) := by decide +kernel
theorem dX12_findTakes_148 : decode cX12_findTakes 148 = .ok (.iinc 2 1, 3) := by decide +kernel
theorem dX12_findTakes_151 : decode cX12_findTakes 151 = .ok (.goto (-118), 3) := by decide +kernel
theorem dX12_findTakes_154 : decode cX12_findTakes 154 = .ok (.return_, 1) := by decide +kernel
theorem dX12_heard_0 : decode cX12_heard 0 = .ok (.aload_n 0, 1) := by decide +kernel
theorem dX12_heard_1 : decode cX12_heard 1 = .ok (.iconst 0, 1) := by decide +kernel
theorem dX12_heard_2 : decode cX12_heard 2 = .ok (.putfield 202, 3) := by decide +kernel
theorem dX12_heard_5 : decode cX12_heard 5 = .ok (.iload_n 1, 1) := by decide +kernel
theorem dX12_heard_6 : decode cX12_heard 6 = .ok (.iconst 0, 1) := by decide +kernel
theorem dX12_heard_7 : decode cX12_heard 7 = .ok (.aload_n 0, 1) := by decide +kernel
theorem dX12_heard_8 : decode cX12_heard 8 = .ok (.getfield 72, 3) := by decide +kernel
theorem dX12_heard_11 : decode cX12_heard 11 = .ok (.iconst 0, 1) := by decide +kernel
theorem dX12_heard_12 : decode cX12_heard 12 = .ok (.iaload, 1) := by decide +kernel
theorem dX12_heard_13 : decode cX12_heard 13 = .ok (.iconst 1, 1) := by decide +kernel
theorem dX12_heard_14 : decode cX12_heard 14 = .ok (.isub, 1) := by decide +kernel
theorem dX12_heard_15 : decode cX12_heard 15 = .ok (.invokestatic 218, 3) := by decide +kernel
theorem dX12_heard_18 : decode cX12_heard 18 = .ok (.ifCond .eq 10, 3) := by decide +kernel
theorem dX12_heard_21 : decode cX12_heard 21 = .ok (.iload_n 2, 1) := by decide +kernel
theorem dX12_heard_22 : decode cX12_heard 22 = .ok (.invokestatic 226, 3) := by decide +kernel
theorem dX12_heard_25 : decode cX12_heard 25 = .ok (.ifCond .ne 5, 3) := by decide +kernel
theorem dX12_heard_28 : decode cX12_heard 28 = .ok (.iconst (-1), 1) := by decide +kernel
theorem dX12_heard_29 : decode cX12_heard 29 = .ok (.ireturn, 1) := by decide +kernel
theorem dX12_heard_30 : decode cX12_heard 30 = .ok (.aload_n 0, 1) := by decide +kernel
theorem dX12_heard_31 : decode cX12_heard 31 = .ok (.iload_n 2, 1) := by decide +kernel
theorem dX12_heard_32 : decode cX12_heard 32 = .ok (.invokevirtual 241, 3) := by decide +kernel
theorem dX12_heard_35 : decode cX12_heard 35 = .ok (.aload_n 0, 1) := by decide +kernel
theorem dX12_heard_36 : decode cX12_heard 36 = .ok (.getfield 129, 3) := by decide +kernel
theorem dX12_heard_39 : decode cX12_heard 39 = .ok (.aload_n 0, 1) := by decide +kernel
theorem dX12_heard_40 : decode cX12_heard 40 = .ok (.getfield 75, 3) := by decide +kernel
theorem dX12_heard_43 : decode cX12_heard 43 = .ok (.iconst 4, 1) := by decide +kernel
theorem dX12_heard_44 : decode cX12_heard 44 = .ok (.iload_n 1, 1) := by decide +kernel
theorem dX12_heard_45 : decode cX12_heard 45 = .ok (.imul, 1) := by decide +kernel
theorem dX12_heard_46 : decode cX12_heard 46 = .ok (.iconst 2, 1) := by decide +kernel
theorem dX12_heard_47 : decode cX12_heard 47 = .ok (.iadd, 1) := by decide +kernel
theorem dX12_heard_48 : decode cX12_heard 48 = .ok (.iaload, 1) := by decide +kernel
theorem dX12_heard_49 : decode cX12_heard 49 = .ok (.iaload, 1) := by decide +kernel
theorem dX12_heard_50 : decode cX12_heard 50 = .ok (.istore_n 3, 1) := by decide +kernel
theorem dX12_heard_51 : decode cX12_heard 51 = .ok (.iload_n 3, 1) := by decide +kernel
theorem dX12_heard_52 : decode cX12_heard 52 = .ok (.sipush 1000, 3) := by decide +kernel
theorem dX12_heard_55 : decode cX12_heard 55 = .ok (.if_icmp .lt 7, 3) := by decide +kernel
theorem dX12_heard_58 : decode cX12_heard 58 = .ok (.iconst (-1), 1) := by decide +kernel
theorem dX12_heard_59 : decode cX12_heard 59 = .ok (.goto 15, 3) := by decide +kernel
theorem dX12_heard_62 : decode cX12_heard 62 = .ok (.aload_n 0, 1) := by decide +kernel
theorem dX12_heard_63 : decode cX12_heard 63 = .ok (.getfield 75, 3) := by decide +kernel
theorem dX12_heard_66 : decode cX12_heard 66 = .ok (.iconst 4, 1) := by decide +kernel
theorem dX12_heard_67 : decode cX12_heard 67 = .ok (.iload_n 1, 1) := by decide +kernel
theorem dX12_heard_68 : decode cX12_heard 68 = .ok (.imul, 1) := by decide +kernel
theorem dX12_heard_69 : decode cX12_heard 69 = .ok (.iconst 3, 1) := by decide +kernel
theorem dX12_heard_70 : decode cX12_heard 70 = .ok (.iadd, 1) := by decide +kernel
theorem dX12_heard_71 : decode cX12_heard 71 = .ok (.iaload, 1) := by decide +kernel
theorem dX12_heard_72 : decode cX12_heard 72 = .ok (.iload_n 3, 1) := by decide +kernel
theorem dX12_heard_73 : decode cX12_heard 73 = .ok (.iadd, 1) := by decide +kernel
theorem dX12_heard_74 : decode cX12_heard 74 = .ok (.ireturn, 1) := by decide +kernel
theorem dX12_die_0 : decode cX12_die 0 = .ok (.aload_n 0, 1) := by decide +kernel
theorem dX12_die_1 : decode cX12_die 1 = .ok (.iconst 0, 1) := by decide +kernel
theorem dX12_die_2 : decode cX12_die 2 = .ok (.putfield 202, 3) := by decide +kernel
theorem dX12_die_5 : decode cX12_die 5 = .ok (.aload_n 0, 1) := by decide +kernel
theorem dX12_die_6 : decode cX12_die 6 = .ok (.iload_n 1, 1) := by decide +kernel
theorem dX12_die_7 : decode cX12_die 7 = .ok (.invokevirtual 222, 3) := by decide +kernel
theorem dX12_die_10 : decode cX12_die 10 = .ok (.ifCond .eq 12, 3) := by decide +kernel
theorem dX12_die_13 : decode cX12_die 13 = .ok (.aload_n 0, 1) := by decide +kernel
theorem dX12_die_14 : decode cX12_die 14 = .ok (.getfield 59, 3) := by decide +kernel
theorem dX12_die_17 : decode cX12_die 17 = .ok (.iload_n 1, 1) := by decide +kernel
theorem dX12_die_18 : decode cX12_die 18 = .ok (.baload, 1) := by decide +kernel
theorem dX12_die_19 : decode cX12_die 19 = .ok (.ifCond .eq 5, 3) := by decide +kernel
theorem dX12_die_22 : decode cX12_die 22 = .ok (.iconst 0, 1) := by decide +kernel
theorem dX12_die_23 : decode cX12_die 23 = .ok (.ireturn, 1) := by decide +kernel
theorem dX12_die_24 : decode cX12_die 24 = .ok (.aload_n 0, 1) := by decide +kernel
theorem dX12_die_25 : decode cX12_die 25 = .ok (.getfield 59, 3) := by decide +kernel
theorem dX12_die_28 : decode cX12_die 28 = .ok (.iload_n 1, 1) := by decide +kernel
theorem dX12_die_29 : decode cX12_die 29 = .ok (.iconst 1, 1) := by decide +kernel
theorem dX12_die_30 : decode cX12_die 30 = .ok (.bastore, 1) := by decide +kernel
theorem dX12_die_31 : decode cX12_die 31 = .ok (.aload_n 0, 1) := by decide +kernel
theorem dX12_die_32 : decode cX12_die 32 = .ok (.getfield 63, 3) := by decide +kernel
theorem dX12_die_35 : decode cX12_die 35 = .ok (.iload_n 1, 1) := by decide +kernel
theorem dX12_die_36 : decode cX12_die 36 = .ok (.iaload, 1) := by decide +kernel
theorem dX12_die_37 : decode cX12_die 37 = .ok (.istore_n 2, 1) := by decide +kernel
theorem dX12_die_38 : decode cX12_die 38 = .ok (.iload_n 2, 1) := by decide +kernel
theorem dX12_die_39 : decode cX12_die 39 = .ok (.iconst (-1), 1) := by decide +kernel
theorem dX12_die_40 : decode cX12_die 40 = .ok (.if_icmp .eq 37, 3) := by decide +kernel
theorem dX12_die_43 : decode cX12_die 43 = .ok (.aload_n 0, 1) := by decide +kernel
theorem dX12_die_44 : decode cX12_die 44 = .ok (.getfield 63, 3) := by decide +kernel
theorem dX12_die_47 : decode cX12_die 47 = .ok (.iload_n 2, 1) := by decide +kernel
theorem dX12_die_48 : decode cX12_die 48 = .ok (.iconst (-1), 1) := by decide +kernel
theorem dX12_die_49 : decode cX12_die 49 = .ok (.iastore, 1) := by decide +kernel
theorem dX12_die_50 : decode cX12_die 50 = .ok (.aload_n 0, 1) := by decide +kernel
theorem dX12_die_51 : decode cX12_die 51 = .ok (.getfield 63, 3) := by decide +kernel
theorem dX12_die_54 : decode cX12_die 54 = .ok (.iload_n 1, 1) := by decide +kernel
theorem dX12_die_55 : decode cX12_die 55 = .ok (.iconst (-1), 1) := by decide +kernel
theorem dX12_die_56 : decode cX12_die 56 = .ok (.iastore, 1) := by decide +kernel
theorem dX12_die_57 : decode cX12_die 57 = .ok (.aload_n 0, 1) := by decide +kernel
theorem dX12_die_58 : decode cX12_die 58 = .ok (.getfield 66, 3) := by decide +kernel
theorem dX12_die_61 : decode cX12_die 61 = .ok (.iload_n 2, 1) := by decide +kernel
theorem dX12_die_62 : decode cX12_die 62 = .ok (.aload_n 0, 1) := by decide +kernel
theorem dX12_die_63 : decode cX12_die 63 = .ok (.getfield 50, 3) := by decide +kernel
theorem dX12_die_66 : decode cX12_die 66 = .ok (.iload_n 2, 1) := by decide +kernel
theorem dX12_die_67 : decode cX12_die 67 = .ok (.iaload, 1) := by decide +kernel
theorem dX12_die_68 : decode cX12_die 68 = .ok (.ifCond .ne 7, 3) := by decide +kernel
theorem dX12_die_71 : decode cX12_die 71 = .ok (.iconst 1, 1) := by decide +kernel
theorem dX12_die_72 : decode cX12_die 72 = .ok (.goto 4, 3) := by decide +kernel
theorem dX12_die_75 : decode cX12_die 75 = .ok (.iconst 0, 1) := by decide +kernel
theorem dX12_die_76 : decode cX12_die 76 = .ok (.bastore, 1) := by decide +kernel
theorem dX12_die_77 : decode cX12_die 77 = .ok (.aload_n 0, 1) := by decide +kernel
theorem dX12_die_78 : decode cX12_die 78 = .ok (.iload_n 1, 1) := by decide +kernel
theorem dX12_die_79 : decode cX12_die 79 = .ok (.invokevirtual 245, 3) := by decide +kernel
theorem dX12_die_82 : decode cX12_die 82 = .ok (.istore_n 3, 1) := by decide +kernel
theorem dX12_die_83 : decode cX12_die 83 = .ok (.iload_n 3, 1) := by decide +kernel
theorem dX12_die_84 : decode cX12_die 84 = .ok (.iconst (-1), 1) := by decide +kernel
theorem dX12_die_85 : decode cX12_die 85 = .ok (.if_icmp .eq 9, 3) := by decide +kernel
theorem dX12_die_88 : decode cX12_die 88 = .ok (.aload_n 0, 1) := by decide +kernel
theorem dX12_die_89 : decode cX12_die 89 = .ok (.iload_n 3, 1) := by decide +kernel
theorem dX12_die_90 : decode cX12_die 90 = .ok (.iconst 4, 1) := by decide +kernel
theorem dX12_die_91 : decode cX12_die 91 = .ok (.invokevirtual 249, 3) := by decide +kernel
theorem dX12_die_94 : decode cX12_die 94 = .ok (.iconst 1, 1) := by decide +kernel
theorem dX12_die_95 : decode cX12_die 95 = .ok (.ireturn, 1) := by decide +kernel
theorem dX12_year_0 : decode cX12_year 0 = .ok (.aload_n 0, 1) := by decide +kernel
theorem dX12_year_1 : decode cX12_year 1 = .ok (.iconst 0, 1) := by decide +kernel
theorem dX12_year_2 : decode cX12_year 2 = .ok (.putfield 202, 3) := by decide +kernel
theorem dX12_year_5 : decode cX12_year 5 = .ok (.aload_n 0, 1) := by decide +kernel
theorem dX12_year_6 : decode cX12_year 6 = .ok (.getfield 23, 3) := by decide +kernel
theorem dX12_year_9 : decode cX12_year 9 = .ok (.iconst 0, 1) := by decide +kernel
theorem dX12_year_10 : decode cX12_year 10 = .ok (.iaload, 1) := by decide +kernel
theorem dX12_year_11 : decode cX12_year 11 = .ok (.sipush 300, 3) := by decide +kernel
theorem dX12_year_14 : decode cX12_year 14 = .ok (.if_icmp .ne 5, 3) := by decide +kernel
theorem dX12_year_17 : decode cX12_year 17 = .ok (.iconst (-1), 1) := by decide +kernel
theorem dX12_year_18 : decode cX12_year 18 = .ok (.ireturn, 1) := by decide +kernel
theorem dX12_year_19 : decode cX12_year 19 = .ok (.aload_n 0, 1) := by decide +kernel
theorem dX12_year_20 : decode cX12_year 20 = .ok (.getfield 23, 3) := by decide +kernel
theorem dX12_year_23 : decode cX12_year 23 = .ok (.iconst 0, 1) := by decide +kernel
theorem dX12_year_24 : decode cX12_year 24 = .ok (.dup2, 1) := by decide +kernel
theorem dX12_year_25 : decode cX12_year 25 = .ok (.iaload, 1) := by decide +kernel
theorem dX12_year_26 : decode cX12_year 26 = .ok (.iconst 1, 1) := by decide +kernel
theorem dX12_year_27 : decode cX12_year 27 = .ok (.iadd, 1) := by decide +kernel
theorem dX12_year_28 : decode cX12_year 28 = .ok (.iastore, 1) := by decide +kernel
theorem dX12_year_29 : decode cX12_year 29 = .ok (.aload_n 0, 1) := by decide +kernel
theorem dX12_year_30 : decode cX12_year 30 = .ok (.getfield 23, 3) := by decide +kernel
theorem dX12_year_33 : decode cX12_year 33 = .ok (.iconst 0, 1) := by decide +kernel
theorem dX12_year_34 : decode cX12_year 34 = .ok (.iaload, 1) := by decide +kernel
theorem dX12_year_35 : decode cX12_year 35 = .ok (.ireturn, 1) := by decide +kernel
theorem dX12_findParents_0 : decode cX12_findParents 0 = .ok (.iconst 0, 1) := by decide +kernel
theorem dX12_findParents_1 : decode cX12_findParents 1 = .ok (.istore_n 3, 1) := by decide +kernel
theorem dX12_findParents_2 : decode cX12_findParents 2 = .ok (.iload_n 3, 1) := by decide +kernel
theorem dX12_findParents_3 : decode cX12_findParents 3 = .ok (.bipush 40, 2) := by decide +kernel
theorem dX12_findParents_5 : decode cX12_findParents 5 = .ok (.if_icmp .ge 16, 3) := by decide +kernel
theorem dX12_findParents_8 : decode cX12_findParents 8 = .ok (.aload_n 0, 1) := by decide +kernel
theorem dX12_findParents_9 : decode cX12_findParents 9 = .ok (.getfield 132, 3) := by decide +kernel
theorem dX12_findParents_12 : decode cX12_findParents 12 = .ok (.iload_n 3, 1) := by decide +kernel
theorem dX12_findParents_13 : decode cX12_findParents 13 = .ok (.iconst (-1), 1) := by decide +kernel
theorem dX12_findParents_14 : decode cX12_findParents 14 = .ok (.iastore, 1) := by decide +kernel
theorem dX12_findParents_15 : decode cX12_findParents 15 = .ok (.iinc 3 1, 3) := by decide +kernel
theorem dX12_findParents_18 : decode cX12_findParents 18 = .ok (.goto (-16), 3) := by decide +kernel
theorem dX12_findParents_21 : decode cX12_findParents 21 = .ok (.aload_n 0, 1) := by decide +kernel
theorem dX12_findParents_22 : decode cX12_findParents 22 = .ok (.iload_n 1, 1) := by decide +kernel
theorem dX12_findParents_23 : decode cX12_findParents 23 = .ok (.invokevirtual 241, 3) := by decide +kernel
theorem dX12_findParents_26 : decode cX12_findParents 26 = .ok (.iconst 0, 1) := by decide +kernel
theorem dX12_findParents_27 : decode cX12_findParents 27 = .ok (.istore_n 3, 1) := by decide +kernel
theorem dX12_findParents_28 : decode cX12_findParents 28 = .ok (.iload_n 3, 1) := by decide +kernel
theorem dX12_findParents_29 : decode cX12_findParents 29 = .ok (.aload_n 0, 1) := by decide +kernel
theorem dX12_findParents_30 : decode cX12_findParents 30 = .ok (.getfield 72, 3) := by decide +kernel
theorem dX12_findParents_33 : decode cX12_findParents 33 = .ok (.iconst 0, 1) := by decide +kernel
theorem dX12_findParents_34 : decode cX12_findParents 34 = .ok (.iaload, 1) := by decide +kernel
theorem dX12_findParents_35 : decode cX12_findParents 35 = .ok (.if_icmp .ge 92, 3) := by decide +kernel
theorem dX12_findParents_38 : decode cX12_findParents 38 = .ok (.iconst 4, 1) := by decide +kernel
theorem dX12_findParents_39 : decode cX12_findParents 39 = .ok (.iload_n 3, 1) := by decide +kernel
theorem dX12_findParents_40 : decode cX12_findParents 40 = .ok (.imul, 1) := by decide +kernel
theorem dX12_findParents_41 : decode cX12_findParents 41 = .ok (.istore 4, 2) := by decide +kernel
theorem dX12_findParents_43 : decode cX12_findParents 43 = .ok (.aload_n 0, 1) := by decide +kernel
theorem dX12_findParents_44 : decode cX12_findParents 44 = .ok (.getfield 129, 3) := by decide +kernel
theorem dX12_findParents_47 : decode cX12_findParents 47 = .ok (.aload_n 0, 1) := by decide +kernel
theorem dX12_findParents_48 : decode cX12_findParents 48 = .ok (.getfield 75, 3) := by decide +kernel
theorem dX12_findParents_51 : decode cX12_findParents 51 = .ok (.iload 4, 2) := by decide +kernel
theorem dX12_findParents_53 : decode cX12_findParents 53 = .ok (.iconst 2, 1) := by decide +kernel
theorem dX12_findParents_54 : decode cX12_findParents 54 = .ok (.iadd, 1) := by decide +kernel
theorem dX12_findParents_55 : decode cX12_findParents 55 = .ok (.iaload, 1) := by decide +kernel
theorem dX12_findParents_56 : decode cX12_findParents 56 = .ok (.iaload, 1) := by decide +kernel
theorem dX12_findParents_57 : decode cX12_findParents 57 = .ok (.istore 5, 2) := by decide +kernel
theorem dX12_findParents_59 : decode cX12_findParents 59 = .ok (.iload 5, 2) := by decide +kernel
theorem dX12_findParents_61 : decode cX12_findParents 61 = .ok (.sipush 1000, 3) := by decide +kernel
theorem dX12_findParents_64 : decode cX12_findParents 64 = .ok (.if_icmp .ge 57, 3) := by decide +kernel
theorem dX12_findParents_67 : decode cX12_findParents 67 = .ok (.aload_n 0, 1) := by decide +kernel
theorem dX12_findParents_68 : decode cX12_findParents 68 = .ok (.getfield 75, 3) := by decide +kernel
theorem dX12_findParents_71 : decode cX12_findParents 71 = .ok (.iload 4, 2) := by decide +kernel
theorem dX12_findParents_73 : decode cX12_findParents 73 = .ok (.iconst 3, 1) := by decide +kernel
theorem dX12_findParents_74 : decode cX12_findParents 74 = .ok (.iadd, 1) := by decide +kernel
theorem dX12_findParents_75 : decode cX12_findParents 75 = .ok (.iaload, 1) := by decide +kernel
theorem dX12_findParents_76 : decode cX12_findParents 76 = .ok (.iload 5, 2) := by decide +kernel
theorem dX12_findParents_78 : decode cX12_findParents 78 = .ok (.iadd, 1) := by decide +kernel
theorem dX12_findParents_79 : decode cX12_findParents 79 = .ok (.iload_n 2, 1) := by decide +kernel
theorem dX12_findParents_80 : decode cX12_findParents 80 = .ok (.if_icmp .gt 41, 3) := by decide +kernel
theorem dX12_findParents_83 : decode cX12_findParents 83 = .ok (.aload_n 0, 1) := by decide +kernel
theorem dX12_findParents_84 : decode cX12_findParents 84 = .ok (.getfield 132, 3) := by decide +kernel
theorem dX12_findParents_87 : decode cX12_findParents 87 = .ok (.iconst 2, 1) := by decide +kernel
theorem dX12_findParents_88 : decode cX12_findParents 88 = .ok (.aload_n 0, 1) := by decide +kernel
theorem dX12_findParents_89 : decode cX12_findParents 89 = .ok (.getfield 75, 3) := by decide +kernel
theorem dX12_findParents_92 : decode cX12_findParents 92 = .ok (.iload 4, 2) := by decide +kernel
theorem dX12_findParents_94 : decode cX12_findParents 94 = .ok (.iaload, 1) := by decide +kernel
theorem dX12_findParents_95 : decode cX12_findParents 95 = .ok (.imul, 1) := by decide +kernel
theorem dX12_findParents_96 : decode cX12_findParents 96 = .ok (.aload_n 0, 1) := by decide +kernel
theorem dX12_findParents_97 : decode cX12_findParents 97 = .ok (.getfield 50, 3) := by decide +kernel
theorem dX12_findParents_100 : decode cX12_findParents 100 = .ok (.aload_n 0, 1) := by decide +kernel
theorem dX12_findParents_101 : decode cX12_findParents 101 = .ok (.getfield 75, 3) := by decide +kernel
theorem dX12_findParents_104 : decode cX12_findParents 104 = .ok (.iload 4, 2) := by decide +kernel
theorem dX12_findParents_106 : decode cX12_findParents 106 = .ok (.iconst 1, 1) := by decide +kernel
theorem dX12_findParents_107 : decode cX12_findParents 107 = .ok (.iadd, 1) := by decide +kernel
theorem dX12_findParents_108 : decode cX12_findParents 108 = .ok (.iaload, 1) := by decide +kernel
theorem dX12_findParents_109 : decode cX12_findParents 109 = .ok (.iaload, 1) := by decide +kernel
theorem dX12_findParents_110 : decode cX12_findParents 110 = .ok (.iadd, 1) := by decide +kernel
theorem dX12_findParents_111 : decode cX12_findParents 111 = .ok (.aload_n 0, 1) := by decide +kernel
theorem dX12_findParents_112 : decode cX12_findParents 112 = .ok (.getfield 75, 3) := by decide +kernel
theorem dX12_findParents_115 : decode cX12_findParents 115 = .ok (.iload 4, 2) := by decide +kernel
theorem dX12_findParents_117 : decode cX12_findParents 117 = .ok (.iconst 1, 1) := by decide +kernel
theorem dX12_findParents_118 : decode cX12_findParents 118 = .ok (.iadd, 1) := by decide +kernel
theorem dX12_findParents_119 : decode cX12_findParents 119 = .ok (.iaload, 1) := by decide +kernel
theorem dX12_findParents_120 : decode cX12_findParents 120 = .ok (.iastore, 1) := by decide +kernel
theorem dX12_findParents_121 : decode cX12_findParents 121 = .ok (.iinc 3 1, 3) := by decide +kernel
theorem dX12_findParents_124 : decode cX12_findParents 124 = .ok (.goto (-96), 3) := by decide +kernel
theorem dX12_findParents_127 : decode cX12_findParents 127 = .ok (.return_, 1) := by decide +kernel
theorem dX12_findUp_0 : decode cX12_findUp 0 = .ok (.iconst 0, 1) := by decide +kernel
theorem dX12_findUp_1 : decode cX12_findUp 1 = .ok (.istore_n 3, 1) := by decide +kernel
theorem dX12_findUp_2 : decode cX12_findUp 2 = .ok (.iload_n 3, 1) := by decide +kernel
theorem dX12_findUp_3 : decode cX12_findUp 3 = .ok (.bipush 20, 2) := by decide +kernel
theorem dX12_findUp_5 : decode cX12_findUp 5 = .ok (.if_icmp .ge 23, 3) := by decide +kernel
theorem dX12_findUp_8 : decode cX12_findUp 8 = .ok (.aload_n 2, 1) := by decide +kernel
theorem dX12_findUp_9 : decode cX12_findUp 9 = .ok (.iload_n 3, 1) := by decide +kernel
theorem dX12_findUp_10 : decode cX12_findUp 10 = .ok (.iload_n 3, 1) := by decide +kernel
theorem dX12_findUp_11 : decode cX12_findUp 11 = .ok (.iload_n 1, 1) := by decide +kernel
theorem dX12_findUp_12 : decode cX12_findUp 12 = .ok (.if_icmp .ne 7, 3) := by decide +kernel
theorem dX12_findUp_15 : decode cX12_findUp 15 = .ok (.iconst 0, 1) := by decide +kernel
theorem dX12_findUp_16 : decode cX12_findUp 16 = .ok (.goto 5, 3) := by decide +kernel
theorem dX12_findUp_19 : decode cX12_findUp 19 = .ok (.bipush 99, 2) := by decide +kernel
theorem dX12_findUp_21 : decode cX12_findUp 21 = .ok (.iastore, 1) := by decide +kernel
theorem dX12_findUp_22 : decode cX12_findUp 22 = .ok (.iinc 3 1, 3) := by decide +kernel
theorem dX12_findUp_25 : decode cX12_findUp 25 = .ok (.goto (-23), 3) := by decide +kernel
theorem dX12_findUp_28 : decode cX12_findUp 28 = .ok (.iconst 1, 1) := by decide +kernel
theorem dX12_findUp_29 : decode cX12_findUp 29 = .ok (.istore_n 3, 1) := by decide +kernel
theorem dX12_findUp_30 : decode cX12_findUp 30 = .ok (.iload_n 3, 1) := by decide +kernel
theorem dX12_findUp_31 : decode cX12_findUp 31 = .ok (.ifCond .eq 97, 3) := by decide +kernel
theorem dX12_findUp_34 : decode cX12_findUp 34 = .ok (.iconst 0, 1) := by decide +kernel
theorem dX12_findUp_35 : decode cX12_findUp 35 = .ok (.istore_n 3, 1) := by decide +kernel
theorem dX12_findUp_36 : decode cX12_findUp 36 = .ok (.iconst 0, 1) := by decide +kernel
theorem dX12_findUp_37 : decode cX12_findUp 37 = .ok (.istore 4, 2) := by decide +kernel
theorem dX12_findUp_39 : decode cX12_findUp 39 = .ok (.iload 4, 2) := by decide +kernel
theorem dX12_findUp_41 : decode cX12_findUp 41 = .ok (.aload_n 0, 1) := by decide +kernel
theorem dX12_findUp_42 : decode cX12_findUp 42 = .ok (.getfield 44, 3) := by decide +kernel
theorem dX12_findUp_45 : decode cX12_findUp 45 = .ok (.iconst 0, 1) := by decide +kernel
theorem dX12_findUp_46 : decode cX12_findUp 46 = .ok (.iaload, 1) := by decide +kernel
theorem dX12_findUp_47 : decode cX12_findUp 47 = .ok (.if_icmp .ge 78, 3) := by decide +kernel
theorem dX12_findUp_50 : decode cX12_findUp 50 = .ok (.iconst 0, 1) := by decide +kernel
theorem dX12_findUp_51 : decode cX12_findUp 51 = .ok (.istore 5, 2) := by decide +kernel
theorem dX12_findUp_53 : decode cX12_findUp 53 = .ok (.iload 5, 2) := by decide +kernel
theorem dX12_findUp_55 : decode cX12_findUp 55 = .ok (.iconst 2, 1) := by decide +kernel
theorem dX12_findUp_56 : decode cX12_findUp 56 = .ok (.if_icmp .ge 63, 3) := by decide +kernel
theorem dX12_findUp_59 : decode cX12_findUp 59 = .ok (.aload_n 2, 1) := by decide +kernel
theorem dX12_findUp_60 : decode cX12_findUp 60 = .ok (.iload 4, 2) := by decide +kernel
theorem dX12_findUp_62 : decode cX12_findUp 62 = .ok (.iaload, 1) := by decide +kernel
theorem dX12_findUp_63 : decode cX12_findUp 63 = .ok (.bipush 99, 2) := by decide +kernel
theorem dX12_findUp_65 : decode cX12_findUp 65 = .ok (.if_icmp .ge 54, 3) := by decide +kernel
theorem dX12_findUp_68 : decode cX12_findUp 68 = .ok (.aload_n 0, 1) := by decide +kernel
theorem dX12_findUp_69 : decode cX12_findUp 69 = .ok (.getfield 132, 3) := by decide +kernel
theorem dX12_findUp_72 : decode cX12_findUp 72 = .ok (.iconst 2, 1) := by decide +kernel
theorem dX12_findUp_73 : decode cX12_findUp 73 = .ok (.iload 4, 2) := by decide +kernel
theorem dX12_findUp_75 : decode cX12_findUp 75 = .ok (.imul, 1) := by decide +kernel
theorem dX12_findUp_76 : decode cX12_findUp 76 = .ok (.iload 5, 2) := by decide +kernel
theorem dX12_findUp_78 : decode cX12_findUp 78 = .ok (.iadd, 1) := by decide +kernel
theorem dX12_findUp_79 : decode cX12_findUp 79 = .ok (.iaload, 1) := by decide +kernel
theorem dX12_findUp_80 : decode cX12_findUp 80 = .ok (.istore 6, 2) := by decide +kernel
theorem dX12_findUp_82 : decode cX12_findUp 82 = .ok (.iload 6, 2) := by decide +kernel
theorem dX12_findUp_84 : decode cX12_findUp 84 = .ok (.iconst (-1), 1) := by decide +kernel
theorem dX12_findUp_85 : decode cX12_findUp 85 = .ok (.if_icmp .eq 28, 3) := by decide +kernel
theorem dX12_findUp_88 : decode cX12_findUp 88 = .ok (.aload_n 2, 1) := by decide +kernel
theorem dX12_findUp_89 : decode cX12_findUp 89 = .ok (.iload 4, 2) := by decide +kernel
theorem dX12_findUp_91 : decode cX12_findUp 91 = .ok (.iaload, 1) := by decide +kernel
theorem dX12_findUp_92 : decode cX12_findUp 92 = .ok (.iconst 1, 1) := by decide +kernel
theorem dX12_findUp_93 : decode cX12_findUp 93 = .ok (.iadd, 1) := by decide +kernel
theorem dX12_findUp_94 : decode cX12_findUp 94 = .ok (.aload_n 2, 1) := by decide +kernel
theorem dX12_findUp_95 : decode cX12_findUp 95 = .ok (.iload 6, 2) := by decide +kernel
theorem dX12_findUp_97 : decode cX12_findUp 97 = .ok (.iaload, 1) := by decide +kernel
theorem dX12_findUp_98 : decode cX12_findUp 98 = .ok (.if_icmp .ge 15, 3) := by decide +kernel
theorem dX12_findUp_101 : decode cX12_findUp 101 = .ok (.aload_n 2, 1) := by decide +kernel
theorem dX12_findUp_102 : decode cX12_findUp 102 = .ok (.iload 6, 2) := by decide +kernel
theorem dX12_findUp_104 : decode cX12_findUp 104 = .ok (.aload_n 2, 1) := by decide +kernel
theorem dX12_findUp_105 : decode cX12_findUp 105 = .ok (.iload 4, 2) := by decide +kernel
theorem dX12_findUp_107 : decode cX12_findUp 107 = .ok (.iaload, 1) := by decide +kernel
theorem dX12_findUp_108 : decode cX12_findUp 108 = .ok (.iconst 1, 1) := by decide +kernel
theorem dX12_findUp_109 : decode cX12_findUp 109 = .ok (.iadd, 1) := by decide +kernel
theorem dX12_findUp_110 : decode cX12_findUp 110 = .ok (.iastore, 1) := by decide +kernel
theorem dX12_findUp_111 : decode cX12_findUp 111 = .ok (.iconst 1, 1) := by decide +kernel
theorem dX12_findUp_112 : decode cX12_findUp 112 = .ok (.istore_n 3, 1) := by decide +kernel
theorem dX12_findUp_113 : decode cX12_findUp 113 = .ok (.iinc 5 1, 3) := by decide +kernel
theorem dX12_findUp_116 : decode cX12_findUp 116 = .ok (.goto (-63), 3) := by decide +kernel
theorem dX12_findUp_119 : decode cX12_findUp 119 = .ok (.iinc 4 1, 3) := by decide +kernel
theorem dX12_findUp_122 : decode cX12_findUp 122 = .ok (.goto (-83), 3) := by decide +kernel
theorem dX12_findUp_125 : decode cX12_findUp 125 = .ok (.goto (-95), 3) := by decide +kernel
theorem dX12_findUp_128 : decode cX12_findUp 128 = .ok (.return_, 1) := by decide +kernel
theorem dX12_kinOf_0 : decode cX12_kinOf 0 = .ok (.aload_n 0, 1) := by decide +kernel
theorem dX12_kinOf_1 : decode cX12_kinOf 1 = .ok (.iload_n 3, 1) := by decide +kernel
theorem dX12_kinOf_2 : decode cX12_kinOf 2 = .ok (.iload 4, 2) := by decide +kernel
theorem dX12_kinOf_4 : decode cX12_kinOf 4 = .ok (.invokevirtual 252, 3) := by decide +kernel
theorem dX12_kinOf_7 : decode cX12_kinOf 7 = .ok (.aload_n 0, 1) := by decide +kernel
theorem dX12_kinOf_8 : decode cX12_kinOf 8 = .ok (.iload_n 1, 1) := by decide +kernel
theorem dX12_kinOf_9 : decode cX12_kinOf 9 = .ok (.aload_n 0, 1) := by decide +kernel
theorem dX12_kinOf_10 : decode cX12_kinOf 10 = .ok (.getfield 135, 3) := by decide +kernel
theorem dX12_kinOf_13 : decode cX12_kinOf 13 = .ok (.invokevirtual 255, 3) := by decide +kernel
theorem dX12_kinOf_16 : decode cX12_kinOf 16 = .ok (.aload_n 0, 1) := by decide +kernel
theorem dX12_kinOf_17 : decode cX12_kinOf 17 = .ok (.iload_n 2, 1) := by decide +kernel
theorem dX12_kinOf_18 : decode cX12_kinOf 18 = .ok (.aload_n 0, 1) := by decide +kernel
theorem dX12_kinOf_19 : decode cX12_kinOf 19 = .ok (.getfield 138, 3) := by decide +kernel
theorem dX12_kinOf_22 : decode cX12_kinOf 22 = .ok (.invokevirtual 255, 3) := by decide +kernel
theorem dX12_kinOf_25 : decode cX12_kinOf 25 = .ok (.bipush 99, 2) := by decide +kernel
theorem dX12_kinOf_27 : decode cX12_kinOf 27 = .ok (.istore 5, 2) := by decide +kernel
theorem dX12_kinOf_29 : decode cX12_kinOf 29 = .ok (.aload_n 0, 1) := by decide +kernel
theorem dX12_kinOf_30 : decode cX12_kinOf 30 = .ok (.iconst (-1), 1) := by decide +kernel
theorem dX12_kinOf_31 : decode cX12_kinOf 31 = .ok (.putfield 259, 3) := by decide +kernel
theorem dX12_kinOf_34 : decode cX12_kinOf 34 = .ok (.iconst 0, 1) := by decide +kernel
theorem dX12_kinOf_35 : decode cX12_kinOf 35 = .ok (.istore 6, 2) := by decide +kernel
theorem dX12_kinOf_37 : decode cX12_kinOf 37 = .ok (.iload 6, 2) := by decide +kernel
theorem dX12_kinOf_39 : decode cX12_kinOf 39 = .ok (.aload_n 0, 1) := by decide +kernel
theorem dX12_kinOf_40 : decode cX12_kinOf 40 = .ok (.getfield 44, 3) := by decide +kernel
theorem dX12_kinOf_43 : decode cX12_kinOf 43 = .ok (.iconst 0, 1) := by decide +kernel
theorem dX12_kinOf_44 : decode cX12_kinOf 44 = .ok (.iaload, 1) := by decide +kernel
theorem dX12_kinOf_45 : decode cX12_kinOf 45 = .ok (.if_icmp .ge 113, 3) := by decide +kernel
theorem dX12_kinOf_48 : decode cX12_kinOf 48 = .ok (.aload_n 0, 1) := by decide +kernel
theorem dX12_kinOf_49 : decode cX12_kinOf 49 = .ok (.getfield 135, 3) := by decide +kernel
theorem dX12_kinOf_52 : decode cX12_kinOf 52 = .ok (.iload 6, 2) := by decide +kernel
theorem dX12_kinOf_54 : decode cX12_kinOf 54 = .ok (.iaload, 1) := by decide +kernel
theorem dX12_kinOf_55 : decode cX12_kinOf 55 = .ok (.aload_n 0, 1) := by decide +kernel
theorem dX12_kinOf_56 : decode cX12_kinOf 56 = .ok (.getfield 138, 3) := by decide +kernel
theorem dX12_kinOf_59 : decode cX12_kinOf 59 = .ok (.iload 6, 2) := by decide +kernel
theorem dX12_kinOf_61 : decode cX12_kinOf 61 = .ok (.iaload, 1) := by decide +kernel
theorem dX12_kinOf_62 : decode cX12_kinOf 62 = .ok (.iadd, 1) := by decide +kernel
theorem dX12_kinOf_63 : decode cX12_kinOf 63 = .ok (.istore 7, 2) := by decide +kernel
theorem dX12_kinOf_65 : decode cX12_kinOf 65 = .ok (.iload 7, 2) := by decide +kernel
theorem dX12_kinOf_67 : decode cX12_kinOf 67 = .ok (.iload 5, 2) := by decide +kernel
theorem dX12_kinOf_69 : decode cX12_kinOf 69 = .ok (.if_icmp .lt 37, 3) := by decide +kernel
theorem dX12_kinOf_72 : decode cX12_kinOf 72 = .ok (.iload 7, 2) := by decide +kernel
theorem dX12_kinOf_74 : decode cX12_kinOf 74 = .ok (.iload 5, 2) := by decide +kernel
theorem dX12_kinOf_76 : decode cX12_kinOf 76 = .ok (.if_icmp .ne 34, 3) := by decide +kernel
theorem dX12_kinOf_79 : decode cX12_kinOf 79 = .ok (.aload_n 0, 1) := by decide +kernel
theorem dX12_kinOf_80 : decode cX12_kinOf 80 = .ok (.getfield 259, 3) := by decide +kernel
theorem dX12_kinOf_83 : decode cX12_kinOf 83 = .ok (.iconst (-1), 1) := by decide +kernel
theorem dX12_kinOf_84 : decode cX12_kinOf 84 = .ok (.if_icmp .eq 26, 3) := by decide +kernel
theorem dX12_kinOf_87 : decode cX12_kinOf 87 = .ok (.aload_n 0, 1) := by decide +kernel
theorem dX12_kinOf_88 : decode cX12_kinOf 88 = .ok (.getfield 135, 3) := by decide +kernel
theorem dX12_kinOf_91 : decode cX12_kinOf 91 = .ok (.iload 6, 2) := by decide +kernel
theorem dX12_kinOf_93 : decode cX12_kinOf 93 = .ok (.iaload, 1) := by decide +kernel
theorem dX12_kinOf_94 : decode cX12_kinOf 94 = .ok (.aload_n 0, 1) := by decide +kernel
theorem dX12_kinOf_95 : decode cX12_kinOf 95 = .ok (.getfield 135, 3) := by decide +kernel
theorem dX12_kinOf_98 : decode cX12_kinOf 98 = .ok (.aload_n 0, 1) := by decide +kernel
theorem dX12_kinOf_99 : decode cX12_kinOf 99 = .ok (.getfield 259, 3) := by decide +kernel
theorem dX12_kinOf_102 : decode cX12_kinOf 102 = .ok (.iaload, 1) := by decide +kernel
theorem dX12_kinOf_103 : decode cX12_kinOf 103 = .ok (.if_icmp .ge 7, 3) := by decide +kernel
theorem dX12_kinOf_106 : decode cX12_kinOf 106 = .ok (.iconst 1, 1) := by decide +kernel
theorem dX12_kinOf_107 : decode cX12_kinOf 107 = .ok (.goto 4, 3) := by decide +kernel
theorem dX12_kinOf_110 : decode cX12_kinOf 110 = .ok (.iconst 0, 1) := by decide +kernel
theorem dX12_kinOf_111 : decode cX12_kinOf 111 = .ok (.istore 8, 2) := by decide +kernel
theorem dX12_kinOf_113 : decode cX12_kinOf 113 = .ok (.aload_n 0, 1) := by decide +kernel
theorem dX12_kinOf_114 : decode cX12_kinOf 114 = .ok (.getfield 135, 3) := by decide +kernel
theorem dX12_kinOf_117 : decode cX12_kinOf 117 = .ok (.iload 6, 2) := by decide +kernel
theorem dX12_kinOf_119 : decode cX12_kinOf 119 = .ok (.iaload, 1) := by decide +kernel
theorem dX12_kinOf_120 : decode cX12_kinOf 120 = .ok (.bipush 99, 2) := by decide +kernel
theorem dX12_kinOf_122 : decode cX12_kinOf 122 = .ok (.if_icmp .ge 30, 3) := by decide +kernel
theorem dX12_kinOf_125 : decode cX12_kinOf 125 = .ok (.aload_n 0, 1) := by decide +kernel
theorem dX12_kinOf_126 : decode cX12_kinOf 126 = .ok (.getfield 138, 3) := by decide +kernel
theorem dX12_kinOf_129 : decode cX12_kinOf 129 = .ok (.iload 6, 2) := by decide +kernel
theorem dX12_kinOf_131 : decode cX12_kinOf 131 = .ok (.iaload, 1) := by decide +kernel
theorem dX12_kinOf_132 : decode cX12_kinOf 132 = .ok (.bipush 99, 2) := by decide +kernel
theorem dX12_kinOf_134 : decode cX12_kinOf 134 = .ok (.if_icmp .ge 18, 3) := by decide +kernel
theorem dX12_kinOf_137 : decode cX12_kinOf 137 = .ok (.iload 8, 2) := by decide +kernel
theorem dX12_kinOf_139 : decode cX12_kinOf 139 = .ok (.ifCond .eq 13, 3) := by decide +kernel
theorem dX12_kinOf_142 : decode cX12_kinOf 142 = .ok (.iload 7, 2) := by decide +kernel
theorem dX12_kinOf_144 : decode cX12_kinOf 144 = .ok (.istore 5, 2) := by decide +kernel
theorem dX12_kinOf_146 : decode cX12_kinOf 146 = .ok (.aload_n 0, 1) := by decide +kernel
theorem dX12_kinOf_147 : decode cX12_kinOf 147 = .ok (.iload 6, 2) := by decide +kernel
theorem dX12_kinOf_149 : decode cX12_kinOf 149 = .ok (.putfield 259, 3) := by decide +kernel
theorem dX12_kinOf_152 : decode cX12_kinOf 152 = .ok (.iinc 6 1, 3) := by decide +kernel
theorem dX12_kinOf_155 : decode cX12_kinOf 155 = .ok (.goto (-118), 3) := by decide +kernel
theorem dX12_kinOf_158 : decode cX12_kinOf 158 = .ok (.iload 5, 2) := by decide +kernel
theorem dX12_kinOf_160 : decode cX12_kinOf 160 = .ok (.ireturn, 1) := by decide +kernel
theorem dX12_isYear_0 : decode cX12_isYear 0 = .ok (.iload_n 0, 1) := by decide +kernel
theorem dX12_isYear_1 : decode cX12_isYear 1 = .ok (.iconst 0, 1) := by decide +kernel
theorem dX12_isYear_2 : decode cX12_isYear 2 = .ok (.sipush 300, 3) := by decide +kernel
theorem dX12_isYear_5 : decode cX12_isYear 5 = .ok (.invokestatic 218, 3) := by decide +kernel
theorem dX12_isYear_8 : decode cX12_isYear 8 = .ok (.ireturn, 1) := by decide +kernel
theorem dX12_kin_0 : decode cX12_kin 0 = .ok (.aload_n 0, 1) := by decide +kernel
theorem dX12_kin_1 : decode cX12_kin 1 = .ok (.iconst 0, 1) := by decide +kernel
theorem dX12_kin_2 : decode cX12_kin 2 = .ok (.putfield 202, 3) := by decide +kernel
theorem dX12_kin_5 : decode cX12_kin 5 = .ok (.aload_n 0, 1) := by decide +kernel
theorem dX12_kin_6 : decode cX12_kin 6 = .ok (.iload_n 1, 1) := by decide +kernel
theorem dX12_kin_7 : decode cX12_kin 7 = .ok (.invokevirtual 222, 3) := by decide +kernel
theorem dX12_kin_10 : decode cX12_kin 10 = .ok (.ifCond .eq 38, 3) := by decide +kernel
theorem dX12_kin_13 : decode cX12_kin 13 = .ok (.aload_n 0, 1) := by decide +kernel
theorem dX12_kin_14 : decode cX12_kin 14 = .ok (.iload_n 2, 1) := by decide +kernel
theorem dX12_kin_15 : decode cX12_kin 15 = .ok (.invokevirtual 222, 3) := by decide +kernel
theorem dX12_kin_18 : decode cX12_kin 18 = .ok (.ifCond .eq 30, 3) := by decide +kernel
theorem dX12_kin_21 : decode cX12_kin 21 = .ok (.iload_n 3, 1) := by decide +kernel
theorem dX12_kin_22 : decode cX12_kin 22 = .ok (.invokestatic 226, 3) := by decide +kernel
theorem dX12_kin_25 : decode cX12_kin 25 = .ok (.ifCond .eq 23, 3) := by decide +kernel
theorem dX12_kin_28 : decode cX12_kin 28 = .ok (.iload 4, 2) := by decide +kernel
theorem dX12_kin_30 : decode cX12_kin 30 = .ok (.invokestatic 262, 3) := by decide +kernel
theorem dX12_kin_33 : decode cX12_kin 33 = .ok (.ifCond .eq 15, 3) := by decide +kernel
theorem dX12_kin_36 : decode cX12_kin 36 = .ok (.aload_n 0, 1) := by decide +kernel
theorem dX12_kin_37 : decode cX12_kin 37 = .ok (.iload_n 1, 1) := by decide +kernel
theorem dX12_kin_38 : decode cX12_kin 38 = .ok (.iload_n 2, 1) := by decide +kernel
theorem dX12_kin_39 : decode cX12_kin 39 = .ok (.iload_n 3, 1) := by decide +kernel
theorem dX12_kin_40 : decode cX12_kin 40 = .ok (.iload 4, 2) := by decide +kernel
theorem dX12_kin_42 : decode cX12_kin 42 = .ok (.invokevirtual 265, 3) := by decide +kernel
theorem dX12_kin_45 : decode cX12_kin 45 = .ok (.goto 4, 3) := by decide +kernel
theorem dX12_kin_48 : decode cX12_kin 48 = .ok (.iconst (-1), 1) := by decide +kernel
theorem dX12_kin_49 : decode cX12_kin 49 = .ok (.ireturn, 1) := by decide +kernel
theorem dX12_chain_0 : decode cX12_chain 0 = .ok (.aload_n 0, 1) := by decide +kernel
theorem dX12_chain_1 : decode cX12_chain 1 = .ok (.iconst 0, 1) := by decide +kernel
theorem dX12_chain_2 : decode cX12_chain 2 = .ok (.putfield 202, 3) := by decide +kernel
theorem dX12_chain_5 : decode cX12_chain 5 = .ok (.aload_n 0, 1) := by decide +kernel
theorem dX12_chain_6 : decode cX12_chain 6 = .ok (.iload_n 1, 1) := by decide +kernel
theorem dX12_chain_7 : decode cX12_chain 7 = .ok (.invokevirtual 222, 3) := by decide +kernel
theorem dX12_chain_10 : decode cX12_chain 10 = .ok (.ifCond .eq 26, 3) := by decide +kernel
theorem dX12_chain_13 : decode cX12_chain 13 = .ok (.aload_n 0, 1) := by decide +kernel
theorem dX12_chain_14 : decode cX12_chain 14 = .ok (.iload_n 2, 1) := by decide +kernel
theorem dX12_chain_15 : decode cX12_chain 15 = .ok (.invokevirtual 222, 3) := by decide +kernel
theorem dX12_chain_18 : decode cX12_chain 18 = .ok (.ifCond .eq 18, 3) := by decide +kernel
theorem dX12_chain_21 : decode cX12_chain 21 = .ok (.iload_n 3, 1) := by decide +kernel
theorem dX12_chain_22 : decode cX12_chain 22 = .ok (.invokestatic 226, 3) := by decide +kernel
theorem dX12_chain_25 : decode cX12_chain 25 = .ok (.ifCond .eq 11, 3) := by decide +kernel
theorem dX12_chain_28 : decode cX12_chain 28 = .ok (.iload 4, 2) := by decide +kernel
theorem dX12_chain_30 : decode cX12_chain 30 = .ok (.invokestatic 262, 3) := by decide +kernel
theorem dX12_chain_33 : decode cX12_chain 33 = .ok (.ifCond .ne 5, 3) := by decide +kernel
theorem dX12_chain_36 : decode cX12_chain 36 = .ok (.iconst (-1), 1) := by decide +kernel
theorem dX12_chain_37 : decode cX12_chain 37 = .ok (.ireturn, 1) := by decide +kernel
theorem dX12_chain_38 : decode cX12_chain 38 = .ok (.aload_n 0, 1) := by decide +kernel
theorem dX12_chain_39 : decode cX12_chain 39 = .ok (.iload_n 1, 1) := by decide +kernel
theorem dX12_chain_40 : decode cX12_chain 40 = .ok (.iload_n 2, 1) := by decide +kernel
theorem dX12_chain_41 : decode cX12_chain 41 = .ok (.iload_n 3, 1) := by decide +kernel
theorem dX12_chain_42 : decode cX12_chain 42 = .ok (.iload 4, 2) := by decide +kernel
theorem dX12_chain_44 : decode cX12_chain 44 = .ok (.invokevirtual 265, 3) := by decide +kernel
theorem dX12_chain_47 : decode cX12_chain 47 = .ok (.istore 6, 2) := by decide +kernel
theorem dX12_chain_49 : decode cX12_chain 49 = .ok (.aload_n 0, 1) := by decide +kernel
theorem dX12_chain_50 : decode cX12_chain 50 = .ok (.getfield 259, 3) := by decide +kernel
theorem dX12_chain_53 : decode cX12_chain 53 = .ok (.iconst (-1), 1) := by decide +kernel
theorem dX12_chain_54 : decode cX12_chain 54 = .ok (.if_icmp .eq 14, 3) := by decide +kernel
theorem dX12_chain_57 : decode cX12_chain 57 = .ok (.iload 5, 2) := by decide +kernel
theorem dX12_chain_59 : decode cX12_chain 59 = .ok (.iconst 0, 1) := by decide +kernel
theorem dX12_chain_60 : decode cX12_chain 60 = .ok (.iload 6, 2) := by decide +kernel
theorem dX12_chain_62 : decode cX12_chain 62 = .ok (.invokestatic 218, 3) := by decide +kernel
theorem dX12_chain_65 : decode cX12_chain 65 = .ok (.ifCond .ne 5, 3) := by decide +kernel
theorem dX12_chain_68 : decode cX12_chain 68 = .ok (.iconst (-1), 1) := by decide +kernel
theorem dX12_chain_69 : decode cX12_chain 69 = .ok (.ireturn, 1) := by decide +kernel
theorem dX12_chain_70 : decode cX12_chain 70 = .ok (.aload_n 0, 1) := by decide +kernel
theorem dX12_chain_71 : decode cX12_chain 71 = .ok (.getfield 259, 3) := by decide +kernel
theorem dX12_chain_74 : decode cX12_chain 74 = .ok (.istore 7, 2) := by decide +kernel
theorem dX12_chain_76 : decode cX12_chain 76 = .ok (.aload_n 0, 1) := by decide +kernel
theorem dX12_chain_77 : decode cX12_chain 77 = .ok (.getfield 135, 3) := by decide +kernel
theorem dX12_chain_80 : decode cX12_chain 80 = .ok (.iload 7, 2) := by decide +kernel
theorem dX12_chain_82 : decode cX12_chain 82 = .ok (.iaload, 1) := by decide +kernel
theorem dX12_chain_83 : decode cX12_chain 83 = .ok (.istore 8, 2) := by decide +kernel
theorem dX12_chain_85 : decode cX12_chain 85 = .ok (.iload_n 1, 1) := by decide +kernel
theorem dX12_chain_86 : decode cX12_chain 86 = .ok (.istore 9, 2) := by decide +kernel
theorem dX12_chain_88 : decode cX12_chain 88 = .ok (.iconst 0, 1) := by decide +kernel
theorem dX12_chain_89 : decode cX12_chain 89 = .ok (.istore 10, 2) := by decide +kernel
theorem dX12_chain_91 : decode cX12_chain 91 = .ok (.iload 10, 2) := by decide +kernel
theorem dX12_chain_93 : decode cX12_chain 93 = .ok (.iload 5, 2) := by decide +kernel
theorem dX12_chain_95 : decode cX12_chain 95 = .ok (.if_icmp .ge 110, 3) := by decide +kernel
theorem dX12_chain_98 : decode cX12_chain 98 = .ok (.iload 10, 2) := by decide +kernel
theorem dX12_chain_100 : decode cX12_chain 100 = .ok (.iload 8, 2) := by decide +kernel
theorem dX12_chain_102 : decode cX12_chain 102 = .ok (.if_icmp .ge 103, 3) := by decide +kernel
theorem dX12_chain_105 : decode cX12_chain 105 = .ok (.aload_n 0, 1) := by decide +kernel
theorem dX12_chain_106 : decode cX12_chain 106 = .ok (.getfield 132, 3) := by decide +kernel
theorem dX12_chain_109 : decode cX12_chain 109 = .ok (.iconst 2, 1) := by decide +kernel
theorem dX12_chain_110 : decode cX12_chain 110 = .ok (.iload 9, 2) := by decide +kernel
theorem dX12_chain_112 : decode cX12_chain 112 = .ok (.imul, 1) := by decide +kernel
theorem dX12_chain_113 : decode cX12_chain 113 = .ok (.iaload, 1) := by decide +kernel
theorem dX12_chain_114 : decode cX12_chain 114 = .ok (.istore 11, 2) := by decide +kernel
theorem dX12_chain_116 : decode cX12_chain 116 = .ok (.aload_n 0, 1) := by decide +kernel
theorem dX12_chain_117 : decode cX12_chain 117 = .ok (.getfield 132, 3) := by decide +kernel
theorem dX12_chain_120 : decode cX12_chain 120 = .ok (.iconst 2, 1) := by decide +kernel
theorem dX12_chain_121 : decode cX12_chain 121 = .ok (.iload 9, 2) := by decide +kernel
theorem dX12_chain_123 : decode cX12_chain 123 = .ok (.imul, 1) := by decide +kernel
theorem dX12_chain_124 : decode cX12_chain 124 = .ok (.iconst 1, 1) := by decide +kernel
theorem dX12_chain_125 : decode cX12_chain 125 = .ok (.iadd, 1) := by decide +kernel
theorem dX12_chain_126 : decode cX12_chain 126 = .ok (.iaload, 1) := by decide +kernel
theorem dX12_chain_127 : decode cX12_chain 127 = .ok (.istore 12, 2) := by decide +kernel
theorem dX12_chain_129 : decode cX12_chain 129 = .ok (.aload_n 0, 1) := by decide +kernel
theorem dX12_chain_130 : decode cX12_chain 130 = .ok (.iload 11, 2) := by decide +kernel
theorem dX12_chain_132 : decode cX12_chain 132 = .ok (.iload 7, 2) := by decide +kernel
theorem dX12_chain_134 : decode cX12_chain 134 = .ok (.iload 8, 2) := by decide +kernel
theorem dX12_chain_136 : decode cX12_chain 136 = .ok (.iload 10, 2) := by decide +kernel
theorem dX12_chain_138 : decode cX12_chain 138 = .ok (.isub, 1) := by decide +kernel
theorem dX12_chain_139 : decode cX12_chain 139 = .ok (.iconst 1, 1) := by decide +kernel
theorem dX12_chain_140 : decode cX12_chain 140 = .ok (.isub, 1) := by decide +kernel
theorem dX12_chain_141 : decode cX12_chain 141 = .ok (.invokevirtual 269, 3) := by decide +kernel
theorem dX12_chain_144 : decode cX12_chain 144 = .ok (.ifCond .eq 8, 3) := by decide +kernel
theorem dX12_chain_147 : decode cX12_chain 147 = .ok (.iload 11, 2) := by decide +kernel
theorem dX12_chain_149 : decode cX12_chain 149 = .ok (.goto 4, 3) := by decide +kernel
theorem dX12_chain_152 : decode cX12_chain 152 = .ok (.iconst (-1), 1) := by decide +kernel
theorem dX12_chain_153 : decode cX12_chain 153 = .ok (.istore 13, 2) := by decide +kernel
theorem dX12_chain_155 : decode cX12_chain 155 = .ok (.aload_n 0, 1) := by decide +kernel
theorem dX12_chain_156 : decode cX12_chain 156 = .ok (.iload 12, 2) := by decide +kernel
theorem dX12_chain_158 : decode cX12_chain 158 = .ok (.iload 7, 2) := by decide +kernel
theorem dX12_chain_160 : decode cX12_chain 160 = .ok (.iload 8, 2) := by decide +kernel
theorem dX12_chain_162 : decode cX12_chain 162 = .ok (.iload 10, 2) := by decide +kernel
theorem dX12_chain_164 : decode cX12_chain 164 = .ok (.isub, 1) := by decide +kernel
theorem dX12_chain_165 : decode cX12_chain 165 = .ok (.iconst 1, 1) := by decide +kernel
theorem dX12_chain_166 : decode cX12_chain 166 = .ok (.isub, 1) := by decide +kernel
theorem dX12_chain_167 : decode cX12_chain 167 = .ok (.invokevirtual 269, 3) := by decide +kernel
theorem dX12_chain_170 : decode cX12_chain 170 = .ok (.ifCond .eq 21, 3) := by decide +kernel
theorem dX12_chain_173 : decode cX12_chain 173 = .ok (.iload 13, 2) := by decide +kernel
theorem dX12_chain_175 : decode cX12_chain 175 = .ok (.iconst (-1), 1) := by decide +kernel
theorem dX12_chain_176 : decode cX12_chain 176 = .ok (.if_icmp .eq 10, 3) := by decide +kernel
theorem dX12_chain_179 : decode cX12_chain 179 = .ok (.iload 12, 2) := by decide +kernel
theorem dX12_chain_181 : decode cX12_chain 181 = .ok (.iload 13, 2) := by decide +kernel
theorem dX12_chain_183 : decode cX12_chain 183 = .ok (.if_icmp .ge 8, 3) := by decide +kernel
theorem dX12_chain_186 : decode cX12_chain 186 = .ok (.iload 12, 2) := by decide +kernel
theorem dX12_chain_188 : decode cX12_chain 188 = .ok (.goto 5, 3) := by decide +kernel
theorem dX12_chain_191 : decode cX12_chain 191 = .ok (.iload 13, 2) := by decide +kernel
theorem dX12_chain_193 : decode cX12_chain 193 = .ok (.istore 13, 2) := by decide +kernel
theorem dX12_chain_195 : decode cX12_chain 195 = .ok (.iload 13, 2) := by decide +kernel
theorem dX12_chain_197 : decode cX12_chain 197 = .ok (.istore 9, 2) := by decide +kernel
