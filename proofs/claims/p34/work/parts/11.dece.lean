theorem dL_note_318 : decode cL_note 318 = .ok (.bipush 37, 2) := by decide +kernel
theorem dL_note_320 : decode cL_note 320 = .ok (.goto 5, 3) := by decide +kernel
theorem dL_note_323 : decode cL_note 323 = .ok (.bipush 25, 2) := by decide +kernel
theorem dL_note_325 : decode cL_note 325 = .ok (.istore 18, 2) := by decide +kernel
theorem dL_note_327 : decode cL_note 327 = .ok (.iconst 0, 1) := by decide +kernel
theorem dL_note_328 : decode cL_note 328 = .ok (.istore 19, 2) := by decide +kernel
theorem dL_note_330 : decode cL_note 330 = .ok (.iload 18, 2) := by decide +kernel
theorem dL_note_332 : decode cL_note 332 = .ok (.iconst 2, 1) := by decide +kernel
theorem dL_note_333 : decode cL_note 333 = .ok (.isub, 1) := by decide +kernel
theorem dL_note_334 : decode cL_note 334 = .ok (.istore 20, 2) := by decide +kernel
theorem dL_note_336 : decode cL_note 336 = .ok (.iload 20, 2) := by decide +kernel
theorem dL_note_338 : decode cL_note 338 = .ok (.iload 17, 2) := by decide +kernel
theorem dL_note_340 : decode cL_note 340 = .ok (.if_icmp .lt 12, 3) := by decide +kernel
theorem dL_note_343 : decode cL_note 343 = .ok (.iinc 19 1, 3) := by decide +kernel
theorem dL_note_346 : decode cL_note 346 = .ok (.iinc 20 (-2), 3) := by decide +kernel
theorem dL_note_349 : decode cL_note 349 = .ok (.goto (-13), 3) := by decide +kernel
theorem dL_note_352 : decode cL_note 352 = .ok (.iload 18, 2) := by decide +kernel
theorem dL_note_354 : decode cL_note 354 = .ok (.bipush 10, 2) := by decide +kernel
theorem dL_note_356 : decode cL_note 356 = .ok (.iadd, 1) := by decide +kernel
theorem dL_note_357 : decode cL_note 357 = .ok (.istore 20, 2) := by decide +kernel
theorem dL_note_359 : decode cL_note 359 = .ok (.iload 20, 2) := by decide +kernel
theorem dL_note_361 : decode cL_note 361 = .ok (.iload 17, 2) := by decide +kernel
theorem dL_note_363 : decode cL_note 363 = .ok (.if_icmp .gt 12, 3) := by decide +kernel
theorem dL_note_366 : decode cL_note 366 = .ok (.iinc 19 1, 3) := by decide +kernel
theorem dL_note_369 : decode cL_note 369 = .ok (.iinc 20 2, 3) := by decide +kernel
theorem dL_note_372 : decode cL_note 372 = .ok (.goto (-13), 3) := by decide +kernel
theorem dL_note_375 : decode cL_note 375 = .ok (.aload_n 0, 1) := by decide +kernel
theorem dL_note_376 : decode cL_note 376 = .ok (.iload_n 1, 1) := by decide +kernel
theorem dL_note_377 : decode cL_note 377 = .ok (.iload 13, 2) := by decide +kernel
theorem dL_note_379 : decode cL_note 379 = .ok (.iconst 0, 1) := by decide +kernel
theorem dL_note_380 : decode cL_note 380 = .ok (.invokevirtual 66, 3) := by decide +kernel
theorem dL_note_383 : decode cL_note 383 = .ok (.iload 14, 2) := by decide +kernel
theorem dL_note_385 : decode cL_note 385 = .ok (.if_icmp .ne 98, 3) := by decide +kernel
theorem dL_note_388 : decode cL_note 388 = .ok (.aload_n 0, 1) := by decide +kernel
theorem dL_note_389 : decode cL_note 389 = .ok (.iload_n 1, 1) := by decide +kernel
theorem dL_note_390 : decode cL_note 390 = .ok (.iload 13, 2) := by decide +kernel
theorem dL_note_392 : decode cL_note 392 = .ok (.iconst 1, 1) := by decide +kernel
theorem dL_note_393 : decode cL_note 393 = .ok (.invokevirtual 66, 3) := by decide +kernel
theorem dL_note_396 : decode cL_note 396 = .ok (.iload 16, 2) := by decide +kernel
theorem dL_note_398 : decode cL_note 398 = .ok (.if_icmp .ne 85, 3) := by decide +kernel
theorem dL_note_401 : decode cL_note 401 = .ok (.aload_n 0, 1) := by decide +kernel
theorem dL_note_402 : decode cL_note 402 = .ok (.iload_n 1, 1) := by decide +kernel
theorem dL_note_403 : decode cL_note 403 = .ok (.iload 13, 2) := by decide +kernel
theorem dL_note_405 : decode cL_note 405 = .ok (.iconst 2, 1) := by decide +kernel
theorem dL_note_406 : decode cL_note 406 = .ok (.invokevirtual 66, 3) := by decide +kernel
theorem dL_note_409 : decode cL_note 409 = .ok (.iload 17, 2) := by decide +kernel
theorem dL_note_411 : decode cL_note 411 = .ok (.if_icmp .ne 72, 3) := by decide +kernel
theorem dL_note_414 : decode cL_note 414 = .ok (.aload_n 0, 1) := by decide +kernel
theorem dL_note_415 : decode cL_note 415 = .ok (.iload_n 1, 1) := by decide +kernel
theorem dL_note_416 : decode cL_note 416 = .ok (.iload 13, 2) := by decide +kernel
theorem dL_note_418 : decode cL_note 418 = .ok (.iconst 3, 1) := by decide +kernel
theorem dL_note_419 : decode cL_note 419 = .ok (.invokevirtual 66, 3) := by decide +kernel
theorem dL_note_422 : decode cL_note 422 = .ok (.iload 15, 2) := by decide +kernel
theorem dL_note_424 : decode cL_note 424 = .ok (.ifCond .ge 7, 3) := by decide +kernel
theorem dL_note_427 : decode cL_note 427 = .ok (.iconst 1, 1) := by decide +kernel
theorem dL_note_428 : decode cL_note 428 = .ok (.goto 4, 3) := by decide +kernel
theorem dL_note_431 : decode cL_note 431 = .ok (.iconst 0, 1) := by decide +kernel
theorem dL_note_432 : decode cL_note 432 = .ok (.if_icmp .ne 51, 3) := by decide +kernel
theorem dL_note_435 : decode cL_note 435 = .ok (.aload_n 0, 1) := by decide +kernel
theorem dL_note_436 : decode cL_note 436 = .ok (.iload_n 1, 1) := by decide +kernel
theorem dL_note_437 : decode cL_note 437 = .ok (.iload 13, 2) := by decide +kernel
theorem dL_note_439 : decode cL_note 439 = .ok (.iconst 4, 1) := by decide +kernel
theorem dL_note_440 : decode cL_note 440 = .ok (.invokevirtual 66, 3) := by decide +kernel
theorem dL_note_443 : decode cL_note 443 = .ok (.iload 15, 2) := by decide +kernel
theorem dL_note_445 : decode cL_note 445 = .ok (.ifCond .ge 7, 3) := by decide +kernel
theorem dL_note_448 : decode cL_note 448 = .ok (.iconst (-1), 1) := by decide +kernel
theorem dL_note_449 : decode cL_note 449 = .ok (.goto 18, 3) := by decide +kernel
theorem dL_note_452 : decode cL_note 452 = .ok (.iload 15, 2) := by decide +kernel
theorem dL_note_454 : decode cL_note 454 = .ok (.bipush 6, 2) := by decide +kernel
theorem dL_note_456 : decode cL_note 456 = .ok (.if_icmp .ne 7, 3) := by decide +kernel
theorem dL_note_459 : decode cL_note 459 = .ok (.iconst 3, 1) := by decide +kernel
theorem dL_note_460 : decode cL_note 460 = .ok (.goto 7, 3) := by decide +kernel
theorem dL_note_463 : decode cL_note 463 = .ok (.iload 15, 2) := by decide +kernel
theorem dL_note_465 : decode cL_note 465 = .ok (.iconst 3, 1) := by decide +kernel
theorem dL_note_466 : decode cL_note 466 = .ok (.irem, 1) := by decide +kernel
theorem dL_note_467 : decode cL_note 467 = .ok (.if_icmp .ne 16, 3) := by decide +kernel
theorem dL_note_470 : decode cL_note 470 = .ok (.aload_n 0, 1) := by decide +kernel
theorem dL_note_471 : decode cL_note 471 = .ok (.iload_n 1, 1) := by decide +kernel
theorem dL_note_472 : decode cL_note 472 = .ok (.iload 13, 2) := by decide +kernel
theorem dL_note_474 : decode cL_note 474 = .ok (.iconst 5, 1) := by decide +kernel
theorem dL_note_475 : decode cL_note 475 = .ok (.invokevirtual 66, 3) := by decide +kernel
theorem dL_note_478 : decode cL_note 478 = .ok (.iload 19, 2) := by decide +kernel
theorem dL_note_480 : decode cL_note 480 = .ok (.if_icmp .eq 5, 3) := by decide +kernel
theorem dL_note_483 : decode cL_note 483 = .ok (.iconst 0, 1) := by decide +kernel
theorem dL_note_484 : decode cL_note 484 = .ok (.ireturn, 1) := by decide +kernel
theorem dL_note_485 : decode cL_note 485 = .ok (.iinc 13 1, 3) := by decide +kernel
theorem dL_note_488 : decode cL_note 488 = .ok (.goto (-233), 3) := by decide +kernel
theorem dL_note_491 : decode cL_note 491 = .ok (.iconst 0, 1) := by decide +kernel
theorem dL_note_492 : decode cL_note 492 = .ok (.istore 13, 2) := by decide +kernel
theorem dL_note_494 : decode cL_note 494 = .ok (.iload 13, 2) := by decide +kernel
theorem dL_note_496 : decode cL_note 496 = .ok (.iconst 2, 1) := by decide +kernel
theorem dL_note_497 : decode cL_note 497 = .ok (.if_icmp .ge 99, 3) := by decide +kernel
theorem dL_note_500 : decode cL_note 500 = .ok (.aload 5, 2) := by decide +kernel
theorem dL_note_502 : decode cL_note 502 = .ok (.iload 7, 2) := by decide +kernel
theorem dL_note_504 : decode cL_note 504 = .ok (.iconst 1, 1) := by decide +kernel
theorem dL_note_505 : decode cL_note 505 = .ok (.iadd, 1) := by decide +kernel
theorem dL_note_506 : decode cL_note 506 = .ok (.iconst 2, 1) := by decide +kernel
theorem dL_note_507 : decode cL_note 507 = .ok (.iload 13, 2) := by decide +kernel
theorem dL_note_509 : decode cL_note 509 = .ok (.imul, 1) := by decide +kernel
theorem dL_note_510 : decode cL_note 510 = .ok (.iadd, 1) := by decide +kernel
theorem dL_note_511 : decode cL_note 511 = .ok (.iaload, 1) := by decide +kernel
theorem dL_note_512 : decode cL_note 512 = .ok (.istore 14, 2) := by decide +kernel
theorem dL_note_514 : decode cL_note 514 = .ok (.aload 5, 2) := by decide +kernel
theorem dL_note_516 : decode cL_note 516 = .ok (.iload 7, 2) := by decide +kernel
theorem dL_note_518 : decode cL_note 518 = .ok (.iconst 2, 1) := by decide +kernel
theorem dL_note_519 : decode cL_note 519 = .ok (.iadd, 1) := by decide +kernel
theorem dL_note_520 : decode cL_note 520 = .ok (.iconst 2, 1) := by decide +kernel
theorem dL_note_521 : decode cL_note 521 = .ok (.iload 13, 2) := by decide +kernel
theorem dL_note_523 : decode cL_note 523 = .ok (.imul, 1) := by decide +kernel
theorem dL_note_524 : decode cL_note 524 = .ok (.iadd, 1) := by decide +kernel
theorem dL_note_525 : decode cL_note 525 = .ok (.iaload, 1) := by decide +kernel
theorem dL_note_526 : decode cL_note 526 = .ok (.istore 15, 2) := by decide +kernel
theorem dL_note_528 : decode cL_note 528 = .ok (.aload_n 0, 1) := by decide +kernel
theorem dL_note_529 : decode cL_note 529 = .ok (.iload_n 1, 1) := by decide +kernel
theorem dL_note_530 : decode cL_note 530 = .ok (.iload 13, 2) := by decide +kernel
theorem dL_note_532 : decode cL_note 532 = .ok (.invokevirtual 70, 3) := by decide +kernel
theorem dL_note_535 : decode cL_note 535 = .ok (.iload 14, 2) := by decide +kernel
theorem dL_note_537 : decode cL_note 537 = .ok (.iload 15, 2) := by decide +kernel
theorem dL_note_539 : decode cL_note 539 = .ok (.if_icmp .ne 7, 3) := by decide +kernel
theorem dL_note_542 : decode cL_note 542 = .ok (.iconst 1, 1) := by decide +kernel
theorem dL_note_543 : decode cL_note 543 = .ok (.goto 42, 3) := by decide +kernel
theorem dL_note_546 : decode cL_note 546 = .ok (.iload 14, 2) := by decide +kernel
theorem dL_note_548 : decode cL_note 548 = .ok (.aload 4, 2) := by decide +kernel
theorem dL_note_550 : decode cL_note 550 = .ok (.invokestatic 63, 3) := by decide +kernel
theorem dL_note_553 : decode cL_note 553 = .ok (.iload 15, 2) := by decide +kernel
theorem dL_note_555 : decode cL_note 555 = .ok (.aload 4, 2) := by decide +kernel
theorem dL_note_557 : decode cL_note 557 = .ok (.invokestatic 63, 3) := by decide +kernel
theorem dL_note_560 : decode cL_note 560 = .ok (.invokestatic 73, 3) := by decide +kernel
theorem dL_note_563 : decode cL_note 563 = .ok (.iconst 2, 1) := by decide +kernel
theorem dL_note_564 : decode cL_note 564 = .ok (.if_icmp .ge 7, 3) := by decide +kernel
theorem dL_note_567 : decode cL_note 567 = .ok (.iconst 2, 1) := by decide +kernel
theorem dL_note_568 : decode cL_note 568 = .ok (.goto 4, 3) := by decide +kernel
theorem dL_note_571 : decode cL_note 571 = .ok (.iconst 0, 1) := by decide +kernel
theorem dL_note_572 : decode cL_note 572 = .ok (.iload 15, 2) := by decide +kernel
theorem dL_note_574 : decode cL_note 574 = .ok (.iload 14, 2) := by decide +kernel
theorem dL_note_576 : decode cL_note 576 = .ok (.if_icmp .le 7, 3) := by decide +kernel
theorem dL_note_579 : decode cL_note 579 = .ok (.iconst 4, 1) := by decide +kernel
theorem dL_note_580 : decode cL_note 580 = .ok (.goto 4, 3) := by decide +kernel
theorem dL_note_583 : decode cL_note 583 = .ok (.iconst 0, 1) := by decide +kernel
theorem dL_note_584 : decode cL_note 584 = .ok (.iadd, 1) := by decide +kernel
theorem dL_note_585 : decode cL_note 585 = .ok (.if_icmp .eq 5, 3) := by decide +kernel
theorem dL_note_588 : decode cL_note 588 = .ok (.iconst 0, 1) := by decide +kernel
theorem dL_note_589 : decode cL_note 589 = .ok (.ireturn, 1) := by decide +kernel
theorem dL_note_590 : decode cL_note 590 = .ok (.iinc 13 1, 3) := by decide +kernel
theorem dL_note_593 : decode cL_note 593 = .ok (.goto (-99), 3) := by decide +kernel
theorem dL_note_596 : decode cL_note 596 = .ok (.iconst 1, 1) := by decide +kernel
theorem dL_note_597 : decode cL_note 597 = .ok (.ireturn, 1) := by decide +kernel
theorem dL_fit_0 : decode cL_fit 0 = .ok (.iconst 0, 1) := by decide +kernel
theorem dL_fit_1 : decode cL_fit 1 = .ok (.istore 6, 2) := by decide +kernel
theorem dL_fit_3 : decode cL_fit 3 = .ok (.iload 6, 2) := by decide +kernel
theorem dL_fit_5 : decode cL_fit 5 = .ok (.bipush 24, 2) := by decide +kernel
theorem dL_fit_7 : decode cL_fit 7 = .ok (.if_icmp .lt 9, 3) := by decide +kernel
theorem dL_fit_10 : decode cL_fit 10 = .ok (.iload 6, 2) := by decide +kernel
theorem dL_fit_12 : decode cL_fit 12 = .ok (.iload_n 1, 1) := by decide +kernel
theorem dL_fit_13 : decode cL_fit 13 = .ok (.if_icmp .ge 88, 3) := by decide +kernel
theorem dL_fit_16 : decode cL_fit 16 = .ok (.iload 6, 2) := by decide +kernel
theorem dL_fit_18 : decode cL_fit 18 = .ok (.bipush 8, 2) := by decide +kernel
theorem dL_fit_20 : decode cL_fit 20 = .ok (.if_icmp .ge 21, 3) := by decide +kernel
theorem dL_fit_23 : decode cL_fit 23 = .ok (.iload_n 0, 1) := by decide +kernel
theorem dL_fit_24 : decode cL_fit 24 = .ok (.iconst 2, 1) := by decide +kernel
theorem dL_fit_25 : decode cL_fit 25 = .ok (.if_icmp .ge 16, 3) := by decide +kernel
theorem dL_fit_28 : decode cL_fit 28 = .ok (.aload 5, 2) := by decide +kernel
theorem dL_fit_30 : decode cL_fit 30 = .ok (.bipush 8, 2) := by decide +kernel
theorem dL_fit_32 : decode cL_fit 32 = .ok (.iload_n 0, 1) := by decide +kernel
theorem dL_fit_33 : decode cL_fit 33 = .ok (.imul, 1) := by decide +kernel
theorem dL_fit_34 : decode cL_fit 34 = .ok (.iload 6, 2) := by decide +kernel
theorem dL_fit_36 : decode cL_fit 36 = .ok (.iadd, 1) := by decide +kernel
theorem dL_fit_37 : decode cL_fit 37 = .ok (.iaload, 1) := by decide +kernel
theorem dL_fit_38 : decode cL_fit 38 = .ok (.goto 4, 3) := by decide +kernel
theorem dL_fit_41 : decode cL_fit 41 = .ok (.iconst 0, 1) := by decide +kernel
theorem dL_fit_42 : decode cL_fit 42 = .ok (.istore 7, 2) := by decide +kernel
theorem dL_fit_44 : decode cL_fit 44 = .ok (.iload 6, 2) := by decide +kernel
theorem dL_fit_46 : decode cL_fit 46 = .ok (.iload_n 1, 1) := by decide +kernel
theorem dL_fit_47 : decode cL_fit 47 = .ok (.if_icmp .ge 32, 3) := by decide +kernel
theorem dL_fit_50 : decode cL_fit 50 = .ok (.aload_n 2, 1) := by decide +kernel
theorem dL_fit_51 : decode cL_fit 51 = .ok (.iload 6, 2) := by decide +kernel
theorem dL_fit_53 : decode cL_fit 53 = .ok (.iaload, 1) := by decide +kernel
theorem dL_fit_54 : decode cL_fit 54 = .ok (.aload_n 3, 1) := by decide +kernel
theorem dL_fit_55 : decode cL_fit 55 = .ok (.aload 4, 2) := by decide +kernel
theorem dL_fit_57 : decode cL_fit 57 = .ok (.invokestatic 25, 3) := by decide +kernel
theorem dL_fit_60 : decode cL_fit 60 = .ok (.aload_n 2, 1) := by decide +kernel
theorem dL_fit_61 : decode cL_fit 61 = .ok (.iload 6, 2) := by decide +kernel
theorem dL_fit_63 : decode cL_fit 63 = .ok (.iaload, 1) := by decide +kernel
theorem dL_fit_64 : decode cL_fit 64 = .ok (.aload_n 3, 1) := by decide +kernel
theorem dL_fit_65 : decode cL_fit 65 = .ok (.aload 4, 2) := by decide +kernel
theorem dL_fit_67 : decode cL_fit 67 = .ok (.invokestatic 76, 3) := by decide +kernel
theorem dL_fit_70 : decode cL_fit 70 = .ok (.aload_n 3, 1) := by decide +kernel
theorem dL_fit_71 : decode cL_fit 71 = .ok (.aload 4, 2) := by decide +kernel
theorem dL_fit_73 : decode cL_fit 73 = .ok (.invokestatic 28, 3) := by decide +kernel
theorem dL_fit_76 : decode cL_fit 76 = .ok (.goto 4, 3) := by decide +kernel
theorem dL_fit_79 : decode cL_fit 79 = .ok (.iconst 0, 1) := by decide +kernel
theorem dL_fit_80 : decode cL_fit 80 = .ok (.istore 8, 2) := by decide +kernel
theorem dL_fit_82 : decode cL_fit 82 = .ok (.iload 7, 2) := by decide +kernel
theorem dL_fit_84 : decode cL_fit 84 = .ok (.invokestatic 32, 3) := by decide +kernel
theorem dL_fit_87 : decode cL_fit 87 = .ok (.iload 8, 2) := by decide +kernel
theorem dL_fit_89 : decode cL_fit 89 = .ok (.if_icmp .eq 6, 3) := by decide +kernel
theorem dL_fit_92 : decode cL_fit 92 = .ok (.iload 6, 2) := by decide +kernel
theorem dL_fit_94 : decode cL_fit 94 = .ok (.ireturn, 1) := by decide +kernel
theorem dL_fit_95 : decode cL_fit 95 = .ok (.iinc 6 1, 3) := by decide +kernel
theorem dL_fit_98 : decode cL_fit 98 = .ok (.goto (-95), 3) := by decide +kernel
theorem dL_fit_101 : decode cL_fit 101 = .ok (.iconst (-1), 1) := by decide +kernel
theorem dL_fit_102 : decode cL_fit 102 = .ok (.ireturn, 1) := by decide +kernel
theorem dL_told_0 : decode cL_told 0 = .ok (.bipush 30, 2) := by decide +kernel
theorem dL_told_2 : decode cL_told 2 = .ok (.newarray .int, 2) := by decide +kernel
theorem dL_told_4 : decode cL_told 4 = .ok (.astore 6, 2) := by decide +kernel
theorem dL_told_6 : decode cL_told 6 = .ok (.aload_n 2, 1) := by decide +kernel
theorem dL_told_7 : decode cL_told 7 = .ok (.aload_n 3, 1) := by decide +kernel
theorem dL_told_8 : decode cL_told 8 = .ok (.aload 4, 2) := by decide +kernel
theorem dL_told_10 : decode cL_told 10 = .ok (.aload 6, 2) := by decide +kernel
theorem dL_told_12 : decode cL_told 12 = .ok (.invokestatic 79, 3) := by decide +kernel
theorem dL_told_15 : decode cL_told 15 = .ok (.istore 7, 2) := by decide +kernel
theorem dL_told_17 : decode cL_told 17 = .ok (.aload_n 2, 1) := by decide +kernel
theorem dL_told_18 : decode cL_told 18 = .ok (.aload_n 3, 1) := by decide +kernel
theorem dL_told_19 : decode cL_told 19 = .ok (.invokestatic 21, 3) := by decide +kernel
theorem dL_told_22 : decode cL_told 22 = .ok (.istore 8, 2) := by decide +kernel
theorem dL_told_24 : decode cL_told 24 = .ok (.iconst 0, 1) := by decide +kernel
theorem dL_told_25 : decode cL_told 25 = .ok (.istore 9, 2) := by decide +kernel
theorem dL_told_27 : decode cL_told 27 = .ok (.iconst 0, 1) := by decide +kernel
theorem dL_told_28 : decode cL_told 28 = .ok (.istore 10, 2) := by decide +kernel
theorem dL_told_30 : decode cL_told 30 = .ok (.iconst 0, 1) := by decide +kernel
theorem dL_told_31 : decode cL_told 31 = .ok (.istore 11, 2) := by decide +kernel
theorem dL_told_33 : decode cL_told 33 = .ok (.iconst (-1), 1) := by decide +kernel
theorem dL_told_34 : decode cL_told 34 = .ok (.istore 12, 2) := by decide +kernel
theorem dL_told_36 : decode cL_told 36 = .ok (.iconst 0, 1) := by decide +kernel
theorem dL_told_37 : decode cL_told 37 = .ok (.istore 13, 2) := by decide +kernel
theorem dL_told_39 : decode cL_told 39 = .ok (.iconst 0, 1) := by decide +kernel
theorem dL_told_40 : decode cL_told 40 = .ok (.istore 14, 2) := by decide +kernel
theorem dL_told_42 : decode cL_told 42 = .ok (.iconst 0, 1) := by decide +kernel
theorem dL_told_43 : decode cL_told 43 = .ok (.istore 15, 2) := by decide +kernel
theorem dL_told_45 : decode cL_told 45 = .ok (.iload 15, 2) := by decide +kernel
theorem dL_told_47 : decode cL_told 47 = .ok (.aload_n 2, 1) := by decide +kernel
theorem dL_told_48 : decode cL_told 48 = .ok (.iconst 1, 1) := by decide +kernel
theorem dL_told_49 : decode cL_told 49 = .ok (.iaload, 1) := by decide +kernel
theorem dL_told_50 : decode cL_told 50 = .ok (.if_icmp .ge 60, 3) := by decide +kernel
theorem dL_told_53 : decode cL_told 53 = .ok (.aload_n 0, 1) := by decide +kernel
theorem dL_told_54 : decode cL_told 54 = .ok (.iload 15, 2) := by decide +kernel
theorem dL_told_56 : decode cL_told 56 = .ok (.iload 7, 2) := by decide +kernel
theorem dL_told_58 : decode cL_told 58 = .ok (.aload 6, 2) := by decide +kernel
theorem dL_told_60 : decode cL_told 60 = .ok (.aload_n 2, 1) := by decide +kernel
theorem dL_told_61 : decode cL_told 61 = .ok (.aload_n 3, 1) := by decide +kernel
theorem dL_told_62 : decode cL_told 62 = .ok (.aload 5, 2) := by decide +kernel
theorem dL_told_64 : decode cL_told 64 = .ok (.invokestatic 83, 3) := by decide +kernel
theorem dL_told_67 : decode cL_told 67 = .ok (.ifCond .ne 5, 3) := by decide +kernel
theorem dL_told_70 : decode cL_told 70 = .ok (.iconst 0, 1) := by decide +kernel
theorem dL_told_71 : decode cL_told 71 = .ok (.ireturn, 1) := by decide +kernel
theorem dL_told_72 : decode cL_told 72 = .ok (.iload 9, 2) := by decide +kernel
theorem dL_told_74 : decode cL_told 74 = .ok (.aload_n 3, 1) := by decide +kernel
theorem dL_told_75 : decode cL_told 75 = .ok (.iconst 5, 1) := by decide +kernel
theorem dL_told_76 : decode cL_told 76 = .ok (.iload 15, 2) := by decide +kernel
theorem dL_told_78 : decode cL_told 78 = .ok (.imul, 1) := by decide +kernel
theorem dL_told_79 : decode cL_told 79 = .ok (.iaload, 1) := by decide +kernel
theorem dL_told_80 : decode cL_told 80 = .ok (.iconst 2, 1) := by decide +kernel
theorem dL_told_81 : decode cL_told 81 = .ok (.ishr, 1) := by decide +kernel
theorem dL_told_82 : decode cL_told 82 = .ok (.iadd, 1) := by decide +kernel
theorem dL_told_83 : decode cL_told 83 = .ok (.istore 9, 2) := by decide +kernel
theorem dL_told_85 : decode cL_told 85 = .ok (.iload 11, 2) := by decide +kernel
theorem dL_told_87 : decode cL_told 87 = .ok (.iload 15, 2) := by decide +kernel
theorem dL_told_89 : decode cL_told 89 = .ok (.aload_n 3, 1) := by decide +kernel
theorem dL_told_90 : decode cL_told 90 = .ok (.invokestatic 60, 3) := by decide +kernel
theorem dL_told_93 : decode cL_told 93 = .ok (.ifCond .le 7, 3) := by decide +kernel
theorem dL_told_96 : decode cL_told 96 = .ok (.iconst 1, 1) := by decide +kernel
theorem dL_told_97 : decode cL_told 97 = .ok (.goto 4, 3) := by decide +kernel
theorem dL_told_100 : decode cL_told 100 = .ok (.iconst 0, 1) := by decide +kernel
theorem dL_told_101 : decode cL_told 101 = .ok (.iadd, 1) := by decide +kernel
theorem dL_told_102 : decode cL_told 102 = .ok (.istore 11, 2) := by decide +kernel
theorem dL_told_104 : decode cL_told 104 = .ok (.iinc 15 1, 3) := by decide +kernel
theorem dL_told_107 : decode cL_told 107 = .ok (.goto (-62), 3) := by decide +kernel
theorem dL_told_110 : decode cL_told 110 = .ok (.iconst 0, 1) := by decide +kernel
theorem dL_told_111 : decode cL_told 111 = .ok (.istore 15, 2) := by decide +kernel
theorem dL_told_113 : decode cL_told 113 = .ok (.iload 15, 2) := by decide +kernel
theorem dL_told_115 : decode cL_told 115 = .ok (.iload 8, 2) := by decide +kernel
theorem dL_told_117 : decode cL_told 117 = .ok (.if_icmp .ge 233, 3) := by decide +kernel
theorem dL_told_120 : decode cL_told 120 = .ok (.iconst 0, 1) := by decide +kernel
theorem dL_told_121 : decode cL_told 121 = .ok (.istore 16, 2) := by decide +kernel
theorem dL_told_123 : decode cL_told 123 = .ok (.iconst 0, 1) := by decide +kernel
theorem dL_told_124 : decode cL_told 124 = .ok (.istore 17, 2) := by decide +kernel
theorem dL_told_126 : decode cL_told 126 = .ok (.iload 15, 2) := by decide +kernel
theorem dL_told_128 : decode cL_told 128 = .ok (.aload_n 2, 1) := by decide +kernel
theorem dL_told_129 : decode cL_told 129 = .ok (.aload_n 3, 1) := by decide +kernel
theorem dL_told_130 : decode cL_told 130 = .ok (.invokestatic 25, 3) := by decide +kernel
theorem dL_told_133 : decode cL_told 133 = .ok (.istore 18, 2) := by decide +kernel
theorem dL_told_135 : decode cL_told 135 = .ok (.iload 18, 2) := by decide +kernel
theorem dL_told_137 : decode cL_told 137 = .ok (.iload 15, 2) := by decide +kernel
theorem dL_told_139 : decode cL_told 139 = .ok (.aload_n 2, 1) := by decide +kernel
theorem dL_told_140 : decode cL_told 140 = .ok (.aload_n 3, 1) := by decide +kernel
theorem dL_told_141 : decode cL_told 141 = .ok (.invokestatic 76, 3) := by decide +kernel
theorem dL_told_144 : decode cL_told 144 = .ok (.if_icmp .gt 27, 3) := by decide +kernel
theorem dL_told_147 : decode cL_told 147 = .ok (.iload 16, 2) := by decide +kernel
theorem dL_told_149 : decode cL_told 149 = .ok (.iload 18, 2) := by decide +kernel
theorem dL_told_151 : decode cL_told 151 = .ok (.iload 7, 2) := by decide +kernel
theorem dL_told_153 : decode cL_told 153 = .ok (.aload 6, 2) := by decide +kernel
theorem dL_told_155 : decode cL_told 155 = .ok (.aload_n 2, 1) := by decide +kernel
theorem dL_told_156 : decode cL_told 156 = .ok (.aload_n 3, 1) := by decide +kernel
theorem dL_told_157 : decode cL_told 157 = .ok (.aload 5, 2) := by decide +kernel
theorem dL_told_159 : decode cL_told 159 = .ok (.invokestatic 56, 3) := by decide +kernel
theorem dL_told_162 : decode cL_told 162 = .ok (.iadd, 1) := by decide +kernel
theorem dL_told_163 : decode cL_told 163 = .ok (.istore 16, 2) := by decide +kernel
theorem dL_told_165 : decode cL_told 165 = .ok (.iinc 18 1, 3) := by decide +kernel
theorem dL_told_168 : decode cL_told 168 = .ok (.goto (-33), 3) := by decide +kernel
theorem dL_told_171 : decode cL_told 171 = .ok (.iconst 0, 1) := by decide +kernel
theorem dL_told_172 : decode cL_told 172 = .ok (.istore 18, 2) := by decide +kernel
theorem dL_told_174 : decode cL_told 174 = .ok (.iload 18, 2) := by decide +kernel
theorem dL_told_176 : decode cL_told 176 = .ok (.iload 7, 2) := by decide +kernel
theorem dL_told_178 : decode cL_told 178 = .ok (.if_icmp .ge 29, 3) := by decide +kernel
theorem dL_told_181 : decode cL_told 181 = .ok (.iload 17, 2) := by decide +kernel
theorem dL_told_183 : decode cL_told 183 = .ok (.aload 6, 2) := by decide +kernel
theorem dL_told_185 : decode cL_told 185 = .ok (.iload 18, 2) := by decide +kernel
theorem dL_told_187 : decode cL_told 187 = .ok (.iaload, 1) := by decide +kernel
theorem dL_told_188 : decode cL_told 188 = .ok (.iload 15, 2) := by decide +kernel
theorem dL_told_190 : decode cL_told 190 = .ok (.if_icmp .ne 7, 3) := by decide +kernel
theorem dL_told_193 : decode cL_told 193 = .ok (.iconst 1, 1) := by decide +kernel
theorem dL_told_194 : decode cL_told 194 = .ok (.goto 4, 3) := by decide +kernel
theorem dL_told_197 : decode cL_told 197 = .ok (.iconst 0, 1) := by decide +kernel
theorem dL_told_198 : decode cL_told 198 = .ok (.iadd, 1) := by decide +kernel
theorem dL_told_199 : decode cL_told 199 = .ok (.istore 17, 2) := by decide +kernel
theorem dL_told_201 : decode cL_told 201 = .ok (.iinc 18 1, 3) := by decide +kernel
theorem dL_told_204 : decode cL_told 204 = .ok (.goto (-30), 3) := by decide +kernel
theorem dL_told_207 : decode cL_told 207 = .ok (.iload 10, 2) := by decide +kernel
theorem dL_told_209 : decode cL_told 209 = .ok (.iload 16, 2) := by decide +kernel
theorem dL_told_211 : decode cL_told 211 = .ok (.iadd, 1) := by decide +kernel
theorem dL_told_212 : decode cL_told 212 = .ok (.istore 10, 2) := by decide +kernel
theorem dL_told_214 : decode cL_told 214 = .ok (.iload 12, 2) := by decide +kernel
theorem dL_told_216 : decode cL_told 216 = .ok (.ifCond .lt 14, 3) := by decide +kernel
theorem dL_told_219 : decode cL_told 219 = .ok (.iload 13, 2) := by decide +kernel
theorem dL_told_221 : decode cL_told 221 = .ok (.iload 16, 2) := by decide +kernel
theorem dL_told_223 : decode cL_told 223 = .ok (.iadd, 1) := by decide +kernel
theorem dL_told_224 : decode cL_told 224 = .ok (.aload_n 2, 1) := by decide +kernel
theorem dL_told_225 : decode cL_told 225 = .ok (.iconst 4, 1) := by decide +kernel
theorem dL_told_226 : decode cL_told 226 = .ok (.iaload, 1) := by decide +kernel
theorem dL_told_227 : decode cL_told 227 = .ok (.if_icmp .le 9, 3) := by decide +kernel
theorem dL_told_230 : decode cL_told 230 = .ok (.iinc 12 1, 3) := by decide +kernel
theorem dL_told_233 : decode cL_told 233 = .ok (.iconst 0, 1) := by decide +kernel
theorem dL_told_234 : decode cL_told 234 = .ok (.istore 13, 2) := by decide +kernel
theorem dL_told_236 : decode cL_told 236 = .ok (.iload 13, 2) := by decide +kernel
theorem dL_told_238 : decode cL_told 238 = .ok (.iload 16, 2) := by decide +kernel
theorem dL_told_240 : decode cL_told 240 = .ok (.iadd, 1) := by decide +kernel
theorem dL_told_241 : decode cL_told 241 = .ok (.istore 13, 2) := by decide +kernel
theorem dL_told_243 : decode cL_told 243 = .ok (.aload_n 0, 1) := by decide +kernel
theorem dL_told_244 : decode cL_told 244 = .ok (.iload 15, 2) := by decide +kernel
theorem dL_told_246 : decode cL_told 246 = .ok (.iconst 0, 1) := by decide +kernel
theorem dL_told_247 : decode cL_told 247 = .ok (.invokevirtual 86, 3) := by decide +kernel
theorem dL_told_250 : decode cL_told 250 = .ok (.iload 15, 2) := by decide +kernel
theorem dL_told_252 : decode cL_told 252 = .ok (.aload_n 2, 1) := by decide +kernel
theorem dL_told_253 : decode cL_told 253 = .ok (.aload_n 3, 1) := by decide +kernel
theorem dL_told_254 : decode cL_told 254 = .ok (.invokestatic 25, 3) := by decide +kernel
theorem dL_told_257 : decode cL_told 257 = .ok (.if_icmp .ne 85, 3) := by decide +kernel
theorem dL_told_260 : decode cL_told 260 = .ok (.aload_n 0, 1) := by decide +kernel
theorem dL_told_261 : decode cL_told 261 = .ok (.iload 15, 2) := by decide +kernel
theorem dL_told_263 : decode cL_told 263 = .ok (.iconst 1, 1) := by decide +kernel
theorem dL_told_264 : decode cL_told 264 = .ok (.invokevirtual 86, 3) := by decide +kernel
theorem dL_told_267 : decode cL_told 267 = .ok (.iload 15, 2) := by decide +kernel
theorem dL_told_269 : decode cL_told 269 = .ok (.aload_n 2, 1) := by decide +kernel
theorem dL_told_270 : decode cL_told 270 = .ok (.aload_n 3, 1) := by decide +kernel
theorem dL_told_271 : decode cL_told 271 = .ok (.invokestatic 76, 3) := by decide +kernel
theorem dL_told_274 : decode cL_told 274 = .ok (.if_icmp .ne 68, 3) := by decide +kernel
theorem dL_told_277 : decode cL_told 277 = .ok (.aload_n 0, 1) := by decide +kernel
theorem dL_told_278 : decode cL_told 278 = .ok (.iload 15, 2) := by decide +kernel
theorem dL_told_280 : decode cL_told 280 = .ok (.iconst 2, 1) := by decide +kernel
theorem dL_told_281 : decode cL_told 281 = .ok (.invokevirtual 86, 3) := by decide +kernel
theorem dL_told_284 : decode cL_told 284 = .ok (.iload 15, 2) := by decide +kernel
theorem dL_told_286 : decode cL_told 286 = .ok (.aload_n 2, 1) := by decide +kernel
theorem dL_told_287 : decode cL_told 287 = .ok (.aload_n 3, 1) := by decide +kernel
theorem dL_told_288 : decode cL_told 288 = .ok (.invokestatic 25, 3) := by decide +kernel
theorem dL_told_291 : decode cL_told 291 = .ok (.iload 15, 2) := by decide +kernel
theorem dL_told_293 : decode cL_told 293 = .ok (.aload_n 2, 1) := by decide +kernel
theorem dL_told_294 : decode cL_told 294 = .ok (.aload_n 3, 1) := by decide +kernel
theorem dL_told_295 : decode cL_told 295 = .ok (.invokestatic 76, 3) := by decide +kernel
theorem dL_told_298 : decode cL_told 298 = .ok (.aload_n 2, 1) := by decide +kernel
theorem dL_told_299 : decode cL_told 299 = .ok (.aload_n 3, 1) := by decide +kernel
theorem dL_told_300 : decode cL_told 300 = .ok (.invokestatic 28, 3) := by decide +kernel
theorem dL_told_303 : decode cL_told 303 = .ok (.if_icmp .ne 39, 3) := by decide +kernel
theorem dL_told_306 : decode cL_told 306 = .ok (.aload_n 0, 1) := by decide +kernel
theorem dL_told_307 : decode cL_told 307 = .ok (.iload 15, 2) := by decide +kernel
theorem dL_told_309 : decode cL_told 309 = .ok (.iconst 3, 1) := by decide +kernel
theorem dL_told_310 : decode cL_told 310 = .ok (.invokevirtual 86, 3) := by decide +kernel
theorem dL_told_313 : decode cL_told 313 = .ok (.iload 16, 2) := by decide +kernel
theorem dL_told_315 : decode cL_told 315 = .ok (.if_icmp .ne 27, 3) := by decide +kernel
theorem dL_told_318 : decode cL_told 318 = .ok (.aload_n 0, 1) := by decide +kernel
theorem dL_told_319 : decode cL_told 319 = .ok (.iload 15, 2) := by decide +kernel
theorem dL_told_321 : decode cL_told 321 = .ok (.iconst 4, 1) := by decide +kernel
theorem dL_told_322 : decode cL_told 322 = .ok (.invokevirtual 86, 3) := by decide +kernel
theorem dL_told_325 : decode cL_told 325 = .ok (.iload 12, 2) := by decide +kernel
theorem dL_told_327 : decode cL_told 327 = .ok (.if_icmp .ne 15, 3) := by decide +kernel
theorem dL_told_330 : decode cL_told 330 = .ok (.aload_n 0, 1) := by decide +kernel
theorem dL_told_331 : decode cL_told 331 = .ok (.iload 15, 2) := by decide +kernel
theorem dL_told_333 : decode cL_told 333 = .ok (.iconst 5, 1) := by decide +kernel
theorem dL_told_334 : decode cL_told 334 = .ok (.invokevirtual 86, 3) := by decide +kernel
theorem dL_told_337 : decode cL_told 337 = .ok (.iload 17, 2) := by decide +kernel
theorem dL_told_339 : decode cL_told 339 = .ok (.if_icmp .eq 5, 3) := by decide +kernel
theorem dL_told_342 : decode cL_told 342 = .ok (.iconst 0, 1) := by decide +kernel
theorem dL_told_343 : decode cL_told 343 = .ok (.ireturn, 1) := by decide +kernel
theorem dL_told_344 : decode cL_told 344 = .ok (.iinc 15 1, 3) := by decide +kernel
theorem dL_told_347 : decode cL_told 347 = .ok (.goto (-234), 3) := by decide +kernel
theorem dL_told_350 : decode cL_told 350 = .ok (.iconst 0, 1) := by decide +kernel
theorem dL_told_351 : decode cL_told 351 = .ok (.istore 15, 2) := by decide +kernel
theorem dL_told_353 : decode cL_told 353 = .ok (.iload 15, 2) := by decide +kernel
theorem dL_told_355 : decode cL_told 355 = .ok (.iload 7, 2) := by decide +kernel
theorem dL_told_357 : decode cL_told 357 = .ok (.if_icmp .ge 25, 3) := by decide +kernel
theorem dL_told_360 : decode cL_told 360 = .ok (.aload_n 0, 1) := by decide +kernel
theorem dL_told_361 : decode cL_told 361 = .ok (.iload 15, 2) := by decide +kernel
