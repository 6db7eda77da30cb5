theorem dL_told_363 : decode cL_told 363 = .ok (.invokevirtual 89, 3) := by decide +kernel
theorem dL_told_366 : decode cL_told 366 = .ok (.aload 6, 2) := by decide +kernel
theorem dL_told_368 : decode cL_told 368 = .ok (.iload 15, 2) := by decide +kernel
theorem dL_told_370 : decode cL_told 370 = .ok (.iaload, 1) := by decide +kernel
theorem dL_told_371 : decode cL_told 371 = .ok (.if_icmp .eq 5, 3) := by decide +kernel
theorem dL_told_374 : decode cL_told 374 = .ok (.iconst 0, 1) := by decide +kernel
theorem dL_told_375 : decode cL_told 375 = .ok (.ireturn, 1) := by decide +kernel
theorem dL_told_376 : decode cL_told 376 = .ok (.iinc 15 1, 3) := by decide +kernel
theorem dL_told_379 : decode cL_told 379 = .ok (.goto (-26), 3) := by decide +kernel
theorem dL_told_382 : decode cL_told 382 = .ok (.iconst 0, 1) := by decide +kernel
theorem dL_told_383 : decode cL_told 383 = .ok (.istore 15, 2) := by decide +kernel
theorem dL_told_385 : decode cL_told 385 = .ok (.iload 15, 2) := by decide +kernel
theorem dL_told_387 : decode cL_told 387 = .ok (.iconst 4, 1) := by decide +kernel
theorem dL_told_388 : decode cL_told 388 = .ok (.if_icmp .ge 209, 3) := by decide +kernel
theorem dL_told_391 : decode cL_told 391 = .ok (.iload 15, 2) := by decide +kernel
theorem dL_told_393 : decode cL_told 393 = .ok (.iload 7, 2) := by decide +kernel
theorem dL_told_395 : decode cL_told 395 = .ok (.aload 6, 2) := by decide +kernel
theorem dL_told_397 : decode cL_told 397 = .ok (.aload_n 2, 1) := by decide +kernel
theorem dL_told_398 : decode cL_told 398 = .ok (.aload_n 3, 1) := by decide +kernel
theorem dL_told_399 : decode cL_told 399 = .ok (.aload 5, 2) := by decide +kernel
theorem dL_told_401 : decode cL_told 401 = .ok (.invokestatic 91, 3) := by decide +kernel
theorem dL_told_404 : decode cL_told 404 = .ok (.istore 16, 2) := by decide +kernel
theorem dL_told_406 : decode cL_told 406 = .ok (.iload 14, 2) := by decide +kernel
theorem dL_told_408 : decode cL_told 408 = .ok (.iload 16, 2) := by decide +kernel
theorem dL_told_410 : decode cL_told 410 = .ok (.ifCond .ge 10, 3) := by decide +kernel
theorem dL_told_413 : decode cL_told 413 = .ok (.iconst 1, 1) := by decide +kernel
theorem dL_told_414 : decode cL_told 414 = .ok (.iload 15, 2) := by decide +kernel
theorem dL_told_416 : decode cL_told 416 = .ok (.ishl, 1) := by decide +kernel
theorem dL_told_417 : decode cL_told 417 = .ok (.goto 4, 3) := by decide +kernel
theorem dL_told_420 : decode cL_told 420 = .ok (.iconst 0, 1) := by decide +kernel
theorem dL_told_421 : decode cL_told 421 = .ok (.ior, 1) := by decide +kernel
theorem dL_told_422 : decode cL_told 422 = .ok (.istore 14, 2) := by decide +kernel
theorem dL_told_424 : decode cL_told 424 = .ok (.aload_n 0, 1) := by decide +kernel
theorem dL_told_425 : decode cL_told 425 = .ok (.iload 15, 2) := by decide +kernel
theorem dL_told_427 : decode cL_told 427 = .ok (.invokevirtual 94, 3) := by decide +kernel
theorem dL_told_430 : decode cL_told 430 = .ok (.iload 16, 2) := by decide +kernel
theorem dL_told_432 : decode cL_told 432 = .ok (.if_icmp .eq 5, 3) := by decide +kernel
theorem dL_told_435 : decode cL_told 435 = .ok (.iconst 0, 1) := by decide +kernel
theorem dL_told_436 : decode cL_told 436 = .ok (.ireturn, 1) := by decide +kernel
theorem dL_told_437 : decode cL_told 437 = .ok (.iconst 0, 1) := by decide +kernel
theorem dL_told_438 : decode cL_told 438 = .ok (.istore 17, 2) := by decide +kernel
theorem dL_told_440 : decode cL_told 440 = .ok (.iload 17, 2) := by decide +kernel
theorem dL_told_442 : decode cL_told 442 = .ok (.bipush 8, 2) := by decide +kernel
theorem dL_told_444 : decode cL_told 444 = .ok (.if_icmp .ge 147, 3) := by decide +kernel
theorem dL_told_447 : decode cL_told 447 = .ok (.iload 15, 2) := by decide +kernel
theorem dL_told_449 : decode cL_told 449 = .ok (.iconst 2, 1) := by decide +kernel
theorem dL_told_450 : decode cL_told 450 = .ok (.if_icmp .ge 141, 3) := by decide +kernel
theorem dL_told_453 : decode cL_told 453 = .ok (.aload 5, 2) := by decide +kernel
theorem dL_told_455 : decode cL_told 455 = .ok (.bipush 8, 2) := by decide +kernel
theorem dL_told_457 : decode cL_told 457 = .ok (.iload 15, 2) := by decide +kernel
theorem dL_told_459 : decode cL_told 459 = .ok (.imul, 1) := by decide +kernel
theorem dL_told_460 : decode cL_told 460 = .ok (.iload 17, 2) := by decide +kernel
theorem dL_told_462 : decode cL_told 462 = .ok (.iadd, 1) := by decide +kernel
theorem dL_told_463 : decode cL_told 463 = .ok (.iaload, 1) := by decide +kernel
theorem dL_told_464 : decode cL_told 464 = .ok (.istore 18, 2) := by decide +kernel
theorem dL_told_466 : decode cL_told 466 = .ok (.iconst 0, 1) := by decide +kernel
theorem dL_told_467 : decode cL_told 467 = .ok (.istore 19, 2) := by decide +kernel
theorem dL_told_469 : decode cL_told 469 = .ok (.iconst 0, 1) := by decide +kernel
theorem dL_told_470 : decode cL_told 470 = .ok (.istore 20, 2) := by decide +kernel
theorem dL_told_472 : decode cL_told 472 = .ok (.iconst 0, 1) := by decide +kernel
theorem dL_told_473 : decode cL_told 473 = .ok (.istore 21, 2) := by decide +kernel
theorem dL_told_475 : decode cL_told 475 = .ok (.iload 21, 2) := by decide +kernel
theorem dL_told_477 : decode cL_told 477 = .ok (.iload 18, 2) := by decide +kernel
theorem dL_told_479 : decode cL_told 479 = .ok (.invokestatic 32, 3) := by decide +kernel
theorem dL_told_482 : decode cL_told 482 = .ok (.if_icmp .ge 56, 3) := by decide +kernel
theorem dL_told_485 : decode cL_told 485 = .ok (.iload 19, 2) := by decide +kernel
theorem dL_told_487 : decode cL_told 487 = .ok (.iload 18, 2) := by decide +kernel
theorem dL_told_489 : decode cL_told 489 = .ok (.bipush 24, 2) := by decide +kernel
theorem dL_told_491 : decode cL_told 491 = .ok (.iload 21, 2) := by decide +kernel
theorem dL_told_493 : decode cL_told 493 = .ok (.iadd, 1) := by decide +kernel
theorem dL_told_494 : decode cL_told 494 = .ok (.ishr, 1) := by decide +kernel
theorem dL_told_495 : decode cL_told 495 = .ok (.iconst 1, 1) := by decide +kernel
theorem dL_told_496 : decode cL_told 496 = .ok (.iand, 1) := by decide +kernel
theorem dL_told_497 : decode cL_told 497 = .ok (.iadd, 1) := by decide +kernel
theorem dL_told_498 : decode cL_told 498 = .ok (.istore 19, 2) := by decide +kernel
theorem dL_told_500 : decode cL_told 500 = .ok (.iload 18, 2) := by decide +kernel
theorem dL_told_502 : decode cL_told 502 = .ok (.iconst 4, 1) := by decide +kernel
theorem dL_told_503 : decode cL_told 503 = .ok (.iload 21, 2) := by decide +kernel
theorem dL_told_505 : decode cL_told 505 = .ok (.imul, 1) := by decide +kernel
theorem dL_told_506 : decode cL_told 506 = .ok (.ishr, 1) := by decide +kernel
theorem dL_told_507 : decode cL_told 507 = .ok (.bipush 15, 2) := by decide +kernel
theorem dL_told_509 : decode cL_told 509 = .ok (.iand, 1) := by decide +kernel
theorem dL_told_510 : decode cL_told 510 = .ok (.iload 20, 2) := by decide +kernel
theorem dL_told_512 : decode cL_told 512 = .ok (.if_icmp .le 16, 3) := by decide +kernel
theorem dL_told_515 : decode cL_told 515 = .ok (.iload 18, 2) := by decide +kernel
theorem dL_told_517 : decode cL_told 517 = .ok (.iconst 4, 1) := by decide +kernel
theorem dL_told_518 : decode cL_told 518 = .ok (.iload 21, 2) := by decide +kernel
theorem dL_told_520 : decode cL_told 520 = .ok (.imul, 1) := by decide +kernel
theorem dL_told_521 : decode cL_told 521 = .ok (.ishr, 1) := by decide +kernel
theorem dL_told_522 : decode cL_told 522 = .ok (.bipush 15, 2) := by decide +kernel
theorem dL_told_524 : decode cL_told 524 = .ok (.iand, 1) := by decide +kernel
theorem dL_told_525 : decode cL_told 525 = .ok (.goto 5, 3) := by decide +kernel
theorem dL_told_528 : decode cL_told 528 = .ok (.iload 20, 2) := by decide +kernel
theorem dL_told_530 : decode cL_told 530 = .ok (.istore 20, 2) := by decide +kernel
theorem dL_told_532 : decode cL_told 532 = .ok (.iinc 21 1, 3) := by decide +kernel
theorem dL_told_535 : decode cL_told 535 = .ok (.goto (-60), 3) := by decide +kernel
theorem dL_told_538 : decode cL_told 538 = .ok (.aload_n 0, 1) := by decide +kernel
theorem dL_told_539 : decode cL_told 539 = .ok (.iload 15, 2) := by decide +kernel
theorem dL_told_541 : decode cL_told 541 = .ok (.iload 17, 2) := by decide +kernel
theorem dL_told_543 : decode cL_told 543 = .ok (.iconst 0, 1) := by decide +kernel
theorem dL_told_544 : decode cL_told 544 = .ok (.invokevirtual 96, 3) := by decide +kernel
theorem dL_told_547 : decode cL_told 547 = .ok (.iload 18, 2) := by decide +kernel
theorem dL_told_549 : decode cL_told 549 = .ok (.invokestatic 32, 3) := by decide +kernel
theorem dL_told_552 : decode cL_told 552 = .ok (.if_icmp .ne 31, 3) := by decide +kernel
theorem dL_told_555 : decode cL_told 555 = .ok (.aload_n 0, 1) := by decide +kernel
theorem dL_told_556 : decode cL_told 556 = .ok (.iload 15, 2) := by decide +kernel
theorem dL_told_558 : decode cL_told 558 = .ok (.iload 17, 2) := by decide +kernel
theorem dL_told_560 : decode cL_told 560 = .ok (.iconst 1, 1) := by decide +kernel
theorem dL_told_561 : decode cL_told 561 = .ok (.invokevirtual 96, 3) := by decide +kernel
theorem dL_told_564 : decode cL_told 564 = .ok (.iload 19, 2) := by decide +kernel
theorem dL_told_566 : decode cL_told 566 = .ok (.if_icmp .ne 17, 3) := by decide +kernel
theorem dL_told_569 : decode cL_told 569 = .ok (.aload_n 0, 1) := by decide +kernel
theorem dL_told_570 : decode cL_told 570 = .ok (.iload 15, 2) := by decide +kernel
theorem dL_told_572 : decode cL_told 572 = .ok (.iload 17, 2) := by decide +kernel
theorem dL_told_574 : decode cL_told 574 = .ok (.iconst 2, 1) := by decide +kernel
theorem dL_told_575 : decode cL_told 575 = .ok (.invokevirtual 96, 3) := by decide +kernel
theorem dL_told_578 : decode cL_told 578 = .ok (.iload 20, 2) := by decide +kernel
theorem dL_told_580 : decode cL_told 580 = .ok (.if_icmp .eq 5, 3) := by decide +kernel
theorem dL_told_583 : decode cL_told 583 = .ok (.iconst 0, 1) := by decide +kernel
theorem dL_told_584 : decode cL_told 584 = .ok (.ireturn, 1) := by decide +kernel
theorem dL_told_585 : decode cL_told 585 = .ok (.iinc 17 1, 3) := by decide +kernel
theorem dL_told_588 : decode cL_told 588 = .ok (.goto (-148), 3) := by decide +kernel
theorem dL_told_591 : decode cL_told 591 = .ok (.iinc 15 1, 3) := by decide +kernel
theorem dL_told_594 : decode cL_told 594 = .ok (.goto (-209), 3) := by decide +kernel
theorem dL_told_597 : decode cL_told 597 = .ok (.iconst 0, 1) := by decide +kernel
theorem dL_told_598 : decode cL_told 598 = .ok (.istore 15, 2) := by decide +kernel
theorem dL_told_600 : decode cL_told 600 = .ok (.iload 15, 2) := by decide +kernel
theorem dL_told_602 : decode cL_told 602 = .ok (.iload 7, 2) := by decide +kernel
theorem dL_told_604 : decode cL_told 604 = .ok (.if_icmp .ge 250, 3) := by decide +kernel
theorem dL_told_607 : decode cL_told 607 = .ok (.iload 7, 2) := by decide +kernel
theorem dL_told_609 : decode cL_told 609 = .ok (.ifCond .le 245, 3) := by decide +kernel
theorem dL_told_612 : decode cL_told 612 = .ok (.iload_n 1, 1) := by decide +kernel
theorem dL_told_613 : decode cL_told 613 = .ok (.iload 15, 2) := by decide +kernel
theorem dL_told_615 : decode cL_told 615 = .ok (.ishr, 1) := by decide +kernel
theorem dL_told_616 : decode cL_told 616 = .ok (.iconst 3, 1) := by decide +kernel
theorem dL_told_617 : decode cL_told 617 = .ok (.invokestatic 99, 3) := by decide +kernel
theorem dL_told_620 : decode cL_told 620 = .ok (.istore 16, 2) := by decide +kernel
theorem dL_told_622 : decode cL_told 622 = .ok (.aload 6, 2) := by decide +kernel
theorem dL_told_624 : decode cL_told 624 = .ok (.iload 15, 2) := by decide +kernel
theorem dL_told_626 : decode cL_told 626 = .ok (.iaload, 1) := by decide +kernel
theorem dL_told_627 : decode cL_told 627 = .ok (.aload_n 2, 1) := by decide +kernel
theorem dL_told_628 : decode cL_told 628 = .ok (.aload_n 3, 1) := by decide +kernel
theorem dL_told_629 : decode cL_told 629 = .ok (.invokestatic 25, 3) := by decide +kernel
theorem dL_told_632 : decode cL_told 632 = .ok (.istore 17, 2) := by decide +kernel
theorem dL_told_634 : decode cL_told 634 = .ok (.iload 17, 2) := by decide +kernel
theorem dL_told_636 : decode cL_told 636 = .ok (.iload_n 1, 1) := by decide +kernel
theorem dL_told_637 : decode cL_told 637 = .ok (.iload 15, 2) := by decide +kernel
theorem dL_told_639 : decode cL_told 639 = .ok (.iconst 2, 1) := by decide +kernel
theorem dL_told_640 : decode cL_told 640 = .ok (.iadd, 1) := by decide +kernel
theorem dL_told_641 : decode cL_told 641 = .ok (.ishr, 1) := by decide +kernel
theorem dL_told_642 : decode cL_told 642 = .ok (.aload 6, 2) := by decide +kernel
theorem dL_told_644 : decode cL_told 644 = .ok (.iload 15, 2) := by decide +kernel
theorem dL_told_646 : decode cL_told 646 = .ok (.iaload, 1) := by decide +kernel
theorem dL_told_647 : decode cL_told 647 = .ok (.aload_n 2, 1) := by decide +kernel
theorem dL_told_648 : decode cL_told 648 = .ok (.aload_n 3, 1) := by decide +kernel
theorem dL_told_649 : decode cL_told 649 = .ok (.invokestatic 76, 3) := by decide +kernel
theorem dL_told_652 : decode cL_told 652 = .ok (.iload 17, 2) := by decide +kernel
theorem dL_told_654 : decode cL_told 654 = .ok (.isub, 1) := by decide +kernel
theorem dL_told_655 : decode cL_told 655 = .ok (.iconst 1, 1) := by decide +kernel
theorem dL_told_656 : decode cL_told 656 = .ok (.iadd, 1) := by decide +kernel
theorem dL_told_657 : decode cL_told 657 = .ok (.invokestatic 99, 3) := by decide +kernel
theorem dL_told_660 : decode cL_told 660 = .ok (.iadd, 1) := by decide +kernel
theorem dL_told_661 : decode cL_told 661 = .ok (.istore 18, 2) := by decide +kernel
theorem dL_told_663 : decode cL_told 663 = .ok (.iload 16, 2) := by decide +kernel
theorem dL_told_665 : decode cL_told 665 = .ok (.iload 15, 2) := by decide +kernel
theorem dL_told_667 : decode cL_told 667 = .ok (.iload 18, 2) := by decide +kernel
theorem dL_told_669 : decode cL_told 669 = .ok (.aload_n 2, 1) := by decide +kernel
theorem dL_told_670 : decode cL_told 670 = .ok (.aload_n 3, 1) := by decide +kernel
theorem dL_told_671 : decode cL_told 671 = .ok (.aload 5, 2) := by decide +kernel
theorem dL_told_673 : decode cL_told 673 = .ok (.invokestatic 36, 3) := by decide +kernel
theorem dL_told_676 : decode cL_told 676 = .ok (.istore 19, 2) := by decide +kernel
theorem dL_told_678 : decode cL_told 678 = .ok (.iload 17, 2) := by decide +kernel
theorem dL_told_680 : decode cL_told 680 = .ok (.iload 18, 2) := by decide +kernel
theorem dL_told_682 : decode cL_told 682 = .ok (.aload_n 2, 1) := by decide +kernel
theorem dL_told_683 : decode cL_told 683 = .ok (.aload_n 3, 1) := by decide +kernel
theorem dL_told_684 : decode cL_told 684 = .ok (.invokestatic 28, 3) := by decide +kernel
theorem dL_told_687 : decode cL_told 687 = .ok (.iconst 1, 1) := by decide +kernel
theorem dL_told_688 : decode cL_told 688 = .ok (.isub, 1) := by decide +kernel
theorem dL_told_689 : decode cL_told 689 = .ok (.istore 20, 2) := by decide +kernel
theorem dL_told_691 : decode cL_told 691 = .ok (.iload 16, 2) := by decide +kernel
theorem dL_told_693 : decode cL_told 693 = .ok (.iconst 2, 1) := by decide +kernel
theorem dL_told_694 : decode cL_told 694 = .ok (.if_icmp .ge 24, 3) := by decide +kernel
theorem dL_told_697 : decode cL_told 697 = .ok (.iload 15, 2) := by decide +kernel
theorem dL_told_699 : decode cL_told 699 = .ok (.bipush 8, 2) := by decide +kernel
theorem dL_told_701 : decode cL_told 701 = .ok (.if_icmp .ge 17, 3) := by decide +kernel
theorem dL_told_704 : decode cL_told 704 = .ok (.aload 5, 2) := by decide +kernel
theorem dL_told_706 : decode cL_told 706 = .ok (.bipush 8, 2) := by decide +kernel
theorem dL_told_708 : decode cL_told 708 = .ok (.iload 16, 2) := by decide +kernel
theorem dL_told_710 : decode cL_told 710 = .ok (.imul, 1) := by decide +kernel
theorem dL_told_711 : decode cL_told 711 = .ok (.iload 15, 2) := by decide +kernel
theorem dL_told_713 : decode cL_told 713 = .ok (.iadd, 1) := by decide +kernel
theorem dL_told_714 : decode cL_told 714 = .ok (.iaload, 1) := by decide +kernel
theorem dL_told_715 : decode cL_told 715 = .ok (.goto 4, 3) := by decide +kernel
theorem dL_told_718 : decode cL_told 718 = .ok (.iconst 0, 1) := by decide +kernel
theorem dL_told_719 : decode cL_told 719 = .ok (.istore 21, 2) := by decide +kernel
theorem dL_told_721 : decode cL_told 721 = .ok (.aload_n 0, 1) := by decide +kernel
theorem dL_told_722 : decode cL_told 722 = .ok (.iload 16, 2) := by decide +kernel
theorem dL_told_724 : decode cL_told 724 = .ok (.iload 15, 2) := by decide +kernel
theorem dL_told_726 : decode cL_told 726 = .ok (.iload 18, 2) := by decide +kernel
theorem dL_told_728 : decode cL_told 728 = .ok (.iload 17, 2) := by decide +kernel
theorem dL_told_730 : decode cL_told 730 = .ok (.isub, 1) := by decide +kernel
theorem dL_told_731 : decode cL_told 731 = .ok (.iconst 0, 1) := by decide +kernel
theorem dL_told_732 : decode cL_told 732 = .ok (.invokevirtual 102, 3) := by decide +kernel
theorem dL_told_735 : decode cL_told 735 = .ok (.iload 19, 2) := by decide +kernel
theorem dL_told_737 : decode cL_told 737 = .ok (.ifCond .ne 7, 3) := by decide +kernel
theorem dL_told_740 : decode cL_told 740 = .ok (.iconst (-1), 1) := by decide +kernel
theorem dL_told_741 : decode cL_told 741 = .ok (.goto 5, 3) := by decide +kernel
theorem dL_told_744 : decode cL_told 744 = .ok (.iload 20, 2) := by decide +kernel
theorem dL_told_746 : decode cL_told 746 = .ok (.if_icmp .ne 100, 3) := by decide +kernel
theorem dL_told_749 : decode cL_told 749 = .ok (.aload_n 0, 1) := by decide +kernel
theorem dL_told_750 : decode cL_told 750 = .ok (.iload 16, 2) := by decide +kernel
theorem dL_told_752 : decode cL_told 752 = .ok (.iload 15, 2) := by decide +kernel
theorem dL_told_754 : decode cL_told 754 = .ok (.iload 18, 2) := by decide +kernel
theorem dL_told_756 : decode cL_told 756 = .ok (.iload 17, 2) := by decide +kernel
theorem dL_told_758 : decode cL_told 758 = .ok (.isub, 1) := by decide +kernel
theorem dL_told_759 : decode cL_told 759 = .ok (.iconst 1, 1) := by decide +kernel
theorem dL_told_760 : decode cL_told 760 = .ok (.invokevirtual 102, 3) := by decide +kernel
theorem dL_told_763 : decode cL_told 763 = .ok (.iload 19, 2) := by decide +kernel
theorem dL_told_765 : decode cL_told 765 = .ok (.ifCond .ne 7, 3) := by decide +kernel
theorem dL_told_768 : decode cL_told 768 = .ok (.iconst (-1), 1) := by decide +kernel
theorem dL_told_769 : decode cL_told 769 = .ok (.goto 5, 3) := by decide +kernel
theorem dL_told_772 : decode cL_told 772 = .ok (.iload 19, 2) := by decide +kernel
theorem dL_told_774 : decode cL_told 774 = .ok (.if_icmp .ne 72, 3) := by decide +kernel
theorem dL_told_777 : decode cL_told 777 = .ok (.aload_n 0, 1) := by decide +kernel
theorem dL_told_778 : decode cL_told 778 = .ok (.iload 16, 2) := by decide +kernel
theorem dL_told_780 : decode cL_told 780 = .ok (.iload 15, 2) := by decide +kernel
theorem dL_told_782 : decode cL_told 782 = .ok (.iload 18, 2) := by decide +kernel
theorem dL_told_784 : decode cL_told 784 = .ok (.iload 17, 2) := by decide +kernel
theorem dL_told_786 : decode cL_told 786 = .ok (.isub, 1) := by decide +kernel
theorem dL_told_787 : decode cL_told 787 = .ok (.iconst 2, 1) := by decide +kernel
theorem dL_told_788 : decode cL_told 788 = .ok (.invokevirtual 102, 3) := by decide +kernel
theorem dL_told_791 : decode cL_told 791 = .ok (.iload 19, 2) := by decide +kernel
theorem dL_told_793 : decode cL_told 793 = .ok (.ifCond .ne 7, 3) := by decide +kernel
theorem dL_told_796 : decode cL_told 796 = .ok (.iconst (-1), 1) := by decide +kernel
theorem dL_told_797 : decode cL_told 797 = .ok (.goto 8, 3) := by decide +kernel
theorem dL_told_800 : decode cL_told 800 = .ok (.bipush 97, 2) := by decide +kernel
theorem dL_told_802 : decode cL_told 802 = .ok (.iload 19, 2) := by decide +kernel
theorem dL_told_804 : decode cL_told 804 = .ok (.iadd, 1) := by decide +kernel
theorem dL_told_805 : decode cL_told 805 = .ok (.if_icmp .ne 41, 3) := by decide +kernel
theorem dL_told_808 : decode cL_told 808 = .ok (.aload_n 0, 1) := by decide +kernel
theorem dL_told_809 : decode cL_told 809 = .ok (.iload 16, 2) := by decide +kernel
theorem dL_told_811 : decode cL_told 811 = .ok (.iload 15, 2) := by decide +kernel
theorem dL_told_813 : decode cL_told 813 = .ok (.iload 18, 2) := by decide +kernel
theorem dL_told_815 : decode cL_told 815 = .ok (.iload 17, 2) := by decide +kernel
theorem dL_told_817 : decode cL_told 817 = .ok (.isub, 1) := by decide +kernel
theorem dL_told_818 : decode cL_told 818 = .ok (.iconst 3, 1) := by decide +kernel
theorem dL_told_819 : decode cL_told 819 = .ok (.invokevirtual 102, 3) := by decide +kernel
theorem dL_told_822 : decode cL_told 822 = .ok (.iload 19, 2) := by decide +kernel
theorem dL_told_824 : decode cL_told 824 = .ok (.ifCond .ne 7, 3) := by decide +kernel
theorem dL_told_827 : decode cL_told 827 = .ok (.iconst (-1), 1) := by decide +kernel
theorem dL_told_828 : decode cL_told 828 = .ok (.goto 15, 3) := by decide +kernel
theorem dL_told_831 : decode cL_told 831 = .ok (.iconst 1, 1) := by decide +kernel
theorem dL_told_832 : decode cL_told 832 = .ok (.iload 21, 2) := by decide +kernel
theorem dL_told_834 : decode cL_told 834 = .ok (.bipush 24, 2) := by decide +kernel
theorem dL_told_836 : decode cL_told 836 = .ok (.iload 20, 2) := by decide +kernel
theorem dL_told_838 : decode cL_told 838 = .ok (.iadd, 1) := by decide +kernel
theorem dL_told_839 : decode cL_told 839 = .ok (.ishr, 1) := by decide +kernel
theorem dL_told_840 : decode cL_told 840 = .ok (.iconst 1, 1) := by decide +kernel
theorem dL_told_841 : decode cL_told 841 = .ok (.iand, 1) := by decide +kernel
theorem dL_told_842 : decode cL_told 842 = .ok (.isub, 1) := by decide +kernel
theorem dL_told_843 : decode cL_told 843 = .ok (.if_icmp .eq 5, 3) := by decide +kernel
theorem dL_told_846 : decode cL_told 846 = .ok (.iconst 0, 1) := by decide +kernel
theorem dL_told_847 : decode cL_told 847 = .ok (.ireturn, 1) := by decide +kernel
theorem dL_told_848 : decode cL_told 848 = .ok (.iinc 15 1, 3) := by decide +kernel
theorem dL_told_851 : decode cL_told 851 = .ok (.goto (-251), 3) := by decide +kernel
theorem dL_told_854 : decode cL_told 854 = .ok (.aload_n 0, 1) := by decide +kernel
theorem dL_told_855 : decode cL_told 855 = .ok (.iconst 0, 1) := by decide +kernel
theorem dL_told_856 : decode cL_told 856 = .ok (.invokevirtual 105, 3) := by decide +kernel
theorem dL_told_859 : decode cL_told 859 = .ok (.aload_n 2, 1) := by decide +kernel
theorem dL_told_860 : decode cL_told 860 = .ok (.iconst 1, 1) := by decide +kernel
theorem dL_told_861 : decode cL_told 861 = .ok (.iaload, 1) := by decide +kernel
theorem dL_told_862 : decode cL_told 862 = .ok (.if_icmp .ne 102, 3) := by decide +kernel
theorem dL_told_865 : decode cL_told 865 = .ok (.aload_n 0, 1) := by decide +kernel
theorem dL_told_866 : decode cL_told 866 = .ok (.iconst 1, 1) := by decide +kernel
theorem dL_told_867 : decode cL_told 867 = .ok (.invokevirtual 105, 3) := by decide +kernel
theorem dL_told_870 : decode cL_told 870 = .ok (.aload_n 2, 1) := by decide +kernel
theorem dL_told_871 : decode cL_told 871 = .ok (.iconst 0, 1) := by decide +kernel
theorem dL_told_872 : decode cL_told 872 = .ok (.iaload, 1) := by decide +kernel
theorem dL_told_873 : decode cL_told 873 = .ok (.if_icmp .ne 91, 3) := by decide +kernel
theorem dL_told_876 : decode cL_told 876 = .ok (.aload_n 0, 1) := by decide +kernel
theorem dL_told_877 : decode cL_told 877 = .ok (.iconst 2, 1) := by decide +kernel
theorem dL_told_878 : decode cL_told 878 = .ok (.invokevirtual 105, 3) := by decide +kernel
theorem dL_told_881 : decode cL_told 881 = .ok (.iload 8, 2) := by decide +kernel
theorem dL_told_883 : decode cL_told 883 = .ok (.if_icmp .ne 81, 3) := by decide +kernel
theorem dL_told_886 : decode cL_told 886 = .ok (.aload_n 0, 1) := by decide +kernel
theorem dL_told_887 : decode cL_told 887 = .ok (.iconst 3, 1) := by decide +kernel
theorem dL_told_888 : decode cL_told 888 = .ok (.invokevirtual 105, 3) := by decide +kernel
theorem dL_told_891 : decode cL_told 891 = .ok (.iload 7, 2) := by decide +kernel
theorem dL_told_893 : decode cL_told 893 = .ok (.if_icmp .ne 71, 3) := by decide +kernel
theorem dL_told_896 : decode cL_told 896 = .ok (.aload_n 0, 1) := by decide +kernel
theorem dL_told_897 : decode cL_told 897 = .ok (.iconst 4, 1) := by decide +kernel
theorem dL_told_898 : decode cL_told 898 = .ok (.invokevirtual 105, 3) := by decide +kernel
theorem dL_told_901 : decode cL_told 901 = .ok (.aload_n 2, 1) := by decide +kernel
theorem dL_told_902 : decode cL_told 902 = .ok (.iconst 5, 1) := by decide +kernel
theorem dL_told_903 : decode cL_told 903 = .ok (.iaload, 1) := by decide +kernel
theorem dL_told_904 : decode cL_told 904 = .ok (.if_icmp .ne 60, 3) := by decide +kernel
theorem dL_told_907 : decode cL_told 907 = .ok (.aload_n 0, 1) := by decide +kernel
theorem dL_told_908 : decode cL_told 908 = .ok (.iconst 5, 1) := by decide +kernel
theorem dL_told_909 : decode cL_told 909 = .ok (.invokevirtual 105, 3) := by decide +kernel
theorem dL_told_912 : decode cL_told 912 = .ok (.aload_n 2, 1) := by decide +kernel
theorem dL_told_913 : decode cL_told 913 = .ok (.iconst 2, 1) := by decide +kernel
theorem dL_told_914 : decode cL_told 914 = .ok (.iaload, 1) := by decide +kernel
theorem dL_told_915 : decode cL_told 915 = .ok (.if_icmp .ne 49, 3) := by decide +kernel
theorem dL_told_918 : decode cL_told 918 = .ok (.aload_n 0, 1) := by decide +kernel
theorem dL_told_919 : decode cL_told 919 = .ok (.bipush 6, 2) := by decide +kernel
theorem dL_told_921 : decode cL_told 921 = .ok (.invokevirtual 105, 3) := by decide +kernel
theorem dL_told_924 : decode cL_told 924 = .ok (.aload_n 2, 1) := by decide +kernel
theorem dL_told_925 : decode cL_told 925 = .ok (.iconst 3, 1) := by decide +kernel
theorem dL_told_926 : decode cL_told 926 = .ok (.iaload, 1) := by decide +kernel
theorem dL_told_927 : decode cL_told 927 = .ok (.if_icmp .ne 37, 3) := by decide +kernel
theorem dL_told_930 : decode cL_told 930 = .ok (.aload_n 0, 1) := by decide +kernel
theorem dL_told_931 : decode cL_told 931 = .ok (.bipush 7, 2) := by decide +kernel
theorem dL_told_933 : decode cL_told 933 = .ok (.invokevirtual 105, 3) := by decide +kernel
theorem dL_told_936 : decode cL_told 936 = .ok (.iload 9, 2) := by decide +kernel
theorem dL_told_938 : decode cL_told 938 = .ok (.if_icmp .ne 26, 3) := by decide +kernel
theorem dL_told_941 : decode cL_told 941 = .ok (.aload_n 0, 1) := by decide +kernel
theorem dL_told_942 : decode cL_told 942 = .ok (.bipush 8, 2) := by decide +kernel
theorem dL_told_944 : decode cL_told 944 = .ok (.invokevirtual 105, 3) := by decide +kernel
theorem dL_told_947 : decode cL_told 947 = .ok (.iload 9, 2) := by decide +kernel
theorem dL_told_949 : decode cL_told 949 = .ok (.aload_n 2, 1) := by decide +kernel
theorem dL_told_950 : decode cL_told 950 = .ok (.iconst 2, 1) := by decide +kernel
theorem dL_told_951 : decode cL_told 951 = .ok (.iaload, 1) := by decide +kernel
theorem dL_told_952 : decode cL_told 952 = .ok (.irem, 1) := by decide +kernel
theorem dL_told_953 : decode cL_told 953 = .ok (.ifCond .ne 7, 3) := by decide +kernel
theorem dL_told_956 : decode cL_told 956 = .ok (.iconst 1, 1) := by decide +kernel
theorem dL_told_957 : decode cL_told 957 = .ok (.goto 4, 3) := by decide +kernel
theorem dL_told_960 : decode cL_told 960 = .ok (.iconst 0, 1) := by decide +kernel
theorem dL_told_961 : decode cL_told 961 = .ok (.if_icmp .eq 5, 3) := by decide +kernel
theorem dL_told_964 : decode cL_told 964 = .ok (.iconst 0, 1) := by decide +kernel
theorem dL_told_965 : decode cL_told 965 = .ok (.ireturn, 1) := by decide +kernel
theorem dL_told_966 : decode cL_told 966 = .ok (.aload_n 0, 1) := by decide +kernel
theorem dL_told_967 : decode cL_told 967 = .ok (.bipush 9, 2) := by decide +kernel
theorem dL_told_969 : decode cL_told 969 = .ok (.invokevirtual 105, 3) := by decide +kernel
theorem dL_told_972 : decode cL_told 972 = .ok (.aload_n 2, 1) := by decide +kernel
theorem dL_told_973 : decode cL_told 973 = .ok (.iconst 4, 1) := by decide +kernel
theorem dL_told_974 : decode cL_told 974 = .ok (.iaload, 1) := by decide +kernel
theorem dL_told_975 : decode cL_told 975 = .ok (.if_icmp .ne 86, 3) := by decide +kernel
theorem dL_told_978 : decode cL_told 978 = .ok (.aload_n 0, 1) := by decide +kernel
theorem dL_told_979 : decode cL_told 979 = .ok (.bipush 10, 2) := by decide +kernel
theorem dL_told_981 : decode cL_told 981 = .ok (.invokevirtual 105, 3) := by decide +kernel
theorem dL_told_984 : decode cL_told 984 = .ok (.iload 12, 2) := by decide +kernel
theorem dL_told_986 : decode cL_told 986 = .ok (.iconst 1, 1) := by decide +kernel
theorem dL_told_987 : decode cL_told 987 = .ok (.iadd, 1) := by decide +kernel
theorem dL_told_988 : decode cL_told 988 = .ok (.if_icmp .ne 73, 3) := by decide +kernel
theorem dL_told_991 : decode cL_told 991 = .ok (.aload_n 0, 1) := by decide +kernel
theorem dL_told_992 : decode cL_told 992 = .ok (.bipush 12, 2) := by decide +kernel
theorem dL_told_994 : decode cL_told 994 = .ok (.invokevirtual 105, 3) := by decide +kernel
theorem dL_told_997 : decode cL_told 997 = .ok (.iload 14, 2) := by decide +kernel
theorem dL_told_999 : decode cL_told 999 = .ok (.if_icmp .ne 62, 3) := by decide +kernel
theorem dL_told_1002 : decode cL_told 1002 = .ok (.aload_n 0, 1) := by decide +kernel
theorem dL_told_1003 : decode cL_told 1003 = .ok (.bipush 13, 2) := by decide +kernel
theorem dL_told_1005 : decode cL_told 1005 = .ok (.invokevirtual 105, 3) := by decide +kernel
theorem dL_told_1008 : decode cL_told 1008 = .ok (.iload 11, 2) := by decide +kernel
theorem dL_told_1010 : decode cL_told 1010 = .ok (.if_icmp .ne 51, 3) := by decide +kernel
theorem dL_told_1013 : decode cL_told 1013 = .ok (.aload_n 0, 1) := by decide +kernel
theorem dL_told_1014 : decode cL_told 1014 = .ok (.invokevirtual 108, 3) := by decide +kernel
theorem dL_told_1017 : decode cL_told 1017 = .ok (.iload 8, 2) := by decide +kernel
theorem dL_told_1019 : decode cL_told 1019 = .ok (.ifCond .ne 7, 3) := by decide +kernel
theorem dL_told_1022 : decode cL_told 1022 = .ok (.dconst 0, 1) := by decide +kernel
theorem dL_told_1023 : decode cL_told 1023 = .ok (.goto 14, 3) := by decide +kernel
theorem dL_told_1026 : decode cL_told 1026 = .ok (.dconst 1, 1) := by decide +kernel
theorem dL_told_1027 : decode cL_told 1027 = .ok (.iload 10, 2) := by decide +kernel
theorem dL_told_1029 : decode cL_told 1029 = .ok (.i2d, 1) := by decide +kernel
theorem dL_told_1030 : decode cL_told 1030 = .ok (.dmul, 1) := by decide +kernel
theorem dL_told_1031 : decode cL_told 1031 = .ok (.iload 12, 2) := by decide +kernel
theorem dL_told_1033 : decode cL_told 1033 = .ok (.iconst 1, 1) := by decide +kernel
theorem dL_told_1034 : decode cL_told 1034 = .ok (.iadd, 1) := by decide +kernel
theorem dL_told_1035 : decode cL_told 1035 = .ok (.i2d, 1) := by decide +kernel
theorem dL_told_1036 : decode cL_told 1036 = .ok (.ddiv, 1) := by decide +kernel
theorem dL_told_1037 : decode cL_told 1037 = .ok (.dcmp .l, 1) := by decide +kernel
theorem dL_told_1038 : decode cL_told 1038 = .ok (.ifCond .ne 23, 3) := by decide +kernel
theorem dL_told_1041 : decode cL_told 1041 = .ok (.aload_n 0, 1) := by decide +kernel
theorem dL_told_1042 : decode cL_told 1042 = .ok (.iload_n 1, 1) := by decide +kernel
theorem dL_told_1043 : decode cL_told 1043 = .ok (.iconst 3, 1) := by decide +kernel
theorem dL_told_1044 : decode cL_told 1044 = .ok (.ishr, 1) := by decide +kernel
theorem dL_told_1045 : decode cL_told 1045 = .ok (.iload 7, 2) := by decide +kernel
theorem dL_told_1047 : decode cL_told 1047 = .ok (.aload 6, 2) := by decide +kernel
theorem dL_told_1049 : decode cL_told 1049 = .ok (.aload_n 2, 1) := by decide +kernel
theorem dL_told_1050 : decode cL_told 1050 = .ok (.aload_n 3, 1) := by decide +kernel
theorem dL_told_1051 : decode cL_told 1051 = .ok (.invokestatic 112, 3) := by decide +kernel
theorem dL_told_1054 : decode cL_told 1054 = .ok (.ifCond .eq 7, 3) := by decide +kernel
theorem dL_told_1057 : decode cL_told 1057 = .ok (.iconst 1, 1) := by decide +kernel
theorem dL_told_1058 : decode cL_told 1058 = .ok (.goto 4, 3) := by decide +kernel
theorem dL_told_1061 : decode cL_told 1061 = .ok (.iconst 0, 1) := by decide +kernel
theorem dL_told_1062 : decode cL_told 1062 = .ok (.ireturn, 1) := by decide +kernel
theorem dL_metres_0 : decode cL_metres 0 = .ok (.iconst 0, 1) := by decide +kernel
theorem dL_metres_1 : decode cL_metres 1 = .ok (.istore 6, 2) := by decide +kernel
theorem dL_metres_3 : decode cL_metres 3 = .ok (.iconst 0, 1) := by decide +kernel
theorem dL_metres_4 : decode cL_metres 4 = .ok (.istore 7, 2) := by decide +kernel
theorem dL_metres_6 : decode cL_metres 6 = .ok (.aload_n 0, 1) := by decide +kernel
theorem dL_metres_7 : decode cL_metres 7 = .ok (.bipush 11, 2) := by decide +kernel
theorem dL_metres_9 : decode cL_metres 9 = .ok (.invokevirtual 105, 3) := by decide +kernel
theorem dL_metres_12 : decode cL_metres 12 = .ok (.istore 8, 2) := by decide +kernel
theorem dL_metres_14 : decode cL_metres 14 = .ok (.iload_n 2, 1) := by decide +kernel
theorem dL_metres_15 : decode cL_metres 15 = .ok (.ifCond .le 13, 3) := by decide +kernel
theorem dL_metres_18 : decode cL_metres 18 = .ok (.iload_n 2, 1) := by decide +kernel
theorem dL_metres_19 : decode cL_metres 19 = .ok (.bipush 9, 2) := by decide +kernel
theorem dL_metres_21 : decode cL_metres 21 = .ok (.if_icmp .ge 7, 3) := by decide +kernel
theorem dL_metres_24 : decode cL_metres 24 = .ok (.iload_n 2, 1) := by decide +kernel
theorem dL_metres_25 : decode cL_metres 25 = .ok (.goto 4, 3) := by decide +kernel
