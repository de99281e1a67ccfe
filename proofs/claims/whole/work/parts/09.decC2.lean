/-! decode rows -/
theorem d_La_law_419 : decode b_La_law 419 = .ok (.istore 6, 2) := by decide +kernel
theorem d_La_law_421 : decode b_La_law 421 = .ok (.aload_n 2, 1) := by decide +kernel
theorem d_La_law_422 : decode b_La_law 422 = .ok (.aload_n 0, 1) := by decide +kernel
theorem d_La_law_423 : decode b_La_law 423 = .ok (.iload 5, 2) := by decide +kernel
theorem d_La_law_425 : decode b_La_law 425 = .ok (.iconst 1, 1) := by decide +kernel
theorem d_La_law_426 : decode b_La_law 426 = .ok (.iadd, 1) := by decide +kernel
theorem d_La_law_427 : decode b_La_law 427 = .ok (.iaload, 1) := by decide +kernel
theorem d_La_law_428 : decode b_La_law 428 = .ok (.aload_n 0, 1) := by decide +kernel
theorem d_La_law_429 : decode b_La_law 429 = .ok (.iload 5, 2) := by decide +kernel
theorem d_La_law_431 : decode b_La_law 431 = .ok (.iconst 2, 1) := by decide +kernel
theorem d_La_law_432 : decode b_La_law 432 = .ok (.iadd, 1) := by decide +kernel
theorem d_La_law_433 : decode b_La_law 433 = .ok (.iaload, 1) := by decide +kernel
theorem d_La_law_434 : decode b_La_law 434 = .ok (.invokevirtual 88, 3) := by decide +kernel
theorem d_La_law_437 : decode b_La_law 437 = .ok (.istore 7, 2) := by decide +kernel
theorem d_La_law_439 : decode b_La_law 439 = .ok (.aload_n 2, 1) := by decide +kernel
theorem d_La_law_440 : decode b_La_law 440 = .ok (.invokevirtual 66, 3) := by decide +kernel
theorem d_La_law_443 : decode b_La_law 443 = .ok (.iload 6, 2) := by decide +kernel
theorem d_La_law_445 : decode b_La_law 445 = .ok (.if_icmp .eq 5, 3) := by decide +kernel
theorem d_La_law_448 : decode b_La_law 448 = .ok (.iconst 0, 1) := by decide +kernel
theorem d_La_law_449 : decode b_La_law 449 = .ok (.ireturn, 1) := by decide +kernel
theorem d_La_law_450 : decode b_La_law 450 = .ok (.iload 6, 2) := by decide +kernel
theorem d_La_law_452 : decode b_La_law 452 = .ok (.ifCond .ne 15, 3) := by decide +kernel
theorem d_La_law_455 : decode b_La_law 455 = .ok (.aload_n 3, 1) := by decide +kernel
theorem d_La_law_456 : decode b_La_law 456 = .ok (.iconst 0, 1) := by decide +kernel
theorem d_La_law_457 : decode b_La_law 457 = .ok (.laload, 1) := by decide +kernel
theorem d_La_law_458 : decode b_La_law 458 = .ok (.iload 7, 2) := by decide +kernel
theorem d_La_law_460 : decode b_La_law 460 = .ok (.i2l, 1) := by decide +kernel
theorem d_La_law_461 : decode b_La_law 461 = .ok (.lcmp, 1) := by decide +kernel
theorem d_La_law_462 : decode b_La_law 462 = .ok (.ifCond .eq 5, 3) := by decide +kernel
theorem d_La_law_465 : decode b_La_law 465 = .ok (.iconst 0, 1) := by decide +kernel
theorem d_La_law_466 : decode b_La_law 466 = .ok (.ireturn, 1) := by decide +kernel
theorem d_La_law_467 : decode b_La_law 467 = .ok (.goto 463, 3) := by decide +kernel
theorem d_La_law_470 : decode b_La_law 470 = .ok (.aload_n 1, 1) := by decide +kernel
theorem d_La_law_471 : decode b_La_law 471 = .ok (.aload 4, 2) := by decide +kernel
theorem d_La_law_473 : decode b_La_law 473 = .ok (.invokestatic 89, 3) := by decide +kernel
theorem d_La_law_476 : decode b_La_law 476 = .ok (.istore 6, 2) := by decide +kernel
theorem d_La_law_478 : decode b_La_law 478 = .ok (.aload_n 2, 1) := by decide +kernel
theorem d_La_law_479 : decode b_La_law 479 = .ok (.invokevirtual 92, 3) := by decide +kernel
theorem d_La_law_482 : decode b_La_law 482 = .ok (.dstore 7, 2) := by decide +kernel
theorem d_La_law_484 : decode b_La_law 484 = .ok (.aload_n 2, 1) := by decide +kernel
theorem d_La_law_485 : decode b_La_law 485 = .ok (.invokevirtual 66, 3) := by decide +kernel
theorem d_La_law_488 : decode b_La_law 488 = .ok (.iload 6, 2) := by decide +kernel
theorem d_La_law_490 : decode b_La_law 490 = .ok (.if_icmp .eq 5, 3) := by decide +kernel
theorem d_La_law_493 : decode b_La_law 493 = .ok (.iconst 0, 1) := by decide +kernel
theorem d_La_law_494 : decode b_La_law 494 = .ok (.ireturn, 1) := by decide +kernel
theorem d_La_law_495 : decode b_La_law 495 = .ok (.iload 6, 2) := by decide +kernel
theorem d_La_law_497 : decode b_La_law 497 = .ok (.ifCond .ne 35, 3) := by decide +kernel
theorem d_La_law_500 : decode b_La_law 500 = .ok (.aload 4, 2) := by decide +kernel
theorem d_La_law_502 : decode b_La_law 502 = .ok (.iconst 0, 1) := by decide +kernel
theorem d_La_law_503 : decode b_La_law 503 = .ok (.daload, 1) := by decide +kernel
theorem d_La_law_504 : decode b_La_law 504 = .ok (.dload 7, 2) := by decide +kernel
theorem d_La_law_506 : decode b_La_law 506 = .ok (.dcmp .l, 1) := by decide +kernel
theorem d_La_law_507 : decode b_La_law 507 = .ok (.ifCond .eq 25, 3) := by decide +kernel
theorem d_La_law_510 : decode b_La_law 510 = .ok (.aload 4, 2) := by decide +kernel
theorem d_La_law_512 : decode b_La_law 512 = .ok (.iconst 0, 1) := by decide +kernel
theorem d_La_law_513 : decode b_La_law 513 = .ok (.daload, 1) := by decide +kernel
theorem d_La_law_514 : decode b_La_law 514 = .ok (.aload 4, 2) := by decide +kernel
theorem d_La_law_516 : decode b_La_law 516 = .ok (.iconst 0, 1) := by decide +kernel
theorem d_La_law_517 : decode b_La_law 517 = .ok (.daload, 1) := by decide +kernel
theorem d_La_law_518 : decode b_La_law 518 = .ok (.dcmp .l, 1) := by decide +kernel
theorem d_La_law_519 : decode b_La_law 519 = .ok (.ifCond .eq 11, 3) := by decide +kernel
theorem d_La_law_522 : decode b_La_law 522 = .ok (.dload 7, 2) := by decide +kernel
theorem d_La_law_524 : decode b_La_law 524 = .ok (.dload 7, 2) := by decide +kernel
theorem d_La_law_526 : decode b_La_law 526 = .ok (.dcmp .l, 1) := by decide +kernel
theorem d_La_law_527 : decode b_La_law 527 = .ok (.ifCond .ne 5, 3) := by decide +kernel
theorem d_La_law_530 : decode b_La_law 530 = .ok (.iconst 0, 1) := by decide +kernel
theorem d_La_law_531 : decode b_La_law 531 = .ok (.ireturn, 1) := by decide +kernel
theorem d_La_law_532 : decode b_La_law 532 = .ok (.goto 398, 3) := by decide +kernel
theorem d_La_law_535 : decode b_La_law 535 = .ok (.aload_n 1, 1) := by decide +kernel
theorem d_La_law_536 : decode b_La_law 536 = .ok (.aload_n 0, 1) := by decide +kernel
theorem d_La_law_537 : decode b_La_law 537 = .ok (.iload 5, 2) := by decide +kernel
theorem d_La_law_539 : decode b_La_law 539 = .ok (.iconst 1, 1) := by decide +kernel
theorem d_La_law_540 : decode b_La_law 540 = .ok (.iadd, 1) := by decide +kernel
theorem d_La_law_541 : decode b_La_law 541 = .ok (.iaload, 1) := by decide +kernel
theorem d_La_law_542 : decode b_La_law 542 = .ok (.aload_n 0, 1) := by decide +kernel
theorem d_La_law_543 : decode b_La_law 543 = .ok (.iload 5, 2) := by decide +kernel
theorem d_La_law_545 : decode b_La_law 545 = .ok (.iconst 2, 1) := by decide +kernel
theorem d_La_law_546 : decode b_La_law 546 = .ok (.iadd, 1) := by decide +kernel
theorem d_La_law_547 : decode b_La_law 547 = .ok (.iaload, 1) := by decide +kernel
theorem d_La_law_548 : decode b_La_law 548 = .ok (.aload_n 0, 1) := by decide +kernel
theorem d_La_law_549 : decode b_La_law 549 = .ok (.iload 5, 2) := by decide +kernel
theorem d_La_law_551 : decode b_La_law 551 = .ok (.iconst 3, 1) := by decide +kernel
theorem d_La_law_552 : decode b_La_law 552 = .ok (.iadd, 1) := by decide +kernel
theorem d_La_law_553 : decode b_La_law 553 = .ok (.iaload, 1) := by decide +kernel
theorem d_La_law_554 : decode b_La_law 554 = .ok (.aload_n 0, 1) := by decide +kernel
theorem d_La_law_555 : decode b_La_law 555 = .ok (.iload 5, 2) := by decide +kernel
theorem d_La_law_557 : decode b_La_law 557 = .ok (.iconst 4, 1) := by decide +kernel
theorem d_La_law_558 : decode b_La_law 558 = .ok (.iadd, 1) := by decide +kernel
theorem d_La_law_559 : decode b_La_law 559 = .ok (.iaload, 1) := by decide +kernel
theorem d_La_law_560 : decode b_La_law 560 = .ok (.aload_n 3, 1) := by decide +kernel
theorem d_La_law_561 : decode b_La_law 561 = .ok (.invokestatic 93, 3) := by decide +kernel
theorem d_La_law_564 : decode b_La_law 564 = .ok (.istore 6, 2) := by decide +kernel
theorem d_La_law_566 : decode b_La_law 566 = .ok (.aload_n 2, 1) := by decide +kernel
theorem d_La_law_567 : decode b_La_law 567 = .ok (.aload_n 0, 1) := by decide +kernel
theorem d_La_law_568 : decode b_La_law 568 = .ok (.iload 5, 2) := by decide +kernel
theorem d_La_law_570 : decode b_La_law 570 = .ok (.iconst 1, 1) := by decide +kernel
theorem d_La_law_571 : decode b_La_law 571 = .ok (.iadd, 1) := by decide +kernel
theorem d_La_law_572 : decode b_La_law 572 = .ok (.iaload, 1) := by decide +kernel
theorem d_La_law_573 : decode b_La_law 573 = .ok (.aload_n 0, 1) := by decide +kernel
theorem d_La_law_574 : decode b_La_law 574 = .ok (.iload 5, 2) := by decide +kernel
theorem d_La_law_576 : decode b_La_law 576 = .ok (.iconst 2, 1) := by decide +kernel
theorem d_La_law_577 : decode b_La_law 577 = .ok (.iadd, 1) := by decide +kernel
theorem d_La_law_578 : decode b_La_law 578 = .ok (.iaload, 1) := by decide +kernel
theorem d_La_law_579 : decode b_La_law 579 = .ok (.aload_n 0, 1) := by decide +kernel
theorem d_La_law_580 : decode b_La_law 580 = .ok (.iload 5, 2) := by decide +kernel
theorem d_La_law_582 : decode b_La_law 582 = .ok (.iconst 3, 1) := by decide +kernel
theorem d_La_law_583 : decode b_La_law 583 = .ok (.iadd, 1) := by decide +kernel
theorem d_La_law_584 : decode b_La_law 584 = .ok (.iaload, 1) := by decide +kernel
theorem d_La_law_585 : decode b_La_law 585 = .ok (.aload_n 0, 1) := by decide +kernel
theorem d_La_law_586 : decode b_La_law 586 = .ok (.iload 5, 2) := by decide +kernel
theorem d_La_law_588 : decode b_La_law 588 = .ok (.iconst 4, 1) := by decide +kernel
theorem d_La_law_589 : decode b_La_law 589 = .ok (.iadd, 1) := by decide +kernel
theorem d_La_law_590 : decode b_La_law 590 = .ok (.iaload, 1) := by decide +kernel
theorem d_La_law_591 : decode b_La_law 591 = .ok (.invokevirtual 95, 3) := by decide +kernel
theorem d_La_law_594 : decode b_La_law 594 = .ok (.istore 7, 2) := by decide +kernel
theorem d_La_law_596 : decode b_La_law 596 = .ok (.aload_n 2, 1) := by decide +kernel
theorem d_La_law_597 : decode b_La_law 597 = .ok (.invokevirtual 66, 3) := by decide +kernel
theorem d_La_law_600 : decode b_La_law 600 = .ok (.iload 6, 2) := by decide +kernel
theorem d_La_law_602 : decode b_La_law 602 = .ok (.if_icmp .eq 5, 3) := by decide +kernel
theorem d_La_law_605 : decode b_La_law 605 = .ok (.iconst 0, 1) := by decide +kernel
theorem d_La_law_606 : decode b_La_law 606 = .ok (.ireturn, 1) := by decide +kernel
theorem d_La_law_607 : decode b_La_law 607 = .ok (.iload 6, 2) := by decide +kernel
theorem d_La_law_609 : decode b_La_law 609 = .ok (.ifCond .ne 15, 3) := by decide +kernel
theorem d_La_law_612 : decode b_La_law 612 = .ok (.aload_n 3, 1) := by decide +kernel
theorem d_La_law_613 : decode b_La_law 613 = .ok (.iconst 0, 1) := by decide +kernel
theorem d_La_law_614 : decode b_La_law 614 = .ok (.laload, 1) := by decide +kernel
theorem d_La_law_615 : decode b_La_law 615 = .ok (.iload 7, 2) := by decide +kernel
theorem d_La_law_617 : decode b_La_law 617 = .ok (.i2l, 1) := by decide +kernel
theorem d_La_law_618 : decode b_La_law 618 = .ok (.lcmp, 1) := by decide +kernel
theorem d_La_law_619 : decode b_La_law 619 = .ok (.ifCond .eq 5, 3) := by decide +kernel
theorem d_La_law_622 : decode b_La_law 622 = .ok (.iconst 0, 1) := by decide +kernel
theorem d_La_law_623 : decode b_La_law 623 = .ok (.ireturn, 1) := by decide +kernel
theorem d_La_law_624 : decode b_La_law 624 = .ok (.goto 306, 3) := by decide +kernel
theorem d_La_law_627 : decode b_La_law 627 = .ok (.aload_n 1, 1) := by decide +kernel
theorem d_La_law_628 : decode b_La_law 628 = .ok (.aload_n 0, 1) := by decide +kernel
theorem d_La_law_629 : decode b_La_law 629 = .ok (.iload 5, 2) := by decide +kernel
theorem d_La_law_631 : decode b_La_law 631 = .ok (.iconst 1, 1) := by decide +kernel
theorem d_La_law_632 : decode b_La_law 632 = .ok (.iadd, 1) := by decide +kernel
theorem d_La_law_633 : decode b_La_law 633 = .ok (.iaload, 1) := by decide +kernel
theorem d_La_law_634 : decode b_La_law 634 = .ok (.aload_n 0, 1) := by decide +kernel
theorem d_La_law_635 : decode b_La_law 635 = .ok (.iload 5, 2) := by decide +kernel
theorem d_La_law_637 : decode b_La_law 637 = .ok (.iconst 2, 1) := by decide +kernel
theorem d_La_law_638 : decode b_La_law 638 = .ok (.iadd, 1) := by decide +kernel
theorem d_La_law_639 : decode b_La_law 639 = .ok (.iaload, 1) := by decide +kernel
theorem d_La_law_640 : decode b_La_law 640 = .ok (.aload_n 0, 1) := by decide +kernel
theorem d_La_law_641 : decode b_La_law 641 = .ok (.iload 5, 2) := by decide +kernel
theorem d_La_law_643 : decode b_La_law 643 = .ok (.iconst 3, 1) := by decide +kernel
theorem d_La_law_644 : decode b_La_law 644 = .ok (.iadd, 1) := by decide +kernel
theorem d_La_law_645 : decode b_La_law 645 = .ok (.iaload, 1) := by decide +kernel
theorem d_La_law_646 : decode b_La_law 646 = .ok (.aload_n 0, 1) := by decide +kernel
theorem d_La_law_647 : decode b_La_law 647 = .ok (.iload 5, 2) := by decide +kernel
theorem d_La_law_649 : decode b_La_law 649 = .ok (.iconst 4, 1) := by decide +kernel
theorem d_La_law_650 : decode b_La_law 650 = .ok (.iadd, 1) := by decide +kernel
theorem d_La_law_651 : decode b_La_law 651 = .ok (.iaload, 1) := by decide +kernel
theorem d_La_law_652 : decode b_La_law 652 = .ok (.aload_n 3, 1) := by decide +kernel
theorem d_La_law_653 : decode b_La_law 653 = .ok (.invokestatic 96, 3) := by decide +kernel
theorem d_La_law_656 : decode b_La_law 656 = .ok (.istore 6, 2) := by decide +kernel
theorem d_La_law_658 : decode b_La_law 658 = .ok (.aload_n 2, 1) := by decide +kernel
theorem d_La_law_659 : decode b_La_law 659 = .ok (.aload_n 0, 1) := by decide +kernel
theorem d_La_law_660 : decode b_La_law 660 = .ok (.iload 5, 2) := by decide +kernel
theorem d_La_law_662 : decode b_La_law 662 = .ok (.iconst 1, 1) := by decide +kernel
theorem d_La_law_663 : decode b_La_law 663 = .ok (.iadd, 1) := by decide +kernel
theorem d_La_law_664 : decode b_La_law 664 = .ok (.iaload, 1) := by decide +kernel
theorem d_La_law_665 : decode b_La_law 665 = .ok (.aload_n 0, 1) := by decide +kernel
theorem d_La_law_666 : decode b_La_law 666 = .ok (.iload 5, 2) := by decide +kernel
theorem d_La_law_668 : decode b_La_law 668 = .ok (.iconst 2, 1) := by decide +kernel
theorem d_La_law_669 : decode b_La_law 669 = .ok (.iadd, 1) := by decide +kernel
theorem d_La_law_670 : decode b_La_law 670 = .ok (.iaload, 1) := by decide +kernel
theorem d_La_law_671 : decode b_La_law 671 = .ok (.aload_n 0, 1) := by decide +kernel
theorem d_La_law_672 : decode b_La_law 672 = .ok (.iload 5, 2) := by decide +kernel
theorem d_La_law_674 : decode b_La_law 674 = .ok (.iconst 3, 1) := by decide +kernel
theorem d_La_law_675 : decode b_La_law 675 = .ok (.iadd, 1) := by decide +kernel
theorem d_La_law_676 : decode b_La_law 676 = .ok (.iaload, 1) := by decide +kernel
theorem d_La_law_677 : decode b_La_law 677 = .ok (.aload_n 0, 1) := by decide +kernel
theorem d_La_law_678 : decode b_La_law 678 = .ok (.iload 5, 2) := by decide +kernel
theorem d_La_law_680 : decode b_La_law 680 = .ok (.iconst 4, 1) := by decide +kernel
theorem d_La_law_681 : decode b_La_law 681 = .ok (.iadd, 1) := by decide +kernel
theorem d_La_law_682 : decode b_La_law 682 = .ok (.iaload, 1) := by decide +kernel
theorem d_La_law_683 : decode b_La_law 683 = .ok (.invokevirtual 98, 3) := by decide +kernel
theorem d_La_law_686 : decode b_La_law 686 = .ok (.istore 7, 2) := by decide +kernel
theorem d_La_law_688 : decode b_La_law 688 = .ok (.aload_n 2, 1) := by decide +kernel
theorem d_La_law_689 : decode b_La_law 689 = .ok (.invokevirtual 66, 3) := by decide +kernel
theorem d_La_law_692 : decode b_La_law 692 = .ok (.iload 6, 2) := by decide +kernel
theorem d_La_law_694 : decode b_La_law 694 = .ok (.if_icmp .eq 5, 3) := by decide +kernel
theorem d_La_law_697 : decode b_La_law 697 = .ok (.iconst 0, 1) := by decide +kernel
theorem d_La_law_698 : decode b_La_law 698 = .ok (.ireturn, 1) := by decide +kernel
theorem d_La_law_699 : decode b_La_law 699 = .ok (.iload 6, 2) := by decide +kernel
theorem d_La_law_701 : decode b_La_law 701 = .ok (.ifCond .ne 15, 3) := by decide +kernel
theorem d_La_law_704 : decode b_La_law 704 = .ok (.aload_n 3, 1) := by decide +kernel
theorem d_La_law_705 : decode b_La_law 705 = .ok (.iconst 0, 1) := by decide +kernel
theorem d_La_law_706 : decode b_La_law 706 = .ok (.laload, 1) := by decide +kernel
theorem d_La_law_707 : decode b_La_law 707 = .ok (.iload 7, 2) := by decide +kernel
theorem d_La_law_709 : decode b_La_law 709 = .ok (.i2l, 1) := by decide +kernel
theorem d_La_law_710 : decode b_La_law 710 = .ok (.lcmp, 1) := by decide +kernel
theorem d_La_law_711 : decode b_La_law 711 = .ok (.ifCond .eq 5, 3) := by decide +kernel
theorem d_La_law_714 : decode b_La_law 714 = .ok (.iconst 0, 1) := by decide +kernel
theorem d_La_law_715 : decode b_La_law 715 = .ok (.ireturn, 1) := by decide +kernel
theorem d_La_law_716 : decode b_La_law 716 = .ok (.goto 214, 3) := by decide +kernel
theorem d_La_law_719 : decode b_La_law 719 = .ok (.aload_n 1, 1) := by decide +kernel
theorem d_La_law_720 : decode b_La_law 720 = .ok (.aload_n 0, 1) := by decide +kernel
