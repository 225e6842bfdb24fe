theorem d_law_421 : decode code 421 = .ok (.invokestatic 81, 3) := by decide +kernel
theorem d_law_424 : decode code 424 = .ok (.istore 5, 2) := by decide +kernel
theorem d_law_426 : decode code 426 = .ok (.aload_n 2, 1) := by decide +kernel
theorem d_law_427 : decode code 427 = .ok (.aload_n 0, 1) := by decide +kernel
theorem d_law_428 : decode code 428 = .ok (.iload 4, 2) := by decide +kernel
theorem d_law_430 : decode code 430 = .ok (.iconst 1, 1) := by decide +kernel
theorem d_law_431 : decode code 431 = .ok (.iadd, 1) := by decide +kernel
theorem d_law_432 : decode code 432 = .ok (.iaload, 1) := by decide +kernel
theorem d_law_433 : decode code 433 = .ok (.aload_n 0, 1) := by decide +kernel
theorem d_law_434 : decode code 434 = .ok (.iload 4, 2) := by decide +kernel
theorem d_law_436 : decode code 436 = .ok (.iconst 2, 1) := by decide +kernel
theorem d_law_437 : decode code 437 = .ok (.iadd, 1) := by decide +kernel
theorem d_law_438 : decode code 438 = .ok (.iaload, 1) := by decide +kernel
theorem d_law_439 : decode code 439 = .ok (.invokevirtual 83, 3) := by decide +kernel
theorem d_law_442 : decode code 442 = .ok (.istore 6, 2) := by decide +kernel
theorem d_law_444 : decode code 444 = .ok (.aload_n 2, 1) := by decide +kernel
theorem d_law_445 : decode code 445 = .ok (.invokevirtual 66, 3) := by decide +kernel
theorem d_law_448 : decode code 448 = .ok (.iload 5, 2) := by decide +kernel
theorem d_law_450 : decode code 450 = .ok (.if_icmp .eq 5, 3) := by decide +kernel
theorem d_law_453 : decode code 453 = .ok (.iconst 0, 1) := by decide +kernel
theorem d_law_454 : decode code 454 = .ok (.ireturn, 1) := by decide +kernel
theorem d_law_455 : decode code 455 = .ok (.iload 5, 2) := by decide +kernel
theorem d_law_457 : decode code 457 = .ok (.ifCond .ne 15, 3) := by decide +kernel
theorem d_law_460 : decode code 460 = .ok (.aload_n 3, 1) := by decide +kernel
theorem d_law_461 : decode code 461 = .ok (.iconst 0, 1) := by decide +kernel
theorem d_law_462 : decode code 462 = .ok (.laload, 1) := by decide +kernel
theorem d_law_463 : decode code 463 = .ok (.iload 6, 2) := by decide +kernel
theorem d_law_465 : decode code 465 = .ok (.i2l, 1) := by decide +kernel
theorem d_law_466 : decode code 466 = .ok (.lcmp, 1) := by decide +kernel
theorem d_law_467 : decode code 467 = .ok (.ifCond .eq 5, 3) := by decide +kernel
theorem d_law_470 : decode code 470 = .ok (.iconst 0, 1) := by decide +kernel
theorem d_law_471 : decode code 471 = .ok (.ireturn, 1) := by decide +kernel
theorem d_law_472 : decode code 472 = .ok (.goto 620, 3) := by decide +kernel
theorem d_law_475 : decode code 475 = .ok (.aload_n 1, 1) := by decide +kernel
theorem d_law_476 : decode code 476 = .ok (.aload_n 0, 1) := by decide +kernel
theorem d_law_477 : decode code 477 = .ok (.iload 4, 2) := by decide +kernel
theorem d_law_479 : decode code 479 = .ok (.iconst 1, 1) := by decide +kernel
theorem d_law_480 : decode code 480 = .ok (.iadd, 1) := by decide +kernel
theorem d_law_481 : decode code 481 = .ok (.iaload, 1) := by decide +kernel
theorem d_law_482 : decode code 482 = .ok (.aload_n 0, 1) := by decide +kernel
theorem d_law_483 : decode code 483 = .ok (.iload 4, 2) := by decide +kernel
theorem d_law_485 : decode code 485 = .ok (.iconst 2, 1) := by decide +kernel
theorem d_law_486 : decode code 486 = .ok (.iadd, 1) := by decide +kernel
theorem d_law_487 : decode code 487 = .ok (.iaload, 1) := by decide +kernel
theorem d_law_488 : decode code 488 = .ok (.aload_n 0, 1) := by decide +kernel
theorem d_law_489 : decode code 489 = .ok (.iload 4, 2) := by decide +kernel
theorem d_law_491 : decode code 491 = .ok (.iconst 3, 1) := by decide +kernel
theorem d_law_492 : decode code 492 = .ok (.iadd, 1) := by decide +kernel
theorem d_law_493 : decode code 493 = .ok (.iaload, 1) := by decide +kernel
theorem d_law_494 : decode code 494 = .ok (.aload_n 3, 1) := by decide +kernel
theorem d_law_495 : decode code 495 = .ok (.invokestatic 84, 3) := by decide +kernel
theorem d_law_498 : decode code 498 = .ok (.istore 5, 2) := by decide +kernel
theorem d_law_500 : decode code 500 = .ok (.aload_n 2, 1) := by decide +kernel
theorem d_law_501 : decode code 501 = .ok (.aload_n 0, 1) := by decide +kernel
theorem d_law_502 : decode code 502 = .ok (.iload 4, 2) := by decide +kernel
theorem d_law_504 : decode code 504 = .ok (.iconst 1, 1) := by decide +kernel
theorem d_law_505 : decode code 505 = .ok (.iadd, 1) := by decide +kernel
theorem d_law_506 : decode code 506 = .ok (.iaload, 1) := by decide +kernel
theorem d_law_507 : decode code 507 = .ok (.aload_n 0, 1) := by decide +kernel
theorem d_law_508 : decode code 508 = .ok (.iload 4, 2) := by decide +kernel
theorem d_law_510 : decode code 510 = .ok (.iconst 2, 1) := by decide +kernel
theorem d_law_511 : decode code 511 = .ok (.iadd, 1) := by decide +kernel
theorem d_law_512 : decode code 512 = .ok (.iaload, 1) := by decide +kernel
theorem d_law_513 : decode code 513 = .ok (.aload_n 0, 1) := by decide +kernel
theorem d_law_514 : decode code 514 = .ok (.iload 4, 2) := by decide +kernel
theorem d_law_516 : decode code 516 = .ok (.iconst 3, 1) := by decide +kernel
theorem d_law_517 : decode code 517 = .ok (.iadd, 1) := by decide +kernel
theorem d_law_518 : decode code 518 = .ok (.iaload, 1) := by decide +kernel
theorem d_law_519 : decode code 519 = .ok (.invokevirtual 86, 3) := by decide +kernel
theorem d_law_522 : decode code 522 = .ok (.lstore 6, 2) := by decide +kernel
theorem d_law_524 : decode code 524 = .ok (.aload_n 2, 1) := by decide +kernel
theorem d_law_525 : decode code 525 = .ok (.invokevirtual 66, 3) := by decide +kernel
theorem d_law_528 : decode code 528 = .ok (.iload 5, 2) := by decide +kernel
theorem d_law_530 : decode code 530 = .ok (.if_icmp .eq 5, 3) := by decide +kernel
theorem d_law_533 : decode code 533 = .ok (.iconst 0, 1) := by decide +kernel
theorem d_law_534 : decode code 534 = .ok (.ireturn, 1) := by decide +kernel
theorem d_law_535 : decode code 535 = .ok (.iload 5, 2) := by decide +kernel
theorem d_law_537 : decode code 537 = .ok (.ifCond .ne 14, 3) := by decide +kernel
theorem d_law_540 : decode code 540 = .ok (.aload_n 3, 1) := by decide +kernel
theorem d_law_541 : decode code 541 = .ok (.iconst 0, 1) := by decide +kernel
theorem d_law_542 : decode code 542 = .ok (.laload, 1) := by decide +kernel
theorem d_law_543 : decode code 543 = .ok (.lload 6, 2) := by decide +kernel
theorem d_law_545 : decode code 545 = .ok (.lcmp, 1) := by decide +kernel
theorem d_law_546 : decode code 546 = .ok (.ifCond .eq 5, 3) := by decide +kernel
theorem d_law_549 : decode code 549 = .ok (.iconst 0, 1) := by decide +kernel
theorem d_law_550 : decode code 550 = .ok (.ireturn, 1) := by decide +kernel
theorem d_law_551 : decode code 551 = .ok (.goto 541, 3) := by decide +kernel
theorem d_law_554 : decode code 554 = .ok (.aload_n 1, 1) := by decide +kernel
theorem d_law_555 : decode code 555 = .ok (.aload_n 0, 1) := by decide +kernel
theorem d_law_556 : decode code 556 = .ok (.iload 4, 2) := by decide +kernel
theorem d_law_558 : decode code 558 = .ok (.iconst 1, 1) := by decide +kernel
theorem d_law_559 : decode code 559 = .ok (.iadd, 1) := by decide +kernel
theorem d_law_560 : decode code 560 = .ok (.iaload, 1) := by decide +kernel
theorem d_law_561 : decode code 561 = .ok (.aload_n 0, 1) := by decide +kernel
theorem d_law_562 : decode code 562 = .ok (.iload 4, 2) := by decide +kernel
theorem d_law_564 : decode code 564 = .ok (.iconst 2, 1) := by decide +kernel
theorem d_law_565 : decode code 565 = .ok (.iadd, 1) := by decide +kernel
theorem d_law_566 : decode code 566 = .ok (.iaload, 1) := by decide +kernel
theorem d_law_567 : decode code 567 = .ok (.aload_n 0, 1) := by decide +kernel
theorem d_law_568 : decode code 568 = .ok (.iload 4, 2) := by decide +kernel
theorem d_law_570 : decode code 570 = .ok (.iconst 3, 1) := by decide +kernel
theorem d_law_571 : decode code 571 = .ok (.iadd, 1) := by decide +kernel
theorem d_law_572 : decode code 572 = .ok (.iaload, 1) := by decide +kernel
theorem d_law_573 : decode code 573 = .ok (.aload_n 3, 1) := by decide +kernel
theorem d_law_574 : decode code 574 = .ok (.invokestatic 87, 3) := by decide +kernel
theorem d_law_577 : decode code 577 = .ok (.istore 5, 2) := by decide +kernel
theorem d_law_579 : decode code 579 = .ok (.aload_n 2, 1) := by decide +kernel
theorem d_law_580 : decode code 580 = .ok (.aload_n 0, 1) := by decide +kernel
theorem d_law_581 : decode code 581 = .ok (.iload 4, 2) := by decide +kernel
theorem d_law_583 : decode code 583 = .ok (.iconst 1, 1) := by decide +kernel
theorem d_law_584 : decode code 584 = .ok (.iadd, 1) := by decide +kernel
theorem d_law_585 : decode code 585 = .ok (.iaload, 1) := by decide +kernel
theorem d_law_586 : decode code 586 = .ok (.aload_n 0, 1) := by decide +kernel
theorem d_law_587 : decode code 587 = .ok (.iload 4, 2) := by decide +kernel
theorem d_law_589 : decode code 589 = .ok (.iconst 2, 1) := by decide +kernel
theorem d_law_590 : decode code 590 = .ok (.iadd, 1) := by decide +kernel
theorem d_law_591 : decode code 591 = .ok (.iaload, 1) := by decide +kernel
theorem d_law_592 : decode code 592 = .ok (.aload_n 0, 1) := by decide +kernel
theorem d_law_593 : decode code 593 = .ok (.iload 4, 2) := by decide +kernel
theorem d_law_595 : decode code 595 = .ok (.iconst 3, 1) := by decide +kernel
theorem d_law_596 : decode code 596 = .ok (.iadd, 1) := by decide +kernel
theorem d_law_597 : decode code 597 = .ok (.iaload, 1) := by decide +kernel
theorem d_law_598 : decode code 598 = .ok (.invokevirtual 89, 3) := by decide +kernel
theorem d_law_601 : decode code 601 = .ok (.lstore 6, 2) := by decide +kernel
theorem d_law_603 : decode code 603 = .ok (.aload_n 2, 1) := by decide +kernel
theorem d_law_604 : decode code 604 = .ok (.invokevirtual 66, 3) := by decide +kernel
theorem d_law_607 : decode code 607 = .ok (.iload 5, 2) := by decide +kernel
theorem d_law_609 : decode code 609 = .ok (.if_icmp .eq 5, 3) := by decide +kernel
theorem d_law_612 : decode code 612 = .ok (.iconst 0, 1) := by decide +kernel
theorem d_law_613 : decode code 613 = .ok (.ireturn, 1) := by decide +kernel
theorem d_law_614 : decode code 614 = .ok (.iload 5, 2) := by decide +kernel
theorem d_law_616 : decode code 616 = .ok (.ifCond .ne 14, 3) := by decide +kernel
theorem d_law_619 : decode code 619 = .ok (.aload_n 3, 1) := by decide +kernel
theorem d_law_620 : decode code 620 = .ok (.iconst 0, 1) := by decide +kernel
theorem d_law_621 : decode code 621 = .ok (.laload, 1) := by decide +kernel
theorem d_law_622 : decode code 622 = .ok (.lload 6, 2) := by decide +kernel
theorem d_law_624 : decode code 624 = .ok (.lcmp, 1) := by decide +kernel
theorem d_law_625 : decode code 625 = .ok (.ifCond .eq 5, 3) := by decide +kernel
theorem d_law_628 : decode code 628 = .ok (.iconst 0, 1) := by decide +kernel
theorem d_law_629 : decode code 629 = .ok (.ireturn, 1) := by decide +kernel
theorem d_law_630 : decode code 630 = .ok (.goto 462, 3) := by decide +kernel
theorem d_law_633 : decode code 633 = .ok (.aload_n 1, 1) := by decide +kernel
theorem d_law_634 : decode code 634 = .ok (.aload_n 0, 1) := by decide +kernel
theorem d_law_635 : decode code 635 = .ok (.iload 4, 2) := by decide +kernel
theorem d_law_637 : decode code 637 = .ok (.iconst 1, 1) := by decide +kernel
theorem d_law_638 : decode code 638 = .ok (.iadd, 1) := by decide +kernel
theorem d_law_639 : decode code 639 = .ok (.iaload, 1) := by decide +kernel
theorem d_law_640 : decode code 640 = .ok (.aload_n 3, 1) := by decide +kernel
theorem d_law_641 : decode code 641 = .ok (.invokestatic 90, 3) := by decide +kernel
theorem d_law_644 : decode code 644 = .ok (.istore 5, 2) := by decide +kernel
theorem d_law_646 : decode code 646 = .ok (.aload_n 2, 1) := by decide +kernel
theorem d_law_647 : decode code 647 = .ok (.aload_n 0, 1) := by decide +kernel
theorem d_law_648 : decode code 648 = .ok (.iload 4, 2) := by decide +kernel
theorem d_law_650 : decode code 650 = .ok (.iconst 1, 1) := by decide +kernel
theorem d_law_651 : decode code 651 = .ok (.iadd, 1) := by decide +kernel
theorem d_law_652 : decode code 652 = .ok (.iaload, 1) := by decide +kernel
theorem d_law_653 : decode code 653 = .ok (.invokevirtual 92, 3) := by decide +kernel
theorem d_law_656 : decode code 656 = .ok (.istore 6, 2) := by decide +kernel
theorem d_law_658 : decode code 658 = .ok (.aload_n 2, 1) := by decide +kernel
theorem d_law_659 : decode code 659 = .ok (.invokevirtual 66, 3) := by decide +kernel
theorem d_law_662 : decode code 662 = .ok (.iload 5, 2) := by decide +kernel
theorem d_law_664 : decode code 664 = .ok (.if_icmp .eq 5, 3) := by decide +kernel
theorem d_law_667 : decode code 667 = .ok (.iconst 0, 1) := by decide +kernel
theorem d_law_668 : decode code 668 = .ok (.ireturn, 1) := by decide +kernel
theorem d_law_669 : decode code 669 = .ok (.iload 5, 2) := by decide +kernel
theorem d_law_671 : decode code 671 = .ok (.ifCond .ne 15, 3) := by decide +kernel
theorem d_law_674 : decode code 674 = .ok (.aload_n 3, 1) := by decide +kernel
theorem d_law_675 : decode code 675 = .ok (.iconst 0, 1) := by decide +kernel
theorem d_law_676 : decode code 676 = .ok (.laload, 1) := by decide +kernel
theorem d_law_677 : decode code 677 = .ok (.iload 6, 2) := by decide +kernel
theorem d_law_679 : decode code 679 = .ok (.i2l, 1) := by decide +kernel
theorem d_law_680 : decode code 680 = .ok (.lcmp, 1) := by decide +kernel
theorem d_law_681 : decode code 681 = .ok (.ifCond .eq 5, 3) := by decide +kernel
theorem d_law_684 : decode code 684 = .ok (.iconst 0, 1) := by decide +kernel
theorem d_law_685 : decode code 685 = .ok (.ireturn, 1) := by decide +kernel
theorem d_law_686 : decode code 686 = .ok (.goto 406, 3) := by decide +kernel
theorem d_law_689 : decode code 689 = .ok (.aload_n 1, 1) := by decide +kernel
theorem d_law_690 : decode code 690 = .ok (.aload_n 0, 1) := by decide +kernel
theorem d_law_691 : decode code 691 = .ok (.iload 4, 2) := by decide +kernel
theorem d_law_693 : decode code 693 = .ok (.iconst 1, 1) := by decide +kernel
theorem d_law_694 : decode code 694 = .ok (.iadd, 1) := by decide +kernel
theorem d_law_695 : decode code 695 = .ok (.iaload, 1) := by decide +kernel
theorem d_law_696 : decode code 696 = .ok (.aload_n 0, 1) := by decide +kernel
theorem d_law_697 : decode code 697 = .ok (.iload 4, 2) := by decide +kernel
theorem d_law_699 : decode code 699 = .ok (.iconst 2, 1) := by decide +kernel
theorem d_law_700 : decode code 700 = .ok (.iadd, 1) := by decide +kernel
theorem d_law_701 : decode code 701 = .ok (.iaload, 1) := by decide +kernel
theorem d_law_702 : decode code 702 = .ok (.aload_n 3, 1) := by decide +kernel
theorem d_law_703 : decode code 703 = .ok (.invokestatic 93, 3) := by decide +kernel
theorem d_law_706 : decode code 706 = .ok (.istore 5, 2) := by decide +kernel
theorem d_law_708 : decode code 708 = .ok (.aload_n 2, 1) := by decide +kernel
theorem d_law_709 : decode code 709 = .ok (.aload_n 0, 1) := by decide +kernel
theorem d_law_710 : decode code 710 = .ok (.iload 4, 2) := by decide +kernel
theorem d_law_712 : decode code 712 = .ok (.iconst 1, 1) := by decide +kernel
theorem d_law_713 : decode code 713 = .ok (.iadd, 1) := by decide +kernel
theorem d_law_714 : decode code 714 = .ok (.iaload, 1) := by decide +kernel
theorem d_law_715 : decode code 715 = .ok (.aload_n 0, 1) := by decide +kernel
theorem d_law_716 : decode code 716 = .ok (.iload 4, 2) := by decide +kernel
theorem d_law_718 : decode code 718 = .ok (.iconst 2, 1) := by decide +kernel
theorem d_law_719 : decode code 719 = .ok (.iadd, 1) := by decide +kernel
theorem d_law_720 : decode code 720 = .ok (.iaload, 1) := by decide +kernel
theorem d_law_721 : decode code 721 = .ok (.invokevirtual 95, 3) := by decide +kernel
theorem d_law_724 : decode code 724 = .ok (.istore 6, 2) := by decide +kernel
theorem d_law_726 : decode code 726 = .ok (.aload_n 2, 1) := by decide +kernel
theorem d_law_727 : decode code 727 = .ok (.invokevirtual 66, 3) := by decide +kernel
theorem d_law_730 : decode code 730 = .ok (.iload 5, 2) := by decide +kernel
theorem d_law_732 : decode code 732 = .ok (.if_icmp .eq 5, 3) := by decide +kernel
theorem d_law_735 : decode code 735 = .ok (.iconst 0, 1) := by decide +kernel
theorem d_law_736 : decode code 736 = .ok (.ireturn, 1) := by decide +kernel
theorem d_law_737 : decode code 737 = .ok (.iload 5, 2) := by decide +kernel
theorem d_law_739 : decode code 739 = .ok (.ifCond .ne 15, 3) := by decide +kernel
theorem d_law_742 : decode code 742 = .ok (.aload_n 3, 1) := by decide +kernel
theorem d_law_743 : decode code 743 = .ok (.iconst 0, 1) := by decide +kernel
theorem d_law_744 : decode code 744 = .ok (.laload, 1) := by decide +kernel
theorem d_law_745 : decode code 745 = .ok (.iload 6, 2) := by decide +kernel
theorem d_law_747 : decode code 747 = .ok (.i2l, 1) := by decide +kernel
theorem d_law_748 : decode code 748 = .ok (.lcmp, 1) := by decide +kernel
theorem d_law_749 : decode code 749 = .ok (.ifCond .eq 5, 3) := by decide +kernel
theorem d_law_752 : decode code 752 = .ok (.iconst 0, 1) := by decide +kernel
theorem d_law_753 : decode code 753 = .ok (.ireturn, 1) := by decide +kernel
