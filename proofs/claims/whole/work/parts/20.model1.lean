theorem d_M_layShort_444 : decode b_M_layShort 444 = .ok (.bipush 9, 2) := by decide +kernel
theorem d_M_layShort_446 : decode b_M_layShort 446 = .ok (.bipush 7, 2) := by decide +kernel
theorem d_M_layShort_448 : decode b_M_layShort 448 = .ok (.sipush 500, 3) := by decide +kernel
theorem d_M_layShort_451 : decode b_M_layShort 451 = .ok (.iconst 2, 1) := by decide +kernel
theorem d_M_layShort_452 : decode b_M_layShort 452 = .ok (.invokevirtual 66, 3) := by decide +kernel
theorem d_M_layShort_455 : decode b_M_layShort 455 = .ok (.aload_n 0, 1) := by decide +kernel
theorem d_M_layShort_456 : decode b_M_layShort 456 = .ok (.iload_n 1, 1) := by decide +kernel
theorem d_M_layShort_457 : decode b_M_layShort 457 = .ok (.iconst 5, 1) := by decide +kernel
theorem d_M_layShort_458 : decode b_M_layShort 458 = .ok (.iconst 2, 1) := by decide +kernel
theorem d_M_layShort_459 : decode b_M_layShort 459 = .ok (.iload_n 1, 1) := by decide +kernel
theorem d_M_layShort_460 : decode b_M_layShort 460 = .ok (.bipush 60, 2) := by decide +kernel
theorem d_M_layShort_462 : decode b_M_layShort 462 = .ok (.isub, 1) := by decide +kernel
theorem d_M_layShort_463 : decode b_M_layShort 463 = .ok (.invokevirtual 58, 3) := by decide +kernel
theorem d_M_layShort_466 : decode b_M_layShort 466 = .ok (.aload_n 0, 1) := by decide +kernel
theorem d_M_layShort_467 : decode b_M_layShort 467 = .ok (.iload_n 1, 1) := by decide +kernel
theorem d_M_layShort_468 : decode b_M_layShort 468 = .ok (.iconst 4, 1) := by decide +kernel
theorem d_M_layShort_469 : decode b_M_layShort 469 = .ok (.iconst 2, 1) := by decide +kernel
theorem d_M_layShort_470 : decode b_M_layShort 470 = .ok (.sipush 700, 3) := by decide +kernel
theorem d_M_layShort_473 : decode b_M_layShort 473 = .ok (.iconst 2, 1) := by decide +kernel
theorem d_M_layShort_474 : decode b_M_layShort 474 = .ok (.invokevirtual 66, 3) := by decide +kernel
theorem d_M_layShort_477 : decode b_M_layShort 477 = .ok (.iinc 1 1, 3) := by decide +kernel
theorem d_M_layShort_480 : decode b_M_layShort 480 = .ok (.goto (-60), 3) := by decide +kernel
theorem d_M_layShort_483 : decode b_M_layShort 483 = .ok (.bipush 65, 2) := by decide +kernel
theorem d_M_layShort_485 : decode b_M_layShort 485 = .ok (.istore_n 1, 1) := by decide +kernel
theorem d_M_layShort_486 : decode b_M_layShort 486 = .ok (.iload_n 1, 1) := by decide +kernel
theorem d_M_layShort_487 : decode b_M_layShort 487 = .ok (.bipush 67, 2) := by decide +kernel
theorem d_M_layShort_489 : decode b_M_layShort 489 = .ok (.if_icmp .ge 94, 3) := by decide +kernel
theorem d_M_layShort_492 : decode b_M_layShort 492 = .ok (.aload_n 0, 1) := by decide +kernel
theorem d_M_layShort_493 : decode b_M_layShort 493 = .ok (.iload_n 1, 1) := by decide +kernel
theorem d_M_layShort_494 : decode b_M_layShort 494 = .ok (.iload_n 1, 1) := by decide +kernel
theorem d_M_layShort_495 : decode b_M_layShort 495 = .ok (.bipush 65, 2) := by decide +kernel
theorem d_M_layShort_497 : decode b_M_layShort 497 = .ok (.if_icmp .ne 8, 3) := by decide +kernel
theorem d_M_layShort_500 : decode b_M_layShort 500 = .ok (.bipush 6, 2) := by decide +kernel
theorem d_M_layShort_502 : decode b_M_layShort 502 = .ok (.goto 5, 3) := by decide +kernel
theorem d_M_layShort_505 : decode b_M_layShort 505 = .ok (.bipush 7, 2) := by decide +kernel
theorem d_M_layShort_507 : decode b_M_layShort 507 = .ok (.iconst 1, 1) := by decide +kernel
theorem d_M_layShort_508 : decode b_M_layShort 508 = .ok (.invokevirtual 86, 3) := by decide +kernel
theorem d_M_layShort_511 : decode b_M_layShort 511 = .ok (.aload_n 0, 1) := by decide +kernel
theorem d_M_layShort_512 : decode b_M_layShort 512 = .ok (.iload_n 1, 1) := by decide +kernel
theorem d_M_layShort_513 : decode b_M_layShort 513 = .ok (.bipush 12, 2) := by decide +kernel
theorem d_M_layShort_515 : decode b_M_layShort 515 = .ok (.bipush 8, 2) := by decide +kernel
theorem d_M_layShort_517 : decode b_M_layShort 517 = .ok (.invokevirtual 90, 3) := by decide +kernel
theorem d_M_layShort_520 : decode b_M_layShort 520 = .ok (.aload_n 0, 1) := by decide +kernel
theorem d_M_layShort_521 : decode b_M_layShort 521 = .ok (.iload_n 1, 1) := by decide +kernel
theorem d_M_layShort_522 : decode b_M_layShort 522 = .ok (.bipush 11, 2) := by decide +kernel
theorem d_M_layShort_524 : decode b_M_layShort 524 = .ok (.bipush 10, 2) := by decide +kernel
theorem d_M_layShort_526 : decode b_M_layShort 526 = .ok (.sipush 400, 3) := by decide +kernel
theorem d_M_layShort_529 : decode b_M_layShort 529 = .ok (.iconst 4, 1) := by decide +kernel
theorem d_M_layShort_530 : decode b_M_layShort 530 = .ok (.invokevirtual 66, 3) := by decide +kernel
theorem d_M_layShort_533 : decode b_M_layShort 533 = .ok (.aload_n 0, 1) := by decide +kernel
theorem d_M_layShort_534 : decode b_M_layShort 534 = .ok (.iload_n 1, 1) := by decide +kernel
theorem d_M_layShort_535 : decode b_M_layShort 535 = .ok (.bipush 9, 2) := by decide +kernel
theorem d_M_layShort_537 : decode b_M_layShort 537 = .ok (.bipush 7, 2) := by decide +kernel
theorem d_M_layShort_539 : decode b_M_layShort 539 = .ok (.sipush 600, 3) := by decide +kernel
theorem d_M_layShort_542 : decode b_M_layShort 542 = .ok (.iconst 2, 1) := by decide +kernel
theorem d_M_layShort_543 : decode b_M_layShort 543 = .ok (.invokevirtual 66, 3) := by decide +kernel
theorem d_M_layShort_546 : decode b_M_layShort 546 = .ok (.aload_n 0, 1) := by decide +kernel
theorem d_M_layShort_547 : decode b_M_layShort 547 = .ok (.iload_n 1, 1) := by decide +kernel
theorem d_M_layShort_548 : decode b_M_layShort 548 = .ok (.bipush 6, 2) := by decide +kernel
theorem d_M_layShort_550 : decode b_M_layShort 550 = .ok (.iconst 5, 1) := by decide +kernel
theorem d_M_layShort_551 : decode b_M_layShort 551 = .ok (.sipush 400, 3) := by decide +kernel
theorem d_M_layShort_554 : decode b_M_layShort 554 = .ok (.bipush 7, 2) := by decide +kernel
theorem d_M_layShort_556 : decode b_M_layShort 556 = .ok (.invokevirtual 66, 3) := by decide +kernel
theorem d_M_layShort_559 : decode b_M_layShort 559 = .ok (.aload_n 0, 1) := by decide +kernel
theorem d_M_layShort_560 : decode b_M_layShort 560 = .ok (.iload_n 1, 1) := by decide +kernel
theorem d_M_layShort_561 : decode b_M_layShort 561 = .ok (.iconst 4, 1) := by decide +kernel
theorem d_M_layShort_562 : decode b_M_layShort 562 = .ok (.iconst 3, 1) := by decide +kernel
theorem d_M_layShort_563 : decode b_M_layShort 563 = .ok (.sipush 400, 3) := by decide +kernel
theorem d_M_layShort_566 : decode b_M_layShort 566 = .ok (.iconst 2, 1) := by decide +kernel
theorem d_M_layShort_567 : decode b_M_layShort 567 = .ok (.invokevirtual 66, 3) := by decide +kernel
theorem d_M_layShort_570 : decode b_M_layShort 570 = .ok (.aload_n 0, 1) := by decide +kernel
theorem d_M_layShort_571 : decode b_M_layShort 571 = .ok (.iload_n 1, 1) := by decide +kernel
theorem d_M_layShort_572 : decode b_M_layShort 572 = .ok (.iconst 2, 1) := by decide +kernel
theorem d_M_layShort_573 : decode b_M_layShort 573 = .ok (.iconst 5, 1) := by decide +kernel
theorem d_M_layShort_574 : decode b_M_layShort 574 = .ok (.invokevirtual 90, 3) := by decide +kernel
theorem d_M_layShort_577 : decode b_M_layShort 577 = .ok (.iinc 1 1, 3) := by decide +kernel
theorem d_M_layShort_580 : decode b_M_layShort 580 = .ok (.goto (-94), 3) := by decide +kernel
theorem d_M_layShort_583 : decode b_M_layShort 583 = .ok (.aload_n 0, 1) := by decide +kernel
theorem d_M_layShort_584 : decode b_M_layShort 584 = .ok (.bipush 67, 2) := by decide +kernel
theorem d_M_layShort_586 : decode b_M_layShort 586 = .ok (.iconst 0, 1) := by decide +kernel
theorem d_M_layShort_587 : decode b_M_layShort 587 = .ok (.iconst 2, 1) := by decide +kernel
theorem d_M_layShort_588 : decode b_M_layShort 588 = .ok (.invokevirtual 86, 3) := by decide +kernel
theorem d_M_layShort_591 : decode b_M_layShort 591 = .ok (.aload_n 0, 1) := by decide +kernel
theorem d_M_layShort_592 : decode b_M_layShort 592 = .ok (.bipush 67, 2) := by decide +kernel
theorem d_M_layShort_594 : decode b_M_layShort 594 = .ok (.bipush 11, 2) := by decide +kernel
theorem d_M_layShort_596 : decode b_M_layShort 596 = .ok (.bipush 7, 2) := by decide +kernel
theorem d_M_layShort_598 : decode b_M_layShort 598 = .ok (.bipush 100, 2) := by decide +kernel
theorem d_M_layShort_600 : decode b_M_layShort 600 = .ok (.iconst 4, 1) := by decide +kernel
theorem d_M_layShort_601 : decode b_M_layShort 601 = .ok (.invokevirtual 66, 3) := by decide +kernel
theorem d_M_layShort_604 : decode b_M_layShort 604 = .ok (.aload_n 0, 1) := by decide +kernel
theorem d_M_layShort_605 : decode b_M_layShort 605 = .ok (.bipush 67, 2) := by decide +kernel
theorem d_M_layShort_607 : decode b_M_layShort 607 = .ok (.bipush 6, 2) := by decide +kernel
theorem d_M_layShort_609 : decode b_M_layShort 609 = .ok (.iconst 2, 1) := by decide +kernel
theorem d_M_layShort_610 : decode b_M_layShort 610 = .ok (.sipush 400, 3) := by decide +kernel
theorem d_M_layShort_613 : decode b_M_layShort 613 = .ok (.iconst 4, 1) := by decide +kernel
theorem d_M_layShort_614 : decode b_M_layShort 614 = .ok (.invokevirtual 66, 3) := by decide +kernel
theorem d_M_layShort_617 : decode b_M_layShort 617 = .ok (.aload_n 0, 1) := by decide +kernel
theorem d_M_layShort_618 : decode b_M_layShort 618 = .ok (.bipush 68, 2) := by decide +kernel
theorem d_M_layShort_620 : decode b_M_layShort 620 = .ok (.iconst 2, 1) := by decide +kernel
theorem d_M_layShort_621 : decode b_M_layShort 621 = .ok (.iconst 2, 1) := by decide +kernel
theorem d_M_layShort_622 : decode b_M_layShort 622 = .ok (.invokevirtual 86, 3) := by decide +kernel
theorem d_M_layShort_625 : decode b_M_layShort 625 = .ok (.aload_n 0, 1) := by decide +kernel
theorem d_M_layShort_626 : decode b_M_layShort 626 = .ok (.bipush 68, 2) := by decide +kernel
theorem d_M_layShort_628 : decode b_M_layShort 628 = .ok (.bipush 12, 2) := by decide +kernel
theorem d_M_layShort_630 : decode b_M_layShort 630 = .ok (.iconst 5, 1) := by decide +kernel
theorem d_M_layShort_631 : decode b_M_layShort 631 = .ok (.invokevirtual 90, 3) := by decide +kernel
theorem d_M_layShort_634 : decode b_M_layShort 634 = .ok (.aload_n 0, 1) := by decide +kernel
theorem d_M_layShort_635 : decode b_M_layShort 635 = .ok (.bipush 68, 2) := by decide +kernel
theorem d_M_layShort_637 : decode b_M_layShort 637 = .ok (.bipush 11, 2) := by decide +kernel
theorem d_M_layShort_639 : decode b_M_layShort 639 = .ok (.bipush 7, 2) := by decide +kernel
theorem d_M_layShort_641 : decode b_M_layShort 641 = .ok (.bipush 100, 2) := by decide +kernel
theorem d_M_layShort_643 : decode b_M_layShort 643 = .ok (.iconst 4, 1) := by decide +kernel
theorem d_M_layShort_644 : decode b_M_layShort 644 = .ok (.invokevirtual 66, 3) := by decide +kernel
theorem d_M_layShort_647 : decode b_M_layShort 647 = .ok (.aload_n 0, 1) := by decide +kernel
theorem d_M_layShort_648 : decode b_M_layShort 648 = .ok (.bipush 68, 2) := by decide +kernel
theorem d_M_layShort_650 : decode b_M_layShort 650 = .ok (.bipush 6, 2) := by decide +kernel
theorem d_M_layShort_652 : decode b_M_layShort 652 = .ok (.iconst 4, 1) := by decide +kernel
theorem d_M_layShort_653 : decode b_M_layShort 653 = .ok (.sipush 400, 3) := by decide +kernel
theorem d_M_layShort_656 : decode b_M_layShort 656 = .ok (.iconst 4, 1) := by decide +kernel
theorem d_M_layShort_657 : decode b_M_layShort 657 = .ok (.invokevirtual 66, 3) := by decide +kernel
theorem d_M_layShort_660 : decode b_M_layShort 660 = .ok (.aload_n 0, 1) := by decide +kernel
theorem d_M_layShort_661 : decode b_M_layShort 661 = .ok (.bipush 68, 2) := by decide +kernel
theorem d_M_layShort_663 : decode b_M_layShort 663 = .ok (.iconst 3, 1) := by decide +kernel
theorem d_M_layShort_664 : decode b_M_layShort 664 = .ok (.iconst 2, 1) := by decide +kernel
theorem d_M_layShort_665 : decode b_M_layShort 665 = .ok (.sipush 400, 3) := by decide +kernel
theorem d_M_layShort_668 : decode b_M_layShort 668 = .ok (.bipush 7, 2) := by decide +kernel
theorem d_M_layShort_670 : decode b_M_layShort 670 = .ok (.invokevirtual 66, 3) := by decide +kernel
theorem d_M_layShort_673 : decode b_M_layShort 673 = .ok (.bipush 69, 2) := by decide +kernel
theorem d_M_layShort_675 : decode b_M_layShort 675 = .ok (.istore_n 1, 1) := by decide +kernel
theorem d_M_layShort_676 : decode b_M_layShort 676 = .ok (.iload_n 1, 1) := by decide +kernel
theorem d_M_layShort_677 : decode b_M_layShort 677 = .ok (.bipush 74, 2) := by decide +kernel
theorem d_M_layShort_679 : decode b_M_layShort 679 = .ok (.if_icmp .ge 108, 3) := by decide +kernel
theorem d_M_layShort_682 : decode b_M_layShort 682 = .ok (.aload_n 0, 1) := by decide +kernel
theorem d_M_layShort_683 : decode b_M_layShort 683 = .ok (.iload_n 1, 1) := by decide +kernel
theorem d_M_layShort_684 : decode b_M_layShort 684 = .ok (.iconst 4, 1) := by decide +kernel
theorem d_M_layShort_685 : decode b_M_layShort 685 = .ok (.iconst 2, 1) := by decide +kernel
theorem d_M_layShort_686 : decode b_M_layShort 686 = .ok (.invokevirtual 86, 3) := by decide +kernel
theorem d_M_layShort_689 : decode b_M_layShort 689 = .ok (.aload_n 0, 1) := by decide +kernel
theorem d_M_layShort_690 : decode b_M_layShort 690 = .ok (.iload_n 1, 1) := by decide +kernel
theorem d_M_layShort_691 : decode b_M_layShort 691 = .ok (.bipush 12, 2) := by decide +kernel
theorem d_M_layShort_693 : decode b_M_layShort 693 = .ok (.iconst 1, 1) := by decide +kernel
theorem d_M_layShort_694 : decode b_M_layShort 694 = .ok (.iload_n 1, 1) := by decide +kernel
theorem d_M_layShort_695 : decode b_M_layShort 695 = .ok (.bipush 70, 2) := by decide +kernel
theorem d_M_layShort_697 : decode b_M_layShort 697 = .ok (.if_icmp .le 7, 3) := by decide +kernel
theorem d_M_layShort_700 : decode b_M_layShort 700 = .ok (.iconst 1, 1) := by decide +kernel
theorem d_M_layShort_701 : decode b_M_layShort 701 = .ok (.goto 4, 3) := by decide +kernel
theorem d_M_layShort_704 : decode b_M_layShort 704 = .ok (.iconst 0, 1) := by decide +kernel
theorem d_M_layShort_705 : decode b_M_layShort 705 = .ok (.invokevirtual 58, 3) := by decide +kernel
theorem d_M_layShort_708 : decode b_M_layShort 708 = .ok (.iload_n 1, 1) := by decide +kernel
theorem d_M_layShort_709 : decode b_M_layShort 709 = .ok (.bipush 69, 2) := by decide +kernel
theorem d_M_layShort_711 : decode b_M_layShort 711 = .ok (.if_icmp .eq 9, 3) := by decide +kernel
theorem d_M_layShort_714 : decode b_M_layShort 714 = .ok (.iload_n 1, 1) := by decide +kernel
theorem d_M_layShort_715 : decode b_M_layShort 715 = .ok (.bipush 72, 2) := by decide +kernel
theorem d_M_layShort_717 : decode b_M_layShort 717 = .ok (.if_icmp .ne 16, 3) := by decide +kernel
theorem d_M_layShort_720 : decode b_M_layShort 720 = .ok (.aload_n 0, 1) := by decide +kernel
theorem d_M_layShort_721 : decode b_M_layShort 721 = .ok (.iload_n 1, 1) := by decide +kernel
theorem d_M_layShort_722 : decode b_M_layShort 722 = .ok (.bipush 11, 2) := by decide +kernel
theorem d_M_layShort_724 : decode b_M_layShort 724 = .ok (.bipush 7, 2) := by decide +kernel
theorem d_M_layShort_726 : decode b_M_layShort 726 = .ok (.sipush 200, 3) := by decide +kernel
theorem d_M_layShort_729 : decode b_M_layShort 729 = .ok (.iconst 4, 1) := by decide +kernel
theorem d_M_layShort_730 : decode b_M_layShort 730 = .ok (.invokevirtual 66, 3) := by decide +kernel
theorem d_M_layShort_733 : decode b_M_layShort 733 = .ok (.iload_n 1, 1) := by decide +kernel
theorem d_M_layShort_734 : decode b_M_layShort 734 = .ok (.bipush 70, 2) := by decide +kernel
theorem d_M_layShort_736 : decode b_M_layShort 736 = .ok (.if_icmp .eq 9, 3) := by decide +kernel
theorem d_M_layShort_739 : decode b_M_layShort 739 = .ok (.iload_n 1, 1) := by decide +kernel
theorem d_M_layShort_740 : decode b_M_layShort 740 = .ok (.bipush 73, 2) := by decide +kernel
theorem d_M_layShort_742 : decode b_M_layShort 742 = .ok (.if_icmp .ne 15, 3) := by decide +kernel
theorem d_M_layShort_745 : decode b_M_layShort 745 = .ok (.aload_n 0, 1) := by decide +kernel
theorem d_M_layShort_746 : decode b_M_layShort 746 = .ok (.iload_n 1, 1) := by decide +kernel
theorem d_M_layShort_747 : decode b_M_layShort 747 = .ok (.bipush 11, 2) := by decide +kernel
theorem d_M_layShort_749 : decode b_M_layShort 749 = .ok (.bipush 7, 2) := by decide +kernel
theorem d_M_layShort_751 : decode b_M_layShort 751 = .ok (.bipush 100, 2) := by decide +kernel
theorem d_M_layShort_753 : decode b_M_layShort 753 = .ok (.iconst 4, 1) := by decide +kernel
theorem d_M_layShort_754 : decode b_M_layShort 754 = .ok (.invokevirtual 66, 3) := by decide +kernel
theorem d_M_layShort_757 : decode b_M_layShort 757 = .ok (.iload_n 1, 1) := by decide +kernel
theorem d_M_layShort_758 : decode b_M_layShort 758 = .ok (.bipush 70, 2) := by decide +kernel
theorem d_M_layShort_760 : decode b_M_layShort 760 = .ok (.if_icmp .eq 9, 3) := by decide +kernel
theorem d_M_layShort_763 : decode b_M_layShort 763 = .ok (.iload_n 1, 1) := by decide +kernel
theorem d_M_layShort_764 : decode b_M_layShort 764 = .ok (.bipush 73, 2) := by decide +kernel
theorem d_M_layShort_766 : decode b_M_layShort 766 = .ok (.if_icmp .ne 15, 3) := by decide +kernel
theorem d_M_layShort_769 : decode b_M_layShort 769 = .ok (.aload_n 0, 1) := by decide +kernel
theorem d_M_layShort_770 : decode b_M_layShort 770 = .ok (.iload_n 1, 1) := by decide +kernel
theorem d_M_layShort_771 : decode b_M_layShort 771 = .ok (.bipush 6, 2) := by decide +kernel
theorem d_M_layShort_773 : decode b_M_layShort 773 = .ok (.iconst 2, 1) := by decide +kernel
theorem d_M_layShort_774 : decode b_M_layShort 774 = .ok (.sipush 300, 3) := by decide +kernel
theorem d_M_layShort_777 : decode b_M_layShort 777 = .ok (.iconst 4, 1) := by decide +kernel
theorem d_M_layShort_778 : decode b_M_layShort 778 = .ok (.invokevirtual 66, 3) := by decide +kernel
theorem d_M_layShort_781 : decode b_M_layShort 781 = .ok (.iinc 1 1, 3) := by decide +kernel
theorem d_M_layShort_784 : decode b_M_layShort 784 = .ok (.goto (-108), 3) := by decide +kernel
theorem d_M_layShort_787 : decode b_M_layShort 787 = .ok (.aload_n 0, 1) := by decide +kernel
theorem d_M_layShort_788 : decode b_M_layShort 788 = .ok (.bipush 74, 2) := by decide +kernel
theorem d_M_layShort_790 : decode b_M_layShort 790 = .ok (.bipush 6, 2) := by decide +kernel
theorem d_M_layShort_792 : decode b_M_layShort 792 = .ok (.iconst 2, 1) := by decide +kernel
theorem d_M_layShort_793 : decode b_M_layShort 793 = .ok (.invokevirtual 86, 3) := by decide +kernel
theorem d_M_layShort_796 : decode b_M_layShort 796 = .ok (.aload_n 0, 1) := by decide +kernel
theorem d_M_layShort_797 : decode b_M_layShort 797 = .ok (.bipush 74, 2) := by decide +kernel
theorem d_M_layShort_799 : decode b_M_layShort 799 = .ok (.bipush 12, 2) := by decide +kernel
theorem d_M_layShort_801 : decode b_M_layShort 801 = .ok (.bipush 9, 2) := by decide +kernel
theorem d_M_layShort_803 : decode b_M_layShort 803 = .ok (.sipush 400, 3) := by decide +kernel
theorem d_M_layShort_806 : decode b_M_layShort 806 = .ok (.iconst 5, 1) := by decide +kernel
theorem d_M_layShort_807 : decode b_M_layShort 807 = .ok (.invokevirtual 66, 3) := by decide +kernel
theorem d_M_layShort_810 : decode b_M_layShort 810 = .ok (.aload_n 0, 1) := by decide +kernel
theorem d_M_layShort_811 : decode b_M_layShort 811 = .ok (.bipush 74, 2) := by decide +kernel
theorem d_M_layShort_813 : decode b_M_layShort 813 = .ok (.bipush 8, 2) := by decide +kernel
theorem d_M_layShort_815 : decode b_M_layShort 815 = .ok (.bipush 7, 2) := by decide +kernel
theorem d_M_layShort_817 : decode b_M_layShort 817 = .ok (.sipush 400, 3) := by decide +kernel
theorem d_M_layShort_820 : decode b_M_layShort 820 = .ok (.bipush 7, 2) := by decide +kernel
theorem d_M_layShort_822 : decode b_M_layShort 822 = .ok (.invokevirtual 66, 3) := by decide +kernel
theorem d_M_layShort_825 : decode b_M_layShort 825 = .ok (.aload_n 0, 1) := by decide +kernel
theorem d_M_layShort_826 : decode b_M_layShort 826 = .ok (.bipush 74, 2) := by decide +kernel
theorem d_M_layShort_828 : decode b_M_layShort 828 = .ok (.bipush 6, 2) := by decide +kernel
theorem d_M_layShort_830 : decode b_M_layShort 830 = .ok (.iconst 2, 1) := by decide +kernel
theorem d_M_layShort_831 : decode b_M_layShort 831 = .ok (.sipush 300, 3) := by decide +kernel
theorem d_M_layShort_834 : decode b_M_layShort 834 = .ok (.iconst 4, 1) := by decide +kernel
theorem d_M_layShort_835 : decode b_M_layShort 835 = .ok (.invokevirtual 66, 3) := by decide +kernel
theorem d_M_layShort_838 : decode b_M_layShort 838 = .ok (.return_, 1) := by decide +kernel
theorem d_M_layJump_0 : decode b_M_layJump 0 = .ok (.aload_n 0, 1) := by decide +kernel
theorem d_M_layJump_1 : decode b_M_layJump 1 = .ok (.iload_n 1, 1) := by decide +kernel
theorem d_M_layJump_2 : decode b_M_layJump 2 = .ok (.iload_n 2, 1) := by decide +kernel
theorem d_M_layJump_3 : decode b_M_layJump 3 = .ok (.iconst 1, 1) := by decide +kernel
theorem d_M_layJump_4 : decode b_M_layJump 4 = .ok (.invokevirtual 86, 3) := by decide +kernel
theorem d_M_layJump_7 : decode b_M_layJump 7 = .ok (.aload_n 0, 1) := by decide +kernel
theorem d_M_layJump_8 : decode b_M_layJump 8 = .ok (.iload_n 1, 1) := by decide +kernel
theorem d_M_layJump_9 : decode b_M_layJump 9 = .ok (.bipush 12, 2) := by decide +kernel
theorem d_M_layJump_11 : decode b_M_layJump 11 = .ok (.bipush 11, 2) := by decide +kernel
theorem d_M_layJump_13 : decode b_M_layJump 13 = .ok (.invokevirtual 90, 3) := by decide +kernel
theorem d_M_layJump_16 : decode b_M_layJump 16 = .ok (.aload_n 0, 1) := by decide +kernel
theorem d_M_layJump_17 : decode b_M_layJump 17 = .ok (.iload_n 1, 1) := by decide +kernel
theorem d_M_layJump_18 : decode b_M_layJump 18 = .ok (.bipush 11, 2) := by decide +kernel
theorem d_M_layJump_20 : decode b_M_layJump 20 = .ok (.iconst 4, 1) := by decide +kernel
theorem d_M_layJump_21 : decode b_M_layJump 21 = .ok (.invokevirtual 90, 3) := by decide +kernel
theorem d_M_layJump_24 : decode b_M_layJump 24 = .ok (.aload_n 0, 1) := by decide +kernel
theorem d_M_layJump_25 : decode b_M_layJump 25 = .ok (.iload_n 1, 1) := by decide +kernel
theorem d_M_layJump_26 : decode b_M_layJump 26 = .ok (.bipush 10, 2) := by decide +kernel
theorem d_M_layJump_28 : decode b_M_layJump 28 = .ok (.bipush 9, 2) := by decide +kernel
theorem d_M_layJump_30 : decode b_M_layJump 30 = .ok (.sipush 400, 3) := by decide +kernel
theorem d_M_layJump_33 : decode b_M_layJump 33 = .ok (.bipush 9, 2) := by decide +kernel
theorem d_M_layJump_35 : decode b_M_layJump 35 = .ok (.invokevirtual 66, 3) := by decide +kernel
theorem d_M_layJump_38 : decode b_M_layJump 38 = .ok (.aload_n 0, 1) := by decide +kernel
theorem d_M_layJump_39 : decode b_M_layJump 39 = .ok (.iload_n 1, 1) := by decide +kernel
theorem d_M_layJump_40 : decode b_M_layJump 40 = .ok (.bipush 8, 2) := by decide +kernel
theorem d_M_layJump_42 : decode b_M_layJump 42 = .ok (.bipush 10, 2) := by decide +kernel
theorem d_M_layJump_44 : decode b_M_layJump 44 = .ok (.invokevirtual 90, 3) := by decide +kernel
theorem d_M_layJump_47 : decode b_M_layJump 47 = .ok (.aload_n 0, 1) := by decide +kernel
theorem d_M_layJump_48 : decode b_M_layJump 48 = .ok (.iload_n 1, 1) := by decide +kernel
theorem d_M_layJump_49 : decode b_M_layJump 49 = .ok (.bipush 7, 2) := by decide +kernel
theorem d_M_layJump_51 : decode b_M_layJump 51 = .ok (.bipush 6, 2) := by decide +kernel
theorem d_M_layJump_53 : decode b_M_layJump 53 = .ok (.invokevirtual 90, 3) := by decide +kernel
theorem d_M_layJump_56 : decode b_M_layJump 56 = .ok (.aload_n 0, 1) := by decide +kernel
theorem d_M_layJump_57 : decode b_M_layJump 57 = .ok (.iload_n 1, 1) := by decide +kernel
theorem d_M_layJump_58 : decode b_M_layJump 58 = .ok (.bipush 6, 2) := by decide +kernel
theorem d_M_layJump_60 : decode b_M_layJump 60 = .ok (.bipush 7, 2) := by decide +kernel
theorem d_M_layJump_62 : decode b_M_layJump 62 = .ok (.invokevirtual 90, 3) := by decide +kernel
theorem d_M_layJump_65 : decode b_M_layJump 65 = .ok (.aload_n 0, 1) := by decide +kernel
theorem d_M_layJump_66 : decode b_M_layJump 66 = .ok (.iload_n 1, 1) := by decide +kernel
theorem d_M_layJump_67 : decode b_M_layJump 67 = .ok (.iconst 5, 1) := by decide +kernel
theorem d_M_layJump_68 : decode b_M_layJump 68 = .ok (.iconst 3, 1) := by decide +kernel
theorem d_M_layJump_69 : decode b_M_layJump 69 = .ok (.sipush 400, 3) := by decide +kernel
theorem d_M_layJump_72 : decode b_M_layJump 72 = .ok (.iconst 3, 1) := by decide +kernel
theorem d_M_layJump_73 : decode b_M_layJump 73 = .ok (.invokevirtual 66, 3) := by decide +kernel
theorem d_M_layJump_76 : decode b_M_layJump 76 = .ok (.aload_n 0, 1) := by decide +kernel
theorem d_M_layJump_77 : decode b_M_layJump 77 = .ok (.iload_n 1, 1) := by decide +kernel
theorem d_M_layJump_78 : decode b_M_layJump 78 = .ok (.iconst 2, 1) := by decide +kernel
theorem d_M_layJump_79 : decode b_M_layJump 79 = .ok (.iconst 5, 1) := by decide +kernel
theorem d_M_layJump_80 : decode b_M_layJump 80 = .ok (.invokevirtual 90, 3) := by decide +kernel
theorem d_M_layJump_83 : decode b_M_layJump 83 = .ok (.return_, 1) := by decide +kernel
theorem d_M_bitsOf_0 : decode b_M_bitsOf 0 = .ok (.iload_n 0, 1) := by decide +kernel
theorem d_M_bitsOf_1 : decode b_M_bitsOf 1 = .ok (.bipush 48, 2) := by decide +kernel
theorem d_M_bitsOf_3 : decode b_M_bitsOf 3 = .ok (.if_icmp .ge 8, 3) := by decide +kernel
theorem d_M_bitsOf_6 : decode b_M_bitsOf 6 = .ok (.bipush 32, 2) := by decide +kernel
theorem d_M_bitsOf_8 : decode b_M_bitsOf 8 = .ok (.goto 5, 3) := by decide +kernel
theorem d_M_bitsOf_11 : decode b_M_bitsOf 11 = .ok (.bipush 16, 2) := by decide +kernel
theorem d_M_bitsOf_13 : decode b_M_bitsOf 13 = .ok (.ireturn, 1) := by decide +kernel
theorem d_M_has_0 : decode b_M_has 0 = .ok (.bipush 32, 2) := by decide +kernel
theorem d_M_has_2 : decode b_M_has 2 = .ok (.iload_n 1, 1) := by decide +kernel
theorem d_M_has_3 : decode b_M_has 3 = .ok (.imul, 1) := by decide +kernel
theorem d_M_has_4 : decode b_M_has 4 = .ok (.istore_n 3, 1) := by decide +kernel
theorem d_M_has_5 : decode b_M_has 5 = .ok (.iload_n 3, 1) := by decide +kernel
theorem d_M_has_6 : decode b_M_has 6 = .ok (.bipush 32, 2) := by decide +kernel
theorem d_M_has_8 : decode b_M_has 8 = .ok (.iload_n 1, 1) := by decide +kernel
theorem d_M_has_9 : decode b_M_has 9 = .ok (.imul, 1) := by decide +kernel
theorem d_M_has_10 : decode b_M_has 10 = .ok (.iload_n 1, 1) := by decide +kernel
theorem d_M_has_11 : decode b_M_has 11 = .ok (.invokestatic 97, 3) := by decide +kernel
theorem d_M_has_14 : decode b_M_has 14 = .ok (.iadd, 1) := by decide +kernel
theorem d_M_has_15 : decode b_M_has 15 = .ok (.if_icmp .ge 53, 3) := by decide +kernel
theorem d_M_has_18 : decode b_M_has 18 = .ok (.aload_n 0, 1) := by decide +kernel
theorem d_M_has_19 : decode b_M_has 19 = .ok (.getfield 7, 3) := by decide +kernel
theorem d_M_has_22 : decode b_M_has 22 = .ok (.iload_n 3, 1) := by decide +kernel
theorem d_M_has_23 : decode b_M_has 23 = .ok (.iaload, 1) := by decide +kernel
theorem d_M_has_24 : decode b_M_has 24 = .ok (.bipush 100, 2) := by decide +kernel
theorem d_M_has_26 : decode b_M_has 26 = .ok (.idiv, 1) := by decide +kernel
theorem d_M_has_27 : decode b_M_has 27 = .ok (.iconst 1, 1) := by decide +kernel
theorem d_M_has_28 : decode b_M_has 28 = .ok (.isub, 1) := by decide +kernel
theorem d_M_has_29 : decode b_M_has 29 = .ok (.istore 4, 2) := by decide +kernel
theorem d_M_has_31 : decode b_M_has 31 = .ok (.aload_n 0, 1) := by decide +kernel
theorem d_M_has_32 : decode b_M_has 32 = .ok (.getfield 7, 3) := by decide +kernel
theorem d_M_has_35 : decode b_M_has 35 = .ok (.iload_n 3, 1) := by decide +kernel
theorem d_M_has_36 : decode b_M_has 36 = .ok (.iaload, 1) := by decide +kernel
theorem d_M_has_37 : decode b_M_has 37 = .ok (.iconst 1, 1) := by decide +kernel
theorem d_M_has_38 : decode b_M_has 38 = .ok (.if_icmp .le 24, 3) := by decide +kernel
theorem d_M_has_41 : decode b_M_has 41 = .ok (.iload 4, 2) := by decide +kernel
theorem d_M_has_43 : decode b_M_has 43 = .ok (.iconst 3, 1) := by decide +kernel
theorem d_M_has_44 : decode b_M_has 44 = .ok (.if_icmp .le 10, 3) := by decide +kernel
theorem d_M_has_47 : decode b_M_has 47 = .ok (.iload 4, 2) := by decide +kernel
theorem d_M_has_49 : decode b_M_has 49 = .ok (.iconst 4, 1) := by decide +kernel
theorem d_M_has_50 : decode b_M_has 50 = .ok (.isub, 1) := by decide +kernel
theorem d_M_has_51 : decode b_M_has 51 = .ok (.goto 5, 3) := by decide +kernel
theorem d_M_has_54 : decode b_M_has 54 = .ok (.iload 4, 2) := by decide +kernel
theorem d_M_has_56 : decode b_M_has 56 = .ok (.iload_n 2, 1) := by decide +kernel
theorem d_M_has_57 : decode b_M_has 57 = .ok (.if_icmp .ne 5, 3) := by decide +kernel
theorem d_M_has_60 : decode b_M_has 60 = .ok (.iconst 1, 1) := by decide +kernel
theorem d_M_has_61 : decode b_M_has 61 = .ok (.ireturn, 1) := by decide +kernel
theorem d_M_has_62 : decode b_M_has 62 = .ok (.iinc 3 1, 3) := by decide +kernel
theorem d_M_has_65 : decode b_M_has 65 = .ok (.goto (-60), 3) := by decide +kernel
theorem d_M_has_68 : decode b_M_has 68 = .ok (.iconst 0, 1) := by decide +kernel
theorem d_M_has_69 : decode b_M_has 69 = .ok (.ireturn, 1) := by decide +kernel
theorem d_M_isShortPart_0 : decode b_M_isShortPart 0 = .ok (.bipush 32, 2) := by decide +kernel
theorem d_M_isShortPart_2 : decode b_M_isShortPart 2 = .ok (.iload_n 1, 1) := by decide +kernel
theorem d_M_isShortPart_3 : decode b_M_isShortPart 3 = .ok (.imul, 1) := by decide +kernel
theorem d_M_isShortPart_4 : decode b_M_isShortPart 4 = .ok (.istore_n 3, 1) := by decide +kernel
theorem d_M_isShortPart_5 : decode b_M_isShortPart 5 = .ok (.iload_n 3, 1) := by decide +kernel
theorem d_M_isShortPart_6 : decode b_M_isShortPart 6 = .ok (.bipush 32, 2) := by decide +kernel
theorem d_M_isShortPart_8 : decode b_M_isShortPart 8 = .ok (.iload_n 1, 1) := by decide +kernel
theorem d_M_isShortPart_9 : decode b_M_isShortPart 9 = .ok (.imul, 1) := by decide +kernel
theorem d_M_isShortPart_10 : decode b_M_isShortPart 10 = .ok (.iload_n 1, 1) := by decide +kernel
theorem d_M_isShortPart_11 : decode b_M_isShortPart 11 = .ok (.invokestatic 97, 3) := by decide +kernel
theorem d_M_isShortPart_14 : decode b_M_isShortPart 14 = .ok (.iadd, 1) := by decide +kernel
theorem d_M_isShortPart_15 : decode b_M_isShortPart 15 = .ok (.if_icmp .ge 26, 3) := by decide +kernel
theorem d_M_isShortPart_18 : decode b_M_isShortPart 18 = .ok (.aload_n 0, 1) := by decide +kernel
theorem d_M_isShortPart_19 : decode b_M_isShortPart 19 = .ok (.getfield 7, 3) := by decide +kernel
theorem d_M_isShortPart_22 : decode b_M_isShortPart 22 = .ok (.iload_n 3, 1) := by decide +kernel
theorem d_M_isShortPart_23 : decode b_M_isShortPart 23 = .ok (.iaload, 1) := by decide +kernel
theorem d_M_isShortPart_24 : decode b_M_isShortPart 24 = .ok (.bipush 100, 2) := by decide +kernel
theorem d_M_isShortPart_26 : decode b_M_isShortPart 26 = .ok (.idiv, 1) := by decide +kernel
theorem d_M_isShortPart_27 : decode b_M_isShortPart 27 = .ok (.iconst 5, 1) := by decide +kernel
theorem d_M_isShortPart_28 : decode b_M_isShortPart 28 = .ok (.isub, 1) := by decide +kernel
theorem d_M_isShortPart_29 : decode b_M_isShortPart 29 = .ok (.iload_n 2, 1) := by decide +kernel
theorem d_M_isShortPart_30 : decode b_M_isShortPart 30 = .ok (.if_icmp .ne 5, 3) := by decide +kernel
theorem d_M_isShortPart_33 : decode b_M_isShortPart 33 = .ok (.iconst 1, 1) := by decide +kernel
theorem d_M_isShortPart_34 : decode b_M_isShortPart 34 = .ok (.ireturn, 1) := by decide +kernel
theorem d_M_isShortPart_35 : decode b_M_isShortPart 35 = .ok (.iinc 3 1, 3) := by decide +kernel
theorem d_M_isShortPart_38 : decode b_M_isShortPart 38 = .ok (.goto (-33), 3) := by decide +kernel
theorem d_M_isShortPart_41 : decode b_M_isShortPart 41 = .ok (.iconst 0, 1) := by decide +kernel
theorem d_M_isShortPart_42 : decode b_M_isShortPart 42 = .ok (.ireturn, 1) := by decide +kernel
theorem d_M_isRegister_0 : decode b_M_isRegister 0 = .ok (.aload_n 0, 1) := by decide +kernel
theorem d_M_isRegister_1 : decode b_M_isRegister 1 = .ok (.iload_n 1, 1) := by decide +kernel
theorem d_M_isRegister_2 : decode b_M_isRegister 2 = .ok (.iload_n 2, 1) := by decide +kernel
theorem d_M_isRegister_3 : decode b_M_isRegister 3 = .ok (.invokevirtual 100, 3) := by decide +kernel
theorem d_M_isRegister_6 : decode b_M_isRegister 6 = .ok (.ifCond .eq 21, 3) := by decide +kernel
theorem d_M_isRegister_9 : decode b_M_isRegister 9 = .ok (.iload_n 3, 1) := by decide +kernel
theorem d_M_isRegister_10 : decode b_M_isRegister 10 = .ok (.bipush 8, 2) := by decide +kernel
theorem d_M_isRegister_12 : decode b_M_isRegister 12 = .ok (.if_icmp .lt 13, 3) := by decide +kernel
theorem d_M_isRegister_15 : decode b_M_isRegister 15 = .ok (.iload_n 3, 1) := by decide +kernel
theorem d_M_isRegister_16 : decode b_M_isRegister 16 = .ok (.bipush 16, 2) := by decide +kernel
theorem d_M_isRegister_18 : decode b_M_isRegister 18 = .ok (.if_icmp .ge 7, 3) := by decide +kernel
theorem d_M_isRegister_21 : decode b_M_isRegister 21 = .ok (.iconst 1, 1) := by decide +kernel
theorem d_M_isRegister_22 : decode b_M_isRegister 22 = .ok (.goto 4, 3) := by decide +kernel
theorem d_M_isRegister_25 : decode b_M_isRegister 25 = .ok (.iconst 0, 1) := by decide +kernel
theorem d_M_isRegister_26 : decode b_M_isRegister 26 = .ok (.ireturn, 1) := by decide +kernel
theorem d_M_isRegister_27 : decode b_M_isRegister 27 = .ok (.iload_n 3, 1) := by decide +kernel
theorem d_M_isRegister_28 : decode b_M_isRegister 28 = .ok (.ifCond .lt 9, 3) := by decide +kernel
theorem d_M_isRegister_31 : decode b_M_isRegister 31 = .ok (.iload_n 3, 1) := by decide +kernel
theorem d_M_isRegister_32 : decode b_M_isRegister 32 = .ok (.bipush 31, 2) := by decide +kernel
theorem d_M_isRegister_34 : decode b_M_isRegister 34 = .ok (.if_icmp .le 5, 3) := by decide +kernel
theorem d_M_isRegister_37 : decode b_M_isRegister 37 = .ok (.iconst 0, 1) := by decide +kernel
theorem d_M_isRegister_38 : decode b_M_isRegister 38 = .ok (.ireturn, 1) := by decide +kernel
theorem d_M_isRegister_39 : decode b_M_isRegister 39 = .ok (.iload_n 1, 1) := by decide +kernel
theorem d_M_isRegister_40 : decode b_M_isRegister 40 = .ok (.bipush 48, 2) := by decide +kernel
theorem d_M_isRegister_42 : decode b_M_isRegister 42 = .ok (.if_icmp .lt 9, 3) := by decide +kernel
theorem d_M_isRegister_45 : decode b_M_isRegister 45 = .ok (.iload_n 1, 1) := by decide +kernel
theorem d_M_isRegister_46 : decode b_M_isRegister 46 = .ok (.bipush 74, 2) := by decide +kernel
theorem d_M_isRegister_48 : decode b_M_isRegister 48 = .ok (.if_icmp .ne 5, 3) := by decide +kernel
theorem d_M_isRegister_51 : decode b_M_isRegister 51 = .ok (.iconst 1, 1) := by decide +kernel
theorem d_M_isRegister_52 : decode b_M_isRegister 52 = .ok (.ireturn, 1) := by decide +kernel
theorem d_M_isRegister_53 : decode b_M_isRegister 53 = .ok (.iload_n 3, 1) := by decide +kernel
theorem d_M_isRegister_54 : decode b_M_isRegister 54 = .ok (.ifCond .eq 18, 3) := by decide +kernel
theorem d_M_isRegister_57 : decode b_M_isRegister 57 = .ok (.iload_n 1, 1) := by decide +kernel
theorem d_M_isRegister_58 : decode b_M_isRegister 58 = .ok (.bipush 56, 2) := by decide +kernel
theorem d_M_isRegister_60 : decode b_M_isRegister 60 = .ok (.if_icmp .ne 8, 3) := by decide +kernel
theorem d_M_isRegister_63 : decode b_M_isRegister 63 = .ok (.iload_n 3, 1) := by decide +kernel
theorem d_M_isRegister_64 : decode b_M_isRegister 64 = .ok (.iconst 2, 1) := by decide +kernel
theorem d_M_isRegister_65 : decode b_M_isRegister 65 = .ok (.if_icmp .eq 7, 3) := by decide +kernel
theorem d_M_isRegister_68 : decode b_M_isRegister 68 = .ok (.iconst 1, 1) := by decide +kernel
theorem d_M_isRegister_69 : decode b_M_isRegister 69 = .ok (.goto 4, 3) := by decide +kernel
theorem d_M_isRegister_72 : decode b_M_isRegister 72 = .ok (.iconst 0, 1) := by decide +kernel
theorem d_M_isRegister_73 : decode b_M_isRegister 73 = .ok (.ireturn, 1) := by decide +kernel
theorem d_M_isStep_0 : decode b_M_isStep 0 = .ok (.lload_n 0, 1) := by decide +kernel
theorem d_M_isStep_1 : decode b_M_isStep 1 = .ok (.lload_n 2, 1) := by decide +kernel
theorem d_M_isStep_2 : decode b_M_isStep 2 = .ok (.lcmp, 1) := by decide +kernel
theorem d_M_isStep_3 : decode b_M_isStep 3 = .ok (.ifCond .lt 23, 3) := by decide +kernel
theorem d_M_isStep_6 : decode b_M_isStep 6 = .ok (.lload_n 0, 1) := by decide +kernel
theorem d_M_isStep_7 : decode b_M_isStep 7 = .ok (.lload 4, 2) := by decide +kernel
theorem d_M_isStep_9 : decode b_M_isStep 9 = .ok (.lcmp, 1) := by decide +kernel
theorem d_M_isStep_10 : decode b_M_isStep 10 = .ok (.ifCond .gt 16, 3) := by decide +kernel
theorem d_M_isStep_13 : decode b_M_isStep 13 = .ok (.lload_n 0, 1) := by decide +kernel
theorem d_M_isStep_14 : decode b_M_isStep 14 = .ok (.lload 6, 2) := by decide +kernel
theorem d_M_isStep_16 : decode b_M_isStep 16 = .ok (.lrem, 1) := by decide +kernel
theorem d_M_isStep_17 : decode b_M_isStep 17 = .ok (.lconst 0, 1) := by decide +kernel
theorem d_M_isStep_18 : decode b_M_isStep 18 = .ok (.lcmp, 1) := by decide +kernel
theorem d_M_isStep_19 : decode b_M_isStep 19 = .ok (.ifCond .ne 7, 3) := by decide +kernel
theorem d_M_isStep_22 : decode b_M_isStep 22 = .ok (.iconst 1, 1) := by decide +kernel
theorem d_M_isStep_23 : decode b_M_isStep 23 = .ok (.goto 4, 3) := by decide +kernel
theorem d_M_isStep_26 : decode b_M_isStep 26 = .ok (.iconst 0, 1) := by decide +kernel
theorem d_M_isStep_27 : decode b_M_isStep 27 = .ok (.ireturn, 1) := by decide +kernel
theorem d_M_isImmediate_0 : decode b_M_isImmediate 0 = .ok (.iload_n 0, 1) := by decide +kernel
theorem d_M_isImmediate_1 : decode b_M_isImmediate 1 = .ok (.iconst 2, 1) := by decide +kernel
theorem d_M_isImmediate_2 : decode b_M_isImmediate 2 = .ok (.if_icmp .ge 13, 3) := by decide +kernel
theorem d_M_isImmediate_5 : decode b_M_isImmediate 5 = .ok (.lload_n 1, 1) := by decide +kernel
theorem d_M_isImmediate_6 : decode b_M_isImmediate 6 = .ok (.lconst 0, 1) := by decide +kernel
theorem d_M_isImmediate_7 : decode b_M_isImmediate 7 = .ok (.ldc2_w 104, 3) := by decide +kernel
theorem d_M_isImmediate_10 : decode b_M_isImmediate 10 = .ok (.lconst 1, 1) := by decide +kernel
theorem d_M_isImmediate_11 : decode b_M_isImmediate 11 = .ok (.invokestatic 106, 3) := by decide +kernel
theorem d_M_isImmediate_14 : decode b_M_isImmediate 14 = .ok (.ireturn, 1) := by decide +kernel
theorem d_M_isImmediate_15 : decode b_M_isImmediate 15 = .ok (.iload_n 0, 1) := by decide +kernel
theorem d_M_isImmediate_16 : decode b_M_isImmediate 16 = .ok (.iconst 2, 1) := by decide +kernel
theorem d_M_isImmediate_17 : decode b_M_isImmediate 17 = .ok (.if_icmp .ne 17, 3) := by decide +kernel
theorem d_M_isImmediate_20 : decode b_M_isImmediate 20 = .ok (.lload_n 1, 1) := by decide +kernel
theorem d_M_isImmediate_21 : decode b_M_isImmediate 21 = .ok (.ldc2_w 110, 3) := by decide +kernel
theorem d_M_isImmediate_24 : decode b_M_isImmediate 24 = .ok (.ldc2_w 112, 3) := by decide +kernel
theorem d_M_isImmediate_27 : decode b_M_isImmediate 27 = .ok (.ldc2_w 114, 3) := by decide +kernel
theorem d_M_isImmediate_30 : decode b_M_isImmediate 30 = .ok (.invokestatic 106, 3) := by decide +kernel
theorem d_M_isImmediate_33 : decode b_M_isImmediate 33 = .ok (.ireturn, 1) := by decide +kernel
theorem d_M_isImmediate_34 : decode b_M_isImmediate 34 = .ok (.iload_n 0, 1) := by decide +kernel
theorem d_M_isImmediate_35 : decode b_M_isImmediate 35 = .ok (.invokestatic 73, 3) := by decide +kernel
theorem d_M_isImmediate_38 : decode b_M_isImmediate 38 = .ok (.ifCond .eq 17, 3) := by decide +kernel
theorem d_M_isImmediate_41 : decode b_M_isImmediate 41 = .ok (.lload_n 1, 1) := by decide +kernel
theorem d_M_isImmediate_42 : decode b_M_isImmediate 42 = .ok (.ldc2_w 116, 3) := by decide +kernel
theorem d_M_isImmediate_45 : decode b_M_isImmediate 45 = .ok (.ldc2_w 118, 3) := by decide +kernel
theorem d_M_isImmediate_48 : decode b_M_isImmediate 48 = .ok (.ldc2_w 114, 3) := by decide +kernel
theorem d_M_isImmediate_51 : decode b_M_isImmediate 51 = .ok (.invokestatic 106, 3) := by decide +kernel
theorem d_M_isImmediate_54 : decode b_M_isImmediate 54 = .ok (.ireturn, 1) := by decide +kernel
theorem d_M_isImmediate_55 : decode b_M_isImmediate 55 = .ok (.iload_n 0, 1) := by decide +kernel
theorem d_M_isImmediate_56 : decode b_M_isImmediate 56 = .ok (.invokestatic 83, 3) := by decide +kernel
theorem d_M_isImmediate_59 : decode b_M_isImmediate 59 = .ok (.ifCond .eq 13, 3) := by decide +kernel
theorem d_M_isImmediate_62 : decode b_M_isImmediate 62 = .ok (.lload_n 1, 1) := by decide +kernel
theorem d_M_isImmediate_63 : decode b_M_isImmediate 63 = .ok (.lconst 0, 1) := by decide +kernel
theorem d_M_isImmediate_64 : decode b_M_isImmediate 64 = .ok (.ldc2_w 120, 3) := by decide +kernel
theorem d_M_isImmediate_67 : decode b_M_isImmediate 67 = .ok (.lconst 1, 1) := by decide +kernel
theorem d_M_isImmediate_68 : decode b_M_isImmediate 68 = .ok (.invokestatic 106, 3) := by decide +kernel
theorem d_M_isImmediate_71 : decode b_M_isImmediate 71 = .ok (.ireturn, 1) := by decide +kernel
theorem d_M_isImmediate_72 : decode b_M_isImmediate 72 = .ok (.iload_n 0, 1) := by decide +kernel
theorem d_M_isImmediate_73 : decode b_M_isImmediate 73 = .ok (.bipush 48, 2) := by decide +kernel
theorem d_M_isImmediate_75 : decode b_M_isImmediate 75 = .ok (.if_icmp .ge 15, 3) := by decide +kernel
theorem d_M_isImmediate_78 : decode b_M_isImmediate 78 = .ok (.lload_n 1, 1) := by decide +kernel
theorem d_M_isImmediate_79 : decode b_M_isImmediate 79 = .ok (.ldc2_w 122, 3) := by decide +kernel
theorem d_M_isImmediate_82 : decode b_M_isImmediate 82 = .ok (.ldc2_w 124, 3) := by decide +kernel
theorem d_M_isImmediate_85 : decode b_M_isImmediate 85 = .ok (.lconst 1, 1) := by decide +kernel
theorem d_M_isImmediate_86 : decode b_M_isImmediate 86 = .ok (.invokestatic 106, 3) := by decide +kernel
theorem d_M_isImmediate_89 : decode b_M_isImmediate 89 = .ok (.ireturn, 1) := by decide +kernel
theorem d_M_isImmediate_90 : decode b_M_isImmediate 90 = .ok (.iload_n 0, 1) := by decide +kernel
theorem d_M_isImmediate_91 : decode b_M_isImmediate 91 = .ok (.tableswitch 255 48 67 #[93, 107, 107, 255, 119, 145, 159, 171, 199, 231, 231, 159, 255, 255, 255, 255, 145, 241, 241, 231], 93) := by decide +kernel
theorem d_M_isImmediate_184 : decode b_M_isImmediate 184 = .ok (.lload_n 1, 1) := by decide +kernel
theorem d_M_isImmediate_185 : decode b_M_isImmediate 185 = .ok (.ldc2_w 126, 3) := by decide +kernel
theorem d_M_isImmediate_188 : decode b_M_isImmediate 188 = .ok (.ldc2_w 128, 3) := by decide +kernel
theorem d_M_isImmediate_191 : decode b_M_isImmediate 191 = .ok (.ldc2_w 126, 3) := by decide +kernel
theorem d_M_isImmediate_194 : decode b_M_isImmediate 194 = .ok (.invokestatic 106, 3) := by decide +kernel
theorem d_M_isImmediate_197 : decode b_M_isImmediate 197 = .ok (.ireturn, 1) := by decide +kernel
theorem d_M_isImmediate_198 : decode b_M_isImmediate 198 = .ok (.lload_n 1, 1) := by decide +kernel
theorem d_M_isImmediate_199 : decode b_M_isImmediate 199 = .ok (.lconst 0, 1) := by decide +kernel
theorem d_M_isImmediate_200 : decode b_M_isImmediate 200 = .ok (.ldc2_w 130, 3) := by decide +kernel
theorem d_M_isImmediate_203 : decode b_M_isImmediate 203 = .ok (.ldc2_w 126, 3) := by decide +kernel
theorem d_M_isImmediate_206 : decode b_M_isImmediate 206 = .ok (.invokestatic 106, 3) := by decide +kernel
theorem d_M_isImmediate_209 : decode b_M_isImmediate 209 = .ok (.ireturn, 1) := by decide +kernel
theorem d_M_isImmediate_210 : decode b_M_isImmediate 210 = .ok (.lload_n 1, 1) := by decide +kernel
theorem d_M_isImmediate_211 : decode b_M_isImmediate 211 = .ok (.lconst 0, 1) := by decide +kernel
theorem d_M_isImmediate_212 : decode b_M_isImmediate 212 = .ok (.lcmp, 1) := by decide +kernel
theorem d_M_isImmediate_213 : decode b_M_isImmediate 213 = .ok (.ifCond .eq 21, 3) := by decide +kernel
theorem d_M_isImmediate_216 : decode b_M_isImmediate 216 = .ok (.lload_n 1, 1) := by decide +kernel
theorem d_M_isImmediate_217 : decode b_M_isImmediate 217 = .ok (.ldc2_w 132, 3) := by decide +kernel
theorem d_M_isImmediate_220 : decode b_M_isImmediate 220 = .ok (.ldc2_w 120, 3) := by decide +kernel
theorem d_M_isImmediate_223 : decode b_M_isImmediate 223 = .ok (.lconst 1, 1) := by decide +kernel
theorem d_M_isImmediate_224 : decode b_M_isImmediate 224 = .ok (.invokestatic 106, 3) := by decide +kernel
theorem d_M_isImmediate_227 : decode b_M_isImmediate 227 = .ok (.ifCond .eq 7, 3) := by decide +kernel
theorem d_M_isImmediate_230 : decode b_M_isImmediate 230 = .ok (.iconst 1, 1) := by decide +kernel
theorem d_M_isImmediate_231 : decode b_M_isImmediate 231 = .ok (.goto 4, 3) := by decide +kernel
theorem d_M_isImmediate_234 : decode b_M_isImmediate 234 = .ok (.iconst 0, 1) := by decide +kernel
theorem d_M_isImmediate_235 : decode b_M_isImmediate 235 = .ok (.ireturn, 1) := by decide +kernel
theorem d_M_isImmediate_236 : decode b_M_isImmediate 236 = .ok (.lload_n 1, 1) := by decide +kernel
theorem d_M_isImmediate_237 : decode b_M_isImmediate 237 = .ok (.ldc2_w 122, 3) := by decide +kernel
theorem d_M_isImmediate_240 : decode b_M_isImmediate 240 = .ok (.ldc2_w 134, 3) := by decide +kernel
theorem d_M_isImmediate_243 : decode b_M_isImmediate 243 = .ok (.ldc2_w 114, 3) := by decide +kernel
theorem d_M_isImmediate_246 : decode b_M_isImmediate 246 = .ok (.invokestatic 106, 3) := by decide +kernel
theorem d_M_isImmediate_249 : decode b_M_isImmediate 249 = .ok (.ireturn, 1) := by decide +kernel
theorem d_M_isImmediate_250 : decode b_M_isImmediate 250 = .ok (.lload_n 1, 1) := by decide +kernel
theorem d_M_isImmediate_251 : decode b_M_isImmediate 251 = .ok (.ldc2_w 132, 3) := by decide +kernel
theorem d_M_isImmediate_254 : decode b_M_isImmediate 254 = .ok (.ldc2_w 120, 3) := by decide +kernel
theorem d_M_isImmediate_257 : decode b_M_isImmediate 257 = .ok (.lconst 1, 1) := by decide +kernel
theorem d_M_isImmediate_258 : decode b_M_isImmediate 258 = .ok (.invokestatic 106, 3) := by decide +kernel
theorem d_M_isImmediate_261 : decode b_M_isImmediate 261 = .ok (.ireturn, 1) := by decide +kernel
theorem d_M_isImmediate_262 : decode b_M_isImmediate 262 = .ok (.lload_n 1, 1) := by decide +kernel
theorem d_M_isImmediate_263 : decode b_M_isImmediate 263 = .ok (.lconst 0, 1) := by decide +kernel
theorem d_M_isImmediate_264 : decode b_M_isImmediate 264 = .ok (.lcmp, 1) := by decide +kernel
theorem d_M_isImmediate_265 : decode b_M_isImmediate 265 = .ok (.ifCond .eq 23, 3) := by decide +kernel
theorem d_M_isImmediate_268 : decode b_M_isImmediate 268 = .ok (.lload_n 1, 1) := by decide +kernel
theorem d_M_isImmediate_269 : decode b_M_isImmediate 269 = .ok (.ldc2_w 136, 3) := by decide +kernel
theorem d_M_isImmediate_272 : decode b_M_isImmediate 272 = .ok (.ldc2_w 138, 3) := by decide +kernel
theorem d_M_isImmediate_275 : decode b_M_isImmediate 275 = .ok (.ldc2_w 140, 3) := by decide +kernel
theorem d_M_isImmediate_278 : decode b_M_isImmediate 278 = .ok (.invokestatic 106, 3) := by decide +kernel
theorem d_M_isImmediate_281 : decode b_M_isImmediate 281 = .ok (.ifCond .eq 7, 3) := by decide +kernel
theorem d_M_isImmediate_284 : decode b_M_isImmediate 284 = .ok (.iconst 1, 1) := by decide +kernel
theorem d_M_isImmediate_285 : decode b_M_isImmediate 285 = .ok (.goto 4, 3) := by decide +kernel
theorem d_M_isImmediate_288 : decode b_M_isImmediate 288 = .ok (.iconst 0, 1) := by decide +kernel
theorem d_M_isImmediate_289 : decode b_M_isImmediate 289 = .ok (.ireturn, 1) := by decide +kernel
theorem d_M_isImmediate_290 : decode b_M_isImmediate 290 = .ok (.lload_n 1, 1) := by decide +kernel
theorem d_M_isImmediate_291 : decode b_M_isImmediate 291 = .ok (.lconst 1, 1) := by decide +kernel
theorem d_M_isImmediate_292 : decode b_M_isImmediate 292 = .ok (.ldc2_w 120, 3) := by decide +kernel
theorem d_M_isImmediate_295 : decode b_M_isImmediate 295 = .ok (.lconst 1, 1) := by decide +kernel
theorem d_M_isImmediate_296 : decode b_M_isImmediate 296 = .ok (.invokestatic 106, 3) := by decide +kernel
theorem d_M_isImmediate_299 : decode b_M_isImmediate 299 = .ok (.ifCond .ne 17, 3) := by decide +kernel
theorem d_M_isImmediate_302 : decode b_M_isImmediate 302 = .ok (.lload_n 1, 1) := by decide +kernel
theorem d_M_isImmediate_303 : decode b_M_isImmediate 303 = .ok (.ldc2_w 142, 3) := by decide +kernel
theorem d_M_isImmediate_306 : decode b_M_isImmediate 306 = .ok (.ldc2_w 104, 3) := by decide +kernel
theorem d_M_isImmediate_309 : decode b_M_isImmediate 309 = .ok (.lconst 1, 1) := by decide +kernel
theorem d_M_isImmediate_310 : decode b_M_isImmediate 310 = .ok (.invokestatic 106, 3) := by decide +kernel
theorem d_M_isImmediate_313 : decode b_M_isImmediate 313 = .ok (.ifCond .eq 7, 3) := by decide +kernel
theorem d_M_isImmediate_316 : decode b_M_isImmediate 316 = .ok (.iconst 1, 1) := by decide +kernel
theorem d_M_isImmediate_317 : decode b_M_isImmediate 317 = .ok (.goto 4, 3) := by decide +kernel
theorem d_M_isImmediate_320 : decode b_M_isImmediate 320 = .ok (.iconst 0, 1) := by decide +kernel
theorem d_M_isImmediate_321 : decode b_M_isImmediate 321 = .ok (.ireturn, 1) := by decide +kernel
theorem d_M_isImmediate_322 : decode b_M_isImmediate 322 = .ok (.lload_n 1, 1) := by decide +kernel
theorem d_M_isImmediate_323 : decode b_M_isImmediate 323 = .ok (.lconst 1, 1) := by decide +kernel
theorem d_M_isImmediate_324 : decode b_M_isImmediate 324 = .ok (.ldc2_w 120, 3) := by decide +kernel
theorem d_M_isImmediate_327 : decode b_M_isImmediate 327 = .ok (.lconst 1, 1) := by decide +kernel
theorem d_M_isImmediate_328 : decode b_M_isImmediate 328 = .ok (.invokestatic 106, 3) := by decide +kernel
theorem d_M_isImmediate_331 : decode b_M_isImmediate 331 = .ok (.ireturn, 1) := by decide +kernel
theorem d_M_isImmediate_332 : decode b_M_isImmediate 332 = .ok (.lload_n 1, 1) := by decide +kernel
theorem d_M_isImmediate_333 : decode b_M_isImmediate 333 = .ok (.ldc2_w 144, 3) := by decide +kernel
theorem d_M_isImmediate_336 : decode b_M_isImmediate 336 = .ok (.ldc2_w 146, 3) := by decide +kernel
theorem d_M_isImmediate_339 : decode b_M_isImmediate 339 = .ok (.ldc2_w 114, 3) := by decide +kernel
theorem d_M_isImmediate_342 : decode b_M_isImmediate 342 = .ok (.invokestatic 106, 3) := by decide +kernel
theorem d_M_isImmediate_345 : decode b_M_isImmediate 345 = .ok (.ireturn, 1) := by decide +kernel
theorem d_M_isImmediate_346 : decode b_M_isImmediate 346 = .ok (.lload_n 1, 1) := by decide +kernel
theorem d_M_isImmediate_347 : decode b_M_isImmediate 347 = .ok (.lconst 0, 1) := by decide +kernel
theorem d_M_isImmediate_348 : decode b_M_isImmediate 348 = .ok (.ldc2_w 148, 3) := by decide +kernel
theorem d_M_isImmediate_351 : decode b_M_isImmediate 351 = .ok (.ldc2_w 126, 3) := by decide +kernel
theorem d_M_isImmediate_354 : decode b_M_isImmediate 354 = .ok (.invokestatic 106, 3) := by decide +kernel
theorem d_M_isImmediate_357 : decode b_M_isImmediate 357 = .ok (.ireturn, 1) := by decide +kernel
theorem d_M_signOf_0 : decode b_M_signOf 0 = .ok (.iload_n 0, 1) := by decide +kernel
theorem d_M_signOf_1 : decode b_M_signOf 1 = .ok (.iconst 2, 1) := by decide +kernel
theorem d_M_signOf_2 : decode b_M_signOf 2 = .ok (.if_icmp .lt 10, 3) := by decide +kernel
theorem d_M_signOf_5 : decode b_M_signOf 5 = .ok (.iload_n 0, 1) := by decide +kernel
theorem d_M_signOf_6 : decode b_M_signOf 6 = .ok (.invokestatic 83, 3) := by decide +kernel
theorem d_M_signOf_9 : decode b_M_signOf 9 = .ok (.ifCond .eq 5, 3) := by decide +kernel
theorem d_M_signOf_12 : decode b_M_signOf 12 = .ok (.iconst (-1), 1) := by decide +kernel
theorem d_M_signOf_13 : decode b_M_signOf 13 = .ok (.ireturn, 1) := by decide +kernel
theorem d_M_signOf_14 : decode b_M_signOf 14 = .ok (.iload_n 0, 1) := by decide +kernel
theorem d_M_signOf_15 : decode b_M_signOf 15 = .ok (.iconst 2, 1) := by decide +kernel
theorem d_M_signOf_16 : decode b_M_signOf 16 = .ok (.if_icmp .ne 6, 3) := by decide +kernel
theorem d_M_signOf_19 : decode b_M_signOf 19 = .ok (.bipush 20, 2) := by decide +kernel
theorem d_M_signOf_21 : decode b_M_signOf 21 = .ok (.ireturn, 1) := by decide +kernel
theorem d_M_signOf_22 : decode b_M_signOf 22 = .ok (.iload_n 0, 1) := by decide +kernel
theorem d_M_signOf_23 : decode b_M_signOf 23 = .ok (.bipush 48, 2) := by decide +kernel
theorem d_M_signOf_25 : decode b_M_signOf 25 = .ok (.if_icmp .ge 18, 3) := by decide +kernel
theorem d_M_signOf_28 : decode b_M_signOf 28 = .ok (.iload_n 0, 1) := by decide +kernel
theorem d_M_signOf_29 : decode b_M_signOf 29 = .ok (.invokestatic 73, 3) := by decide +kernel
theorem d_M_signOf_32 : decode b_M_signOf 32 = .ok (.ifCond .eq 8, 3) := by decide +kernel
theorem d_M_signOf_35 : decode b_M_signOf 35 = .ok (.bipush 12, 2) := by decide +kernel
theorem d_M_signOf_37 : decode b_M_signOf 37 = .ok (.goto 5, 3) := by decide +kernel
theorem d_M_signOf_40 : decode b_M_signOf 40 = .ok (.bipush 11, 2) := by decide +kernel
theorem d_M_signOf_42 : decode b_M_signOf 42 = .ok (.ireturn, 1) := by decide +kernel
theorem d_M_signOf_43 : decode b_M_signOf 43 = .ok (.iload_n 0, 1) := by decide +kernel
theorem d_M_signOf_44 : decode b_M_signOf 44 = .ok (.tableswitch 87 52 66 #[76, 78, 76, 81, 76, 87, 87, 76, 87, 87, 87, 87, 78, 84, 84], 76) := by decide +kernel
theorem d_M_signOf_120 : decode b_M_signOf 120 = .ok (.iconst 5, 1) := by decide +kernel
theorem d_M_signOf_121 : decode b_M_signOf 121 = .ok (.ireturn, 1) := by decide +kernel
theorem d_M_signOf_122 : decode b_M_signOf 122 = .ok (.bipush 11, 2) := by decide +kernel
theorem d_M_signOf_124 : decode b_M_signOf 124 = .ok (.ireturn, 1) := by decide +kernel
theorem d_M_signOf_125 : decode b_M_signOf 125 = .ok (.bipush 9, 2) := by decide +kernel
theorem d_M_signOf_127 : decode b_M_signOf 127 = .ok (.ireturn, 1) := by decide +kernel
theorem d_M_signOf_128 : decode b_M_signOf 128 = .ok (.bipush 8, 2) := by decide +kernel
theorem d_M_signOf_130 : decode b_M_signOf 130 = .ok (.ireturn, 1) := by decide +kernel
theorem d_M_signOf_131 : decode b_M_signOf 131 = .ok (.iconst (-1), 1) := by decide +kernel
theorem d_M_signOf_132 : decode b_M_signOf 132 = .ok (.ireturn, 1) := by decide +kernel
theorem d_M_areGood_0 : decode b_M_areGood 0 = .ok (.iconst 0, 1) := by decide +kernel
theorem d_M_areGood_1 : decode b_M_areGood 1 = .ok (.istore_n 2, 1) := by decide +kernel
theorem d_M_areGood_2 : decode b_M_areGood 2 = .ok (.iload_n 2, 1) := by decide +kernel
theorem d_M_areGood_3 : decode b_M_areGood 3 = .ok (.iconst 3, 1) := by decide +kernel
theorem d_M_areGood_4 : decode b_M_areGood 4 = .ok (.if_icmp .ge 35, 3) := by decide +kernel
theorem d_M_areGood_7 : decode b_M_areGood 7 = .ok (.aload_n 0, 1) := by decide +kernel
theorem d_M_areGood_8 : decode b_M_areGood 8 = .ok (.iload_n 1, 1) := by decide +kernel
theorem d_M_areGood_9 : decode b_M_areGood 9 = .ok (.iload_n 2, 1) := by decide +kernel
theorem d_M_areGood_10 : decode b_M_areGood 10 = .ok (.invokevirtual 150, 3) := by decide +kernel
theorem d_M_areGood_13 : decode b_M_areGood 13 = .ok (.ifCond .eq 20, 3) := by decide +kernel
theorem d_M_areGood_16 : decode b_M_areGood 16 = .ok (.aload_n 0, 1) := by decide +kernel
theorem d_M_areGood_17 : decode b_M_areGood 17 = .ok (.iload_n 1, 1) := by decide +kernel
theorem d_M_areGood_18 : decode b_M_areGood 18 = .ok (.iload_n 2, 1) := by decide +kernel
theorem d_M_areGood_19 : decode b_M_areGood 19 = .ok (.aload_n 0, 1) := by decide +kernel
theorem d_M_areGood_20 : decode b_M_areGood 20 = .ok (.getfield 13, 3) := by decide +kernel
theorem d_M_areGood_23 : decode b_M_areGood 23 = .ok (.iload_n 2, 1) := by decide +kernel
theorem d_M_areGood_24 : decode b_M_areGood 24 = .ok (.iaload, 1) := by decide +kernel
theorem d_M_areGood_25 : decode b_M_areGood 25 = .ok (.invokevirtual 153, 3) := by decide +kernel
theorem d_M_areGood_28 : decode b_M_areGood 28 = .ok (.ifCond .ne 5, 3) := by decide +kernel
theorem d_M_areGood_31 : decode b_M_areGood 31 = .ok (.iconst 0, 1) := by decide +kernel
theorem d_M_areGood_32 : decode b_M_areGood 32 = .ok (.ireturn, 1) := by decide +kernel
theorem d_M_areGood_33 : decode b_M_areGood 33 = .ok (.iinc 2 1, 3) := by decide +kernel
theorem d_M_areGood_36 : decode b_M_areGood 36 = .ok (.goto (-34), 3) := by decide +kernel
theorem d_M_areGood_39 : decode b_M_areGood 39 = .ok (.aload_n 0, 1) := by decide +kernel
theorem d_M_areGood_40 : decode b_M_areGood 40 = .ok (.iload_n 1, 1) := by decide +kernel
theorem d_M_areGood_41 : decode b_M_areGood 41 = .ok (.iconst 3, 1) := by decide +kernel
theorem d_M_areGood_42 : decode b_M_areGood 42 = .ok (.invokevirtual 150, 3) := by decide +kernel
theorem d_M_areGood_45 : decode b_M_areGood 45 = .ok (.ifCond .eq 17, 3) := by decide +kernel
theorem d_M_areGood_48 : decode b_M_areGood 48 = .ok (.iload_n 1, 1) := by decide +kernel
theorem d_M_areGood_49 : decode b_M_areGood 49 = .ok (.aload_n 0, 1) := by decide +kernel
theorem d_M_areGood_50 : decode b_M_areGood 50 = .ok (.getfield 13, 3) := by decide +kernel
theorem d_M_areGood_53 : decode b_M_areGood 53 = .ok (.iconst 3, 1) := by decide +kernel
theorem d_M_areGood_54 : decode b_M_areGood 54 = .ok (.iaload, 1) := by decide +kernel
theorem d_M_areGood_55 : decode b_M_areGood 55 = .ok (.i2l, 1) := by decide +kernel
theorem d_M_areGood_56 : decode b_M_areGood 56 = .ok (.invokestatic 157, 3) := by decide +kernel
theorem d_M_areGood_59 : decode b_M_areGood 59 = .ok (.ifCond .eq 7, 3) := by decide +kernel
theorem d_M_areGood_62 : decode b_M_areGood 62 = .ok (.iconst 1, 1) := by decide +kernel
theorem d_M_areGood_63 : decode b_M_areGood 63 = .ok (.goto 4, 3) := by decide +kernel
theorem d_M_areGood_66 : decode b_M_areGood 66 = .ok (.iconst 0, 1) := by decide +kernel
theorem d_M_areGood_67 : decode b_M_areGood 67 = .ok (.ireturn, 1) := by decide +kernel
theorem d_M_put_0 : decode b_M_put 0 = .ok (.iconst 0, 1) := by decide +kernel
theorem d_M_put_1 : decode b_M_put 1 = .ok (.istore_n 2, 1) := by decide +kernel
theorem d_M_put_2 : decode b_M_put 2 = .ok (.iconst 0, 1) := by decide +kernel
theorem d_M_put_3 : decode b_M_put 3 = .ok (.istore_n 3, 1) := by decide +kernel
theorem d_M_put_4 : decode b_M_put 4 = .ok (.iload_n 3, 1) := by decide +kernel
theorem d_M_put_5 : decode b_M_put 5 = .ok (.iload_n 1, 1) := by decide +kernel
theorem d_M_put_6 : decode b_M_put 6 = .ok (.invokestatic 97, 3) := by decide +kernel
theorem d_M_put_9 : decode b_M_put 9 = .ok (.if_icmp .ge 96, 3) := by decide +kernel
theorem d_M_put_12 : decode b_M_put 12 = .ok (.aload_n 0, 1) := by decide +kernel
theorem d_M_put_13 : decode b_M_put 13 = .ok (.getfield 7, 3) := by decide +kernel
theorem d_M_put_16 : decode b_M_put 16 = .ok (.bipush 32, 2) := by decide +kernel
theorem d_M_put_18 : decode b_M_put 18 = .ok (.iload_n 1, 1) := by decide +kernel
theorem d_M_put_19 : decode b_M_put 19 = .ok (.imul, 1) := by decide +kernel
theorem d_M_put_20 : decode b_M_put 20 = .ok (.iload_n 3, 1) := by decide +kernel
theorem d_M_put_21 : decode b_M_put 21 = .ok (.iadd, 1) := by decide +kernel
theorem d_M_put_22 : decode b_M_put 22 = .ok (.iaload, 1) := by decide +kernel
theorem d_M_put_23 : decode b_M_put 23 = .ok (.istore 4, 2) := by decide +kernel
theorem d_M_put_25 : decode b_M_put 25 = .ok (.iload 4, 2) := by decide +kernel
theorem d_M_put_27 : decode b_M_put 27 = .ok (.iconst 2, 1) := by decide +kernel
theorem d_M_put_28 : decode b_M_put 28 = .ok (.if_icmp .ge 8, 3) := by decide +kernel
theorem d_M_put_31 : decode b_M_put 31 = .ok (.iload 4, 2) := by decide +kernel
theorem d_M_put_33 : decode b_M_put 33 = .ok (.goto 57, 3) := by decide +kernel
theorem d_M_put_36 : decode b_M_put 36 = .ok (.iload 4, 2) := by decide +kernel
theorem d_M_put_38 : decode b_M_put 38 = .ok (.sipush 500, 3) := by decide +kernel
theorem d_M_put_41 : decode b_M_put 41 = .ok (.if_icmp .ge 26, 3) := by decide +kernel
theorem d_M_put_44 : decode b_M_put 44 = .ok (.aload_n 0, 1) := by decide +kernel
theorem d_M_put_45 : decode b_M_put 45 = .ok (.getfield 13, 3) := by decide +kernel
theorem d_M_put_48 : decode b_M_put 48 = .ok (.iload 4, 2) := by decide +kernel
theorem d_M_put_50 : decode b_M_put 50 = .ok (.bipush 100, 2) := by decide +kernel
theorem d_M_put_52 : decode b_M_put 52 = .ok (.idiv, 1) := by decide +kernel
theorem d_M_put_53 : decode b_M_put 53 = .ok (.iconst 1, 1) := by decide +kernel
theorem d_M_put_54 : decode b_M_put 54 = .ok (.isub, 1) := by decide +kernel
theorem d_M_put_55 : decode b_M_put 55 = .ok (.iaload, 1) := by decide +kernel
theorem d_M_put_56 : decode b_M_put 56 = .ok (.iload 4, 2) := by decide +kernel
theorem d_M_put_58 : decode b_M_put 58 = .ok (.bipush 100, 2) := by decide +kernel
theorem d_M_put_60 : decode b_M_put 60 = .ok (.irem, 1) := by decide +kernel
theorem d_M_put_61 : decode b_M_put 61 = .ok (.ishr, 1) := by decide +kernel
theorem d_M_put_62 : decode b_M_put 62 = .ok (.iconst 1, 1) := by decide +kernel
theorem d_M_put_63 : decode b_M_put 63 = .ok (.iand, 1) := by decide +kernel
theorem d_M_put_64 : decode b_M_put 64 = .ok (.goto 26, 3) := by decide +kernel
theorem d_M_put_67 : decode b_M_put 67 = .ok (.aload_n 0, 1) := by decide +kernel
theorem d_M_put_68 : decode b_M_put 68 = .ok (.getfield 13, 3) := by decide +kernel
theorem d_M_put_71 : decode b_M_put 71 = .ok (.iload 4, 2) := by decide +kernel
theorem d_M_put_73 : decode b_M_put 73 = .ok (.bipush 100, 2) := by decide +kernel
theorem d_M_put_75 : decode b_M_put 75 = .ok (.idiv, 1) := by decide +kernel
theorem d_M_put_76 : decode b_M_put 76 = .ok (.iconst 5, 1) := by decide +kernel
theorem d_M_put_77 : decode b_M_put 77 = .ok (.isub, 1) := by decide +kernel
theorem d_M_put_78 : decode b_M_put 78 = .ok (.iaload, 1) := by decide +kernel
theorem d_M_put_79 : decode b_M_put 79 = .ok (.bipush 8, 2) := by decide +kernel
theorem d_M_put_81 : decode b_M_put 81 = .ok (.isub, 1) := by decide +kernel
theorem d_M_put_82 : decode b_M_put 82 = .ok (.iload 4, 2) := by decide +kernel
theorem d_M_put_84 : decode b_M_put 84 = .ok (.bipush 100, 2) := by decide +kernel
theorem d_M_put_86 : decode b_M_put 86 = .ok (.irem, 1) := by decide +kernel
theorem d_M_put_87 : decode b_M_put 87 = .ok (.ishr, 1) := by decide +kernel
theorem d_M_put_88 : decode b_M_put 88 = .ok (.iconst 1, 1) := by decide +kernel
theorem d_M_put_89 : decode b_M_put 89 = .ok (.iand, 1) := by decide +kernel
theorem d_M_put_90 : decode b_M_put 90 = .ok (.istore 5, 2) := by decide +kernel
theorem d_M_put_92 : decode b_M_put 92 = .ok (.iload_n 2, 1) := by decide +kernel
theorem d_M_put_93 : decode b_M_put 93 = .ok (.iload 5, 2) := by decide +kernel
theorem d_M_put_95 : decode b_M_put 95 = .ok (.iload_n 3, 1) := by decide +kernel
theorem d_M_put_96 : decode b_M_put 96 = .ok (.ishl, 1) := by decide +kernel
theorem d_M_put_97 : decode b_M_put 97 = .ok (.ior, 1) := by decide +kernel
theorem d_M_put_98 : decode b_M_put 98 = .ok (.istore_n 2, 1) := by decide +kernel
theorem d_M_put_99 : decode b_M_put 99 = .ok (.iinc 3 1, 3) := by decide +kernel
theorem d_M_put_102 : decode b_M_put 102 = .ok (.goto (-98), 3) := by decide +kernel
theorem d_M_put_105 : decode b_M_put 105 = .ok (.iload_n 2, 1) := by decide +kernel
theorem d_M_put_106 : decode b_M_put 106 = .ok (.ireturn, 1) := by decide +kernel
theorem d_M_take_0 : decode b_M_take 0 = .ok (.iconst 0, 1) := by decide +kernel
theorem d_M_take_1 : decode b_M_take 1 = .ok (.istore_n 3, 1) := by decide +kernel
theorem d_M_take_2 : decode b_M_take 2 = .ok (.iload_n 3, 1) := by decide +kernel
theorem d_M_take_3 : decode b_M_take 3 = .ok (.iconst 4, 1) := by decide +kernel
theorem d_M_take_4 : decode b_M_take 4 = .ok (.if_icmp .ge 35, 3) := by decide +kernel
theorem d_M_take_7 : decode b_M_take 7 = .ok (.aload_n 0, 1) := by decide +kernel
theorem d_M_take_8 : decode b_M_take 8 = .ok (.getfield 13, 3) := by decide +kernel
theorem d_M_take_11 : decode b_M_take 11 = .ok (.iload_n 3, 1) := by decide +kernel
theorem d_M_take_12 : decode b_M_take 12 = .ok (.iload_n 3, 1) := by decide +kernel
theorem d_M_take_13 : decode b_M_take 13 = .ok (.iconst 3, 1) := by decide +kernel
theorem d_M_take_14 : decode b_M_take 14 = .ok (.if_icmp .ge 17, 3) := by decide +kernel
theorem d_M_take_17 : decode b_M_take 17 = .ok (.aload_n 0, 1) := by decide +kernel
theorem d_M_take_18 : decode b_M_take 18 = .ok (.iload_n 1, 1) := by decide +kernel
theorem d_M_take_19 : decode b_M_take 19 = .ok (.iload_n 3, 1) := by decide +kernel
theorem d_M_take_20 : decode b_M_take 20 = .ok (.invokevirtual 100, 3) := by decide +kernel
theorem d_M_take_23 : decode b_M_take 23 = .ok (.ifCond .eq 8, 3) := by decide +kernel
theorem d_M_take_26 : decode b_M_take 26 = .ok (.bipush 8, 2) := by decide +kernel
theorem d_M_take_28 : decode b_M_take 28 = .ok (.goto 4, 3) := by decide +kernel
theorem d_M_take_31 : decode b_M_take 31 = .ok (.iconst 0, 1) := by decide +kernel
theorem d_M_take_32 : decode b_M_take 32 = .ok (.iastore, 1) := by decide +kernel
theorem d_M_take_33 : decode b_M_take 33 = .ok (.iinc 3 1, 3) := by decide +kernel
