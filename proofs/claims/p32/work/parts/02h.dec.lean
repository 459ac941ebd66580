theorem dL_law_444 : decode cL_law 444 = .ok (.istore 15, 2) := by decide +kernel
theorem dL_law_446 : decode cL_law 446 = .ok (.aload_n 1, 1) := by decide +kernel
theorem dL_law_447 : decode cL_law 447 = .ok (.iload 15, 2) := by decide +kernel
theorem dL_law_449 : decode cL_law 449 = .ok (.iconst 1, 1) := by decide +kernel
theorem dL_law_450 : decode cL_law 450 = .ok (.invokevirtual 45, 3) := by decide +kernel
theorem dL_law_453 : decode cL_law 453 = .ok (.istore 16, 2) := by decide +kernel
theorem dL_law_455 : decode cL_law 455 = .ok (.aload_n 1, 1) := by decide +kernel
theorem dL_law_456 : decode cL_law 456 = .ok (.iload 8, 2) := by decide +kernel
theorem dL_law_458 : decode cL_law 458 = .ok (.iconst 2, 1) := by decide +kernel
theorem dL_law_459 : decode cL_law 459 = .ok (.invokevirtual 32, 3) := by decide +kernel
theorem dL_law_462 : decode cL_law 462 = .ok (.iload 13, 2) := by decide +kernel
theorem dL_law_464 : decode cL_law 464 = .ok (.iload 16, 2) := by decide +kernel
theorem dL_law_466 : decode cL_law 466 = .ok (.iload 5, 2) := by decide +kernel
theorem dL_law_468 : decode cL_law 468 = .ok (.imul, 1) := by decide +kernel
theorem dL_law_469 : decode cL_law 469 = .ok (.iadd, 1) := by decide +kernel
theorem dL_law_470 : decode cL_law 470 = .ok (.if_icmp .ne 51, 3) := by decide +kernel
theorem dL_law_473 : decode cL_law 473 = .ok (.aload_n 1, 1) := by decide +kernel
theorem dL_law_474 : decode cL_law 474 = .ok (.iload 8, 2) := by decide +kernel
theorem dL_law_476 : decode cL_law 476 = .ok (.iconst 3, 1) := by decide +kernel
theorem dL_law_477 : decode cL_law 477 = .ok (.invokevirtual 32, 3) := by decide +kernel
theorem dL_law_480 : decode cL_law 480 = .ok (.iload 14, 2) := by decide +kernel
theorem dL_law_482 : decode cL_law 482 = .ok (.iload 16, 2) := by decide +kernel
theorem dL_law_484 : decode cL_law 484 = .ok (.iadd, 1) := by decide +kernel
theorem dL_law_485 : decode cL_law 485 = .ok (.if_icmp .ne 36, 3) := by decide +kernel
theorem dL_law_488 : decode cL_law 488 = .ok (.aload_n 1, 1) := by decide +kernel
theorem dL_law_489 : decode cL_law 489 = .ok (.iload 15, 2) := by decide +kernel
theorem dL_law_491 : decode cL_law 491 = .ok (.iconst 5, 1) := by decide +kernel
theorem dL_law_492 : decode cL_law 492 = .ok (.invokevirtual 45, 3) := by decide +kernel
theorem dL_law_495 : decode cL_law 495 = .ok (.aload_n 1, 1) := by decide +kernel
theorem dL_law_496 : decode cL_law 496 = .ok (.iload 8, 2) := by decide +kernel
theorem dL_law_498 : decode cL_law 498 = .ok (.iconst 1, 1) := by decide +kernel
theorem dL_law_499 : decode cL_law 499 = .ok (.invokevirtual 32, 3) := by decide +kernel
theorem dL_law_502 : decode cL_law 502 = .ok (.aload_n 1, 1) := by decide +kernel
theorem dL_law_503 : decode cL_law 503 = .ok (.iconst 0, 1) := by decide +kernel
theorem dL_law_504 : decode cL_law 504 = .ok (.invokevirtual 29, 3) := by decide +kernel
theorem dL_law_507 : decode cL_law 507 = .ok (.bipush 24, 2) := by decide +kernel
theorem dL_law_509 : decode cL_law 509 = .ok (.idiv, 1) := by decide +kernel
theorem dL_law_510 : decode cL_law 510 = .ok (.if_icmp .lt 7, 3) := by decide +kernel
theorem dL_law_513 : decode cL_law 513 = .ok (.iconst 1, 1) := by decide +kernel
theorem dL_law_514 : decode cL_law 514 = .ok (.goto 4, 3) := by decide +kernel
theorem dL_law_517 : decode cL_law 517 = .ok (.iconst 0, 1) := by decide +kernel
theorem dL_law_518 : decode cL_law 518 = .ok (.if_icmp .eq 870, 3) := by decide +kernel
theorem dL_law_521 : decode cL_law 521 = .ok (.iconst 0, 1) := by decide +kernel
theorem dL_law_522 : decode cL_law 522 = .ok (.ireturn, 1) := by decide +kernel
theorem dL_law_523 : decode cL_law 523 = .ok (.iload 9, 2) := by decide +kernel
theorem dL_law_525 : decode cL_law 525 = .ok (.ifCond .ge 6, 3) := by decide +kernel
theorem dL_law_528 : decode cL_law 528 = .ok (.goto 860, 3) := by decide +kernel
theorem dL_law_531 : decode cL_law 531 = .ok (.aload_n 1, 1) := by decide +kernel
theorem dL_law_532 : decode cL_law 532 = .ok (.iload 10, 2) := by decide +kernel
theorem dL_law_534 : decode cL_law 534 = .ok (.iconst 0, 1) := by decide +kernel
theorem dL_law_535 : decode cL_law 535 = .ok (.invokevirtual 48, 3) := by decide +kernel
theorem dL_law_538 : decode cL_law 538 = .ok (.istore 13, 2) := by decide +kernel
theorem dL_law_540 : decode cL_law 540 = .ok (.aload_n 1, 1) := by decide +kernel
theorem dL_law_541 : decode cL_law 541 = .ok (.iload 9, 2) := by decide +kernel
theorem dL_law_543 : decode cL_law 543 = .ok (.iload 10, 2) := by decide +kernel
theorem dL_law_545 : decode cL_law 545 = .ok (.invokestatic 51, 3) := by decide +kernel
theorem dL_law_548 : decode cL_law 548 = .ok (.istore 14, 2) := by decide +kernel
theorem dL_law_550 : decode cL_law 550 = .ok (.iload 14, 2) := by decide +kernel
theorem dL_law_552 : decode cL_law 552 = .ok (.ifCond .ge 18, 3) := by decide +kernel
theorem dL_law_555 : decode cL_law 555 = .ok (.aload_n 1, 1) := by decide +kernel
theorem dL_law_556 : decode cL_law 556 = .ok (.iload 10, 2) := by decide +kernel
theorem dL_law_558 : decode cL_law 558 = .ok (.iconst 0, 1) := by decide +kernel
theorem dL_law_559 : decode cL_law 559 = .ok (.invokevirtual 48, 3) := by decide +kernel
theorem dL_law_562 : decode cL_law 562 = .ok (.iload 13, 2) := by decide +kernel
theorem dL_law_564 : decode cL_law 564 = .ok (.if_icmp .eq 824, 3) := by decide +kernel
theorem dL_law_567 : decode cL_law 567 = .ok (.goto 39, 3) := by decide +kernel
theorem dL_law_570 : decode cL_law 570 = .ok (.iload 14, 2) := by decide +kernel
theorem dL_law_572 : decode cL_law 572 = .ok (.iload 13, 2) := by decide +kernel
theorem dL_law_574 : decode cL_law 574 = .ok (.aload_n 1, 1) := by decide +kernel
theorem dL_law_575 : decode cL_law 575 = .ok (.iload 9, 2) := by decide +kernel
theorem dL_law_577 : decode cL_law 577 = .ok (.iconst 1, 1) := by decide +kernel
theorem dL_law_578 : decode cL_law 578 = .ok (.invokevirtual 45, 3) := by decide +kernel
theorem dL_law_581 : decode cL_law 581 = .ok (.iconst 2, 1) := by decide +kernel
theorem dL_law_582 : decode cL_law 582 = .ok (.idiv, 1) := by decide +kernel
theorem dL_law_583 : decode cL_law 583 = .ok (.iadd, 1) := by decide +kernel
theorem dL_law_584 : decode cL_law 584 = .ok (.if_icmp .ne 22, 3) := by decide +kernel
theorem dL_law_587 : decode cL_law 587 = .ok (.iload 14, 2) := by decide +kernel
theorem dL_law_589 : decode cL_law 589 = .ok (.sipush 300, 3) := by decide +kernel
theorem dL_law_592 : decode cL_law 592 = .ok (.if_icmp .gt 14, 3) := by decide +kernel
theorem dL_law_595 : decode cL_law 595 = .ok (.aload_n 1, 1) := by decide +kernel
theorem dL_law_596 : decode cL_law 596 = .ok (.iload 9, 2) := by decide +kernel
theorem dL_law_598 : decode cL_law 598 = .ok (.iconst 3, 1) := by decide +kernel
theorem dL_law_599 : decode cL_law 599 = .ok (.invokevirtual 45, 3) := by decide +kernel
theorem dL_law_602 : decode cL_law 602 = .ok (.iconst 1, 1) := by decide +kernel
theorem dL_law_603 : decode cL_law 603 = .ok (.if_icmp .eq 785, 3) := by decide +kernel
theorem dL_law_606 : decode cL_law 606 = .ok (.iconst 0, 1) := by decide +kernel
theorem dL_law_607 : decode cL_law 607 = .ok (.ireturn, 1) := by decide +kernel
theorem dL_law_608 : decode cL_law 608 = .ok (.aload_n 1, 1) := by decide +kernel
theorem dL_law_609 : decode cL_law 609 = .ok (.iload 10, 2) := by decide +kernel
theorem dL_law_611 : decode cL_law 611 = .ok (.iconst 0, 1) := by decide +kernel
theorem dL_law_612 : decode cL_law 612 = .ok (.invokevirtual 48, 3) := by decide +kernel
theorem dL_law_615 : decode cL_law 615 = .ok (.istore 13, 2) := by decide +kernel
theorem dL_law_617 : decode cL_law 617 = .ok (.aload_n 1, 1) := by decide +kernel
theorem dL_law_618 : decode cL_law 618 = .ok (.iload 11, 2) := by decide +kernel
theorem dL_law_620 : decode cL_law 620 = .ok (.iconst 2, 1) := by decide +kernel
theorem dL_law_621 : decode cL_law 621 = .ok (.invokevirtual 55, 3) := by decide +kernel
theorem dL_law_624 : decode cL_law 624 = .ok (.istore 14, 2) := by decide +kernel
theorem dL_law_626 : decode cL_law 626 = .ok (.aload_n 1, 1) := by decide +kernel
theorem dL_law_627 : decode cL_law 627 = .ok (.iload 10, 2) := by decide +kernel
theorem dL_law_629 : decode cL_law 629 = .ok (.iload 11, 2) := by decide +kernel
theorem dL_law_631 : decode cL_law 631 = .ok (.iload 7, 2) := by decide +kernel
theorem dL_law_633 : decode cL_law 633 = .ok (.iconst 5, 1) := by decide +kernel
theorem dL_law_634 : decode cL_law 634 = .ok (.ishr, 1) := by decide +kernel
theorem dL_law_635 : decode cL_law 635 = .ok (.iconst 3, 1) := by decide +kernel
theorem dL_law_636 : decode cL_law 636 = .ok (.invokestatic 18, 3) := by decide +kernel
theorem dL_law_639 : decode cL_law 639 = .ok (.ifCond .ne 7, 3) := by decide +kernel
theorem dL_law_642 : decode cL_law 642 = .ok (.iconst 1, 1) := by decide +kernel
theorem dL_law_643 : decode cL_law 643 = .ok (.goto 4, 3) := by decide +kernel
theorem dL_law_646 : decode cL_law 646 = .ok (.iconst 0, 1) := by decide +kernel
theorem dL_law_647 : decode cL_law 647 = .ok (.invokestatic 58, 3) := by decide +kernel
theorem dL_law_650 : decode cL_law 650 = .ok (.istore 15, 2) := by decide +kernel
theorem dL_law_652 : decode cL_law 652 = .ok (.iload 15, 2) := by decide +kernel
theorem dL_law_654 : decode cL_law 654 = .ok (.ifCond .ge 30, 3) := by decide +kernel
theorem dL_law_657 : decode cL_law 657 = .ok (.aload_n 1, 1) := by decide +kernel
theorem dL_law_658 : decode cL_law 658 = .ok (.iload 10, 2) := by decide +kernel
theorem dL_law_660 : decode cL_law 660 = .ok (.iconst 0, 1) := by decide +kernel
theorem dL_law_661 : decode cL_law 661 = .ok (.invokevirtual 48, 3) := by decide +kernel
theorem dL_law_664 : decode cL_law 664 = .ok (.iload 13, 2) := by decide +kernel
theorem dL_law_666 : decode cL_law 666 = .ok (.if_icmp .ne 63, 3) := by decide +kernel
theorem dL_law_669 : decode cL_law 669 = .ok (.aload_n 1, 1) := by decide +kernel
theorem dL_law_670 : decode cL_law 670 = .ok (.iload 11, 2) := by decide +kernel
theorem dL_law_672 : decode cL_law 672 = .ok (.iconst 2, 1) := by decide +kernel
theorem dL_law_673 : decode cL_law 673 = .ok (.invokevirtual 55, 3) := by decide +kernel
theorem dL_law_676 : decode cL_law 676 = .ok (.iload 14, 2) := by decide +kernel
theorem dL_law_678 : decode cL_law 678 = .ok (.if_icmp .eq 710, 3) := by decide +kernel
theorem dL_law_681 : decode cL_law 681 = .ok (.goto 48, 3) := by decide +kernel
theorem dL_law_684 : decode cL_law 684 = .ok (.iload 15, 2) := by decide +kernel
theorem dL_law_686 : decode cL_law 686 = .ok (.iload 13, 2) := by decide +kernel
theorem dL_law_688 : decode cL_law 688 = .ok (.if_icmp .ne 41, 3) := by decide +kernel
theorem dL_law_691 : decode cL_law 691 = .ok (.iload 14, 2) := by decide +kernel
theorem dL_law_693 : decode cL_law 693 = .ok (.ifCond .ne 36, 3) := by decide +kernel
theorem dL_law_696 : decode cL_law 696 = .ok (.aload_n 1, 1) := by decide +kernel
theorem dL_law_697 : decode cL_law 697 = .ok (.iload 11, 2) := by decide +kernel
theorem dL_law_699 : decode cL_law 699 = .ok (.iconst 2, 1) := by decide +kernel
theorem dL_law_700 : decode cL_law 700 = .ok (.invokevirtual 55, 3) := by decide +kernel
theorem dL_law_703 : decode cL_law 703 = .ok (.iload 13, 2) := by decide +kernel
theorem dL_law_705 : decode cL_law 705 = .ok (.if_icmp .ne 24, 3) := by decide +kernel
theorem dL_law_708 : decode cL_law 708 = .ok (.aload_n 1, 1) := by decide +kernel
theorem dL_law_709 : decode cL_law 709 = .ok (.iload 10, 2) := by decide +kernel
theorem dL_law_711 : decode cL_law 711 = .ok (.iconst 0, 1) := by decide +kernel
theorem dL_law_712 : decode cL_law 712 = .ok (.invokevirtual 48, 3) := by decide +kernel
theorem dL_law_715 : decode cL_law 715 = .ok (.ifCond .ne 14, 3) := by decide +kernel
theorem dL_law_718 : decode cL_law 718 = .ok (.aload_n 1, 1) := by decide +kernel
theorem dL_law_719 : decode cL_law 719 = .ok (.iload 11, 2) := by decide +kernel
theorem dL_law_721 : decode cL_law 721 = .ok (.iconst 3, 1) := by decide +kernel
theorem dL_law_722 : decode cL_law 722 = .ok (.invokevirtual 55, 3) := by decide +kernel
theorem dL_law_725 : decode cL_law 725 = .ok (.iconst 1, 1) := by decide +kernel
theorem dL_law_726 : decode cL_law 726 = .ok (.if_icmp .le 662, 3) := by decide +kernel
theorem dL_law_729 : decode cL_law 729 = .ok (.iconst 0, 1) := by decide +kernel
theorem dL_law_730 : decode cL_law 730 = .ok (.ireturn, 1) := by decide +kernel
theorem dL_law_731 : decode cL_law 731 = .ok (.iload 9, 2) := by decide +kernel
theorem dL_law_733 : decode cL_law 733 = .ok (.ifCond .ge 6, 3) := by decide +kernel
theorem dL_law_736 : decode cL_law 736 = .ok (.goto 652, 3) := by decide +kernel
theorem dL_law_739 : decode cL_law 739 = .ok (.aload_n 1, 1) := by decide +kernel
theorem dL_law_740 : decode cL_law 740 = .ok (.iload 11, 2) := by decide +kernel
theorem dL_law_742 : decode cL_law 742 = .ok (.iconst 2, 1) := by decide +kernel
theorem dL_law_743 : decode cL_law 743 = .ok (.invokevirtual 55, 3) := by decide +kernel
theorem dL_law_746 : decode cL_law 746 = .ok (.istore 13, 2) := by decide +kernel
theorem dL_law_748 : decode cL_law 748 = .ok (.aload_n 1, 1) := by decide +kernel
theorem dL_law_749 : decode cL_law 749 = .ok (.iload 9, 2) := by decide +kernel
theorem dL_law_751 : decode cL_law 751 = .ok (.iload 11, 2) := by decide +kernel
theorem dL_law_753 : decode cL_law 753 = .ok (.invokestatic 62, 3) := by decide +kernel
theorem dL_law_756 : decode cL_law 756 = .ok (.istore 14, 2) := by decide +kernel
theorem dL_law_758 : decode cL_law 758 = .ok (.iload 14, 2) := by decide +kernel
theorem dL_law_760 : decode cL_law 760 = .ok (.ifCond .ge 18, 3) := by decide +kernel
theorem dL_law_763 : decode cL_law 763 = .ok (.aload_n 1, 1) := by decide +kernel
theorem dL_law_764 : decode cL_law 764 = .ok (.iload 11, 2) := by decide +kernel
theorem dL_law_766 : decode cL_law 766 = .ok (.iconst 2, 1) := by decide +kernel
theorem dL_law_767 : decode cL_law 767 = .ok (.invokevirtual 55, 3) := by decide +kernel
theorem dL_law_770 : decode cL_law 770 = .ok (.iload 13, 2) := by decide +kernel
theorem dL_law_772 : decode cL_law 772 = .ok (.if_icmp .eq 616, 3) := by decide +kernel
theorem dL_law_775 : decode cL_law 775 = .ok (.goto 42, 3) := by decide +kernel
theorem dL_law_778 : decode cL_law 778 = .ok (.iload 13, 2) := by decide +kernel
theorem dL_law_780 : decode cL_law 780 = .ok (.ifCond .ne 37, 3) := by decide +kernel
theorem dL_law_783 : decode cL_law 783 = .ok (.aload_n 1, 1) := by decide +kernel
theorem dL_law_784 : decode cL_law 784 = .ok (.iload 11, 2) := by decide +kernel
theorem dL_law_786 : decode cL_law 786 = .ok (.iconst 2, 1) := by decide +kernel
theorem dL_law_787 : decode cL_law 787 = .ok (.invokevirtual 55, 3) := by decide +kernel
theorem dL_law_790 : decode cL_law 790 = .ok (.iload 14, 2) := by decide +kernel
theorem dL_law_792 : decode cL_law 792 = .ok (.if_icmp .ne 25, 3) := by decide +kernel
theorem dL_law_795 : decode cL_law 795 = .ok (.aload_n 1, 1) := by decide +kernel
theorem dL_law_796 : decode cL_law 796 = .ok (.iload 9, 2) := by decide +kernel
theorem dL_law_798 : decode cL_law 798 = .ok (.iconst 3, 1) := by decide +kernel
theorem dL_law_799 : decode cL_law 799 = .ok (.invokevirtual 45, 3) := by decide +kernel
theorem dL_law_802 : decode cL_law 802 = .ok (.iconst 2, 1) := by decide +kernel
theorem dL_law_803 : decode cL_law 803 = .ok (.if_icmp .ne 14, 3) := by decide +kernel
theorem dL_law_806 : decode cL_law 806 = .ok (.aload_n 1, 1) := by decide +kernel
theorem dL_law_807 : decode cL_law 807 = .ok (.iload 11, 2) := by decide +kernel
theorem dL_law_809 : decode cL_law 809 = .ok (.iconst 3, 1) := by decide +kernel
theorem dL_law_810 : decode cL_law 810 = .ok (.invokevirtual 55, 3) := by decide +kernel
theorem dL_law_813 : decode cL_law 813 = .ok (.iconst 2, 1) := by decide +kernel
theorem dL_law_814 : decode cL_law 814 = .ok (.if_icmp .eq 574, 3) := by decide +kernel
theorem dL_law_817 : decode cL_law 817 = .ok (.iconst 0, 1) := by decide +kernel
theorem dL_law_818 : decode cL_law 818 = .ok (.ireturn, 1) := by decide +kernel
theorem dL_law_819 : decode cL_law 819 = .ok (.aload_n 1, 1) := by decide +kernel
theorem dL_law_820 : decode cL_law 820 = .ok (.iload 11, 2) := by decide +kernel
theorem dL_law_822 : decode cL_law 822 = .ok (.iconst 2, 1) := by decide +kernel
theorem dL_law_823 : decode cL_law 823 = .ok (.invokevirtual 55, 3) := by decide +kernel
theorem dL_law_826 : decode cL_law 826 = .ok (.ifCond .le 562, 3) := by decide +kernel
theorem dL_law_829 : decode cL_law 829 = .ok (.aload_n 1, 1) := by decide +kernel
theorem dL_law_830 : decode cL_law 830 = .ok (.iload 11, 2) := by decide +kernel
theorem dL_law_832 : decode cL_law 832 = .ok (.invokevirtual 65, 3) := by decide +kernel
theorem dL_law_835 : decode cL_law 835 = .ok (.ifCond .lt 13, 3) := by decide +kernel
theorem dL_law_838 : decode cL_law 838 = .ok (.aload_n 1, 1) := by decide +kernel
theorem dL_law_839 : decode cL_law 839 = .ok (.iload 11, 2) := by decide +kernel
theorem dL_law_841 : decode cL_law 841 = .ok (.iconst 5, 1) := by decide +kernel
theorem dL_law_842 : decode cL_law 842 = .ok (.invokevirtual 55, 3) := by decide +kernel
theorem dL_law_845 : decode cL_law 845 = .ok (.ifCond .eq 543, 3) := by decide +kernel
theorem dL_law_848 : decode cL_law 848 = .ok (.iconst 0, 1) := by decide +kernel
theorem dL_law_849 : decode cL_law 849 = .ok (.ireturn, 1) := by decide +kernel
theorem dL_law_850 : decode cL_law 850 = .ok (.aload_n 1, 1) := by decide +kernel
theorem dL_law_851 : decode cL_law 851 = .ok (.iload 11, 2) := by decide +kernel
theorem dL_law_853 : decode cL_law 853 = .ok (.iconst 1, 1) := by decide +kernel
theorem dL_law_854 : decode cL_law 854 = .ok (.invokevirtual 55, 3) := by decide +kernel
theorem dL_law_857 : decode cL_law 857 = .ok (.iconst 1, 1) := by decide +kernel
theorem dL_law_858 : decode cL_law 858 = .ok (.if_icmp .ne 7, 3) := by decide +kernel
theorem dL_law_861 : decode cL_law 861 = .ok (.iconst 1, 1) := by decide +kernel
theorem dL_law_862 : decode cL_law 862 = .ok (.goto 4, 3) := by decide +kernel
theorem dL_law_865 : decode cL_law 865 = .ok (.iconst 0, 1) := by decide +kernel
theorem dL_law_866 : decode cL_law 866 = .ok (.istore 13, 2) := by decide +kernel
theorem dL_law_868 : decode cL_law 868 = .ok (.aload_n 1, 1) := by decide +kernel
theorem dL_law_869 : decode cL_law 869 = .ok (.iload 11, 2) := by decide +kernel
theorem dL_law_871 : decode cL_law 871 = .ok (.iload 13, 2) := by decide +kernel
theorem dL_law_873 : decode cL_law 873 = .ok (.ifCond .ne 7, 3) := by decide +kernel
theorem dL_law_876 : decode cL_law 876 = .ok (.iconst 1, 1) := by decide +kernel
theorem dL_law_877 : decode cL_law 877 = .ok (.goto 4, 3) := by decide +kernel
theorem dL_law_880 : decode cL_law 880 = .ok (.iconst 0, 1) := by decide +kernel
theorem dL_law_881 : decode cL_law 881 = .ok (.invokevirtual 68, 3) := by decide +kernel
theorem dL_law_884 : decode cL_law 884 = .ok (.iload 13, 2) := by decide +kernel
theorem dL_law_886 : decode cL_law 886 = .ok (.if_icmp .ne 23, 3) := by decide +kernel
theorem dL_law_889 : decode cL_law 889 = .ok (.aload_n 1, 1) := by decide +kernel
theorem dL_law_890 : decode cL_law 890 = .ok (.iload 11, 2) := by decide +kernel
theorem dL_law_892 : decode cL_law 892 = .ok (.iconst 1, 1) := by decide +kernel
theorem dL_law_893 : decode cL_law 893 = .ok (.invokevirtual 55, 3) := by decide +kernel
theorem dL_law_896 : decode cL_law 896 = .ok (.iload 13, 2) := by decide +kernel
theorem dL_law_898 : decode cL_law 898 = .ok (.ifCond .eq 7, 3) := by decide +kernel
theorem dL_law_901 : decode cL_law 901 = .ok (.iconst 0, 1) := by decide +kernel
theorem dL_law_902 : decode cL_law 902 = .ok (.goto 4, 3) := by decide +kernel
theorem dL_law_905 : decode cL_law 905 = .ok (.iconst 1, 1) := by decide +kernel
theorem dL_law_906 : decode cL_law 906 = .ok (.if_icmp .eq 482, 3) := by decide +kernel
theorem dL_law_909 : decode cL_law 909 = .ok (.iconst 0, 1) := by decide +kernel
theorem dL_law_910 : decode cL_law 910 = .ok (.ireturn, 1) := by decide +kernel
theorem dL_law_911 : decode cL_law 911 = .ok (.aload_n 1, 1) := by decide +kernel
theorem dL_law_912 : decode cL_law 912 = .ok (.iload 11, 2) := by decide +kernel
theorem dL_law_914 : decode cL_law 914 = .ok (.iconst 2, 1) := by decide +kernel
theorem dL_law_915 : decode cL_law 915 = .ok (.invokevirtual 55, 3) := by decide +kernel
theorem dL_law_918 : decode cL_law 918 = .ok (.bipush 24, 2) := by decide +kernel
theorem dL_law_920 : decode cL_law 920 = .ok (.if_icmp .lt 468, 3) := by decide +kernel
theorem dL_law_923 : decode cL_law 923 = .ok (.aload_n 1, 1) := by decide +kernel
theorem dL_law_924 : decode cL_law 924 = .ok (.iconst 4, 1) := by decide +kernel
theorem dL_law_925 : decode cL_law 925 = .ok (.invokevirtual 29, 3) := by decide +kernel
theorem dL_law_928 : decode cL_law 928 = .ok (.bipush 12, 2) := by decide +kernel
theorem dL_law_930 : decode cL_law 930 = .ok (.if_icmp .ne 6, 3) := by decide +kernel
theorem dL_law_933 : decode cL_law 933 = .ok (.goto 455, 3) := by decide +kernel
theorem dL_law_936 : decode cL_law 936 = .ok (.aload_n 1, 1) := by decide +kernel
theorem dL_law_937 : decode cL_law 937 = .ok (.iload 11, 2) := by decide +kernel
theorem dL_law_939 : decode cL_law 939 = .ok (.iconst 2, 1) := by decide +kernel
theorem dL_law_940 : decode cL_law 940 = .ok (.invokevirtual 55, 3) := by decide +kernel
theorem dL_law_943 : decode cL_law 943 = .ok (.istore 13, 2) := by decide +kernel
theorem dL_law_945 : decode cL_law 945 = .ok (.aload_n 1, 1) := by decide +kernel
theorem dL_law_946 : decode cL_law 946 = .ok (.iload 11, 2) := by decide +kernel
theorem dL_law_948 : decode cL_law 948 = .ok (.iconst 3, 1) := by decide +kernel
theorem dL_law_949 : decode cL_law 949 = .ok (.invokevirtual 55, 3) := by decide +kernel
theorem dL_law_952 : decode cL_law 952 = .ok (.iconst 2, 1) := by decide +kernel
theorem dL_law_953 : decode cL_law 953 = .ok (.if_icmp .ne 7, 3) := by decide +kernel
theorem dL_law_956 : decode cL_law 956 = .ok (.iconst 3, 1) := by decide +kernel
theorem dL_law_957 : decode cL_law 957 = .ok (.goto 4, 3) := by decide +kernel
theorem dL_law_960 : decode cL_law 960 = .ok (.iconst 2, 1) := by decide +kernel
theorem dL_law_961 : decode cL_law 961 = .ok (.istore 14, 2) := by decide +kernel
theorem dL_law_963 : decode cL_law 963 = .ok (.aload_n 1, 1) := by decide +kernel
theorem dL_law_964 : decode cL_law 964 = .ok (.iload 11, 2) := by decide +kernel
theorem dL_law_966 : decode cL_law 966 = .ok (.iconst 4, 1) := by decide +kernel
theorem dL_law_967 : decode cL_law 967 = .ok (.invokevirtual 55, 3) := by decide +kernel
theorem dL_law_970 : decode cL_law 970 = .ok (.istore 15, 2) := by decide +kernel
theorem dL_law_972 : decode cL_law 972 = .ok (.aload_n 1, 1) := by decide +kernel
theorem dL_law_973 : decode cL_law 973 = .ok (.iload 11, 2) := by decide +kernel
theorem dL_law_975 : decode cL_law 975 = .ok (.invokevirtual 72, 3) := by decide +kernel
theorem dL_law_978 : decode cL_law 978 = .ok (.istore 16, 2) := by decide +kernel
theorem dL_law_980 : decode cL_law 980 = .ok (.aload_n 1, 1) := by decide +kernel
theorem dL_law_981 : decode cL_law 981 = .ok (.iload 16, 2) := by decide +kernel
theorem dL_law_983 : decode cL_law 983 = .ok (.iconst 0, 1) := by decide +kernel
theorem dL_law_984 : decode cL_law 984 = .ok (.invokevirtual 75, 3) := by decide +kernel
theorem dL_law_987 : decode cL_law 987 = .ok (.iload 13, 2) := by decide +kernel
theorem dL_law_989 : decode cL_law 989 = .ok (.iload 14, 2) := by decide +kernel
theorem dL_law_991 : decode cL_law 991 = .ok (.idiv, 1) := by decide +kernel
theorem dL_law_992 : decode cL_law 992 = .ok (.if_icmp .gt 55, 3) := by decide +kernel
theorem dL_law_995 : decode cL_law 995 = .ok (.aload_n 1, 1) := by decide +kernel
theorem dL_law_996 : decode cL_law 996 = .ok (.iload 16, 2) := by decide +kernel
theorem dL_law_998 : decode cL_law 998 = .ok (.iconst 0, 1) := by decide +kernel
theorem dL_law_999 : decode cL_law 999 = .ok (.invokevirtual 75, 3) := by decide +kernel
theorem dL_law_1002 : decode cL_law 1002 = .ok (.iload 13, 2) := by decide +kernel
theorem dL_law_1004 : decode cL_law 1004 = .ok (.iload 14, 2) := by decide +kernel
theorem dL_law_1006 : decode cL_law 1006 = .ok (.idiv, 1) := by decide +kernel
theorem dL_law_1007 : decode cL_law 1007 = .ok (.iconst 5, 1) := by decide +kernel
theorem dL_law_1008 : decode cL_law 1008 = .ok (.isub, 1) := by decide +kernel
theorem dL_law_1009 : decode cL_law 1009 = .ok (.if_icmp .lt 38, 3) := by decide +kernel
theorem dL_law_1012 : decode cL_law 1012 = .ok (.aload_n 1, 1) := by decide +kernel
theorem dL_law_1013 : decode cL_law 1013 = .ok (.iload 16, 2) := by decide +kernel
theorem dL_law_1015 : decode cL_law 1015 = .ok (.bipush 7, 2) := by decide +kernel
theorem dL_law_1017 : decode cL_law 1017 = .ok (.invokevirtual 75, 3) := by decide +kernel
theorem dL_law_1020 : decode cL_law 1020 = .ok (.iload 15, 2) := by decide +kernel
theorem dL_law_1022 : decode cL_law 1022 = .ok (.if_icmp .ne 25, 3) := by decide +kernel
theorem dL_law_1025 : decode cL_law 1025 = .ok (.aload_n 1, 1) := by decide +kernel
theorem dL_law_1026 : decode cL_law 1026 = .ok (.iload 11, 2) := by decide +kernel
theorem dL_law_1028 : decode cL_law 1028 = .ok (.iconst 2, 1) := by decide +kernel
theorem dL_law_1029 : decode cL_law 1029 = .ok (.invokevirtual 55, 3) := by decide +kernel
theorem dL_law_1032 : decode cL_law 1032 = .ok (.ifCond .ne 15, 3) := by decide +kernel
theorem dL_law_1035 : decode cL_law 1035 = .ok (.aload_n 1, 1) := by decide +kernel
theorem dL_law_1036 : decode cL_law 1036 = .ok (.iload 16, 2) := by decide +kernel
theorem dL_law_1038 : decode cL_law 1038 = .ok (.bipush 9, 2) := by decide +kernel
theorem dL_law_1040 : decode cL_law 1040 = .ok (.invokevirtual 75, 3) := by decide +kernel
theorem dL_law_1043 : decode cL_law 1043 = .ok (.iconst (-1), 1) := by decide +kernel
theorem dL_law_1044 : decode cL_law 1044 = .ok (.if_icmp .eq 344, 3) := by decide +kernel
theorem dL_law_1047 : decode cL_law 1047 = .ok (.iconst 0, 1) := by decide +kernel
theorem dL_law_1048 : decode cL_law 1048 = .ok (.ireturn, 1) := by decide +kernel
theorem dL_law_1049 : decode cL_law 1049 = .ok (.iload 12, 2) := by decide +kernel
theorem dL_law_1051 : decode cL_law 1051 = .ok (.ifCond .lt 337, 3) := by decide +kernel
theorem dL_law_1054 : decode cL_law 1054 = .ok (.aload_n 1, 1) := by decide +kernel
theorem dL_law_1055 : decode cL_law 1055 = .ok (.iload 12, 2) := by decide +kernel
theorem dL_law_1057 : decode cL_law 1057 = .ok (.iconst 2, 1) := by decide +kernel
theorem dL_law_1058 : decode cL_law 1058 = .ok (.invokevirtual 75, 3) := by decide +kernel
theorem dL_law_1061 : decode cL_law 1061 = .ok (.iconst 1, 1) := by decide +kernel
theorem dL_law_1062 : decode cL_law 1062 = .ok (.if_icmp .ne 326, 3) := by decide +kernel
theorem dL_law_1065 : decode cL_law 1065 = .ok (.aload_n 1, 1) := by decide +kernel
theorem dL_law_1066 : decode cL_law 1066 = .ok (.iload 12, 2) := by decide +kernel
theorem dL_law_1068 : decode cL_law 1068 = .ok (.iload 10, 2) := by decide +kernel
theorem dL_law_1070 : decode cL_law 1070 = .ok (.invokevirtual 78, 3) := by decide +kernel
theorem dL_law_1073 : decode cL_law 1073 = .ok (.aload_n 1, 1) := by decide +kernel
theorem dL_law_1074 : decode cL_law 1074 = .ok (.iload 12, 2) := by decide +kernel
theorem dL_law_1076 : decode cL_law 1076 = .ok (.bipush 10, 2) := by decide +kernel
theorem dL_law_1078 : decode cL_law 1078 = .ok (.invokevirtual 75, 3) := by decide +kernel
theorem dL_law_1081 : decode cL_law 1081 = .ok (.if_icmp .eq 307, 3) := by decide +kernel
theorem dL_law_1084 : decode cL_law 1084 = .ok (.iconst 0, 1) := by decide +kernel
theorem dL_law_1085 : decode cL_law 1085 = .ok (.ireturn, 1) := by decide +kernel
theorem dL_law_1086 : decode cL_law 1086 = .ok (.aload_n 1, 1) := by decide +kernel
theorem dL_law_1087 : decode cL_law 1087 = .ok (.invokevirtual 81, 3) := by decide +kernel
theorem dL_law_1090 : decode cL_law 1090 = .ok (.istore 13, 2) := by decide +kernel
theorem dL_law_1092 : decode cL_law 1092 = .ok (.iload 13, 2) := by decide +kernel
theorem dL_law_1094 : decode cL_law 1094 = .ok (.ifCond .lt 294, 3) := by decide +kernel
theorem dL_law_1097 : decode cL_law 1097 = .ok (.iload 7, 2) := by decide +kernel
theorem dL_law_1099 : decode cL_law 1099 = .ok (.iconst 3, 1) := by decide +kernel
theorem dL_law_1100 : decode cL_law 1100 = .ok (.ishr, 1) := by decide +kernel
theorem dL_law_1101 : decode cL_law 1101 = .ok (.iconst 3, 1) := by decide +kernel
theorem dL_law_1102 : decode cL_law 1102 = .ok (.invokestatic 18, 3) := by decide +kernel
theorem dL_law_1105 : decode cL_law 1105 = .ok (.ifCond .ne 6, 3) := by decide +kernel
theorem dL_law_1108 : decode cL_law 1108 = .ok (.goto 280, 3) := by decide +kernel
theorem dL_law_1111 : decode cL_law 1111 = .ok (.aload_n 1, 1) := by decide +kernel
theorem dL_law_1112 : decode cL_law 1112 = .ok (.iload 13, 2) := by decide +kernel
theorem dL_law_1114 : decode cL_law 1114 = .ok (.bipush 20, 2) := by decide +kernel
theorem dL_law_1116 : decode cL_law 1116 = .ok (.idiv, 1) := by decide +kernel
theorem dL_law_1117 : decode cL_law 1117 = .ok (.iconst 0, 1) := by decide +kernel
theorem dL_law_1118 : decode cL_law 1118 = .ok (.invokevirtual 75, 3) := by decide +kernel
theorem dL_law_1121 : decode cL_law 1121 = .ok (.aload_n 1, 1) := by decide +kernel
theorem dL_law_1122 : decode cL_law 1122 = .ok (.iload 13, 2) := by decide +kernel
theorem dL_law_1124 : decode cL_law 1124 = .ok (.bipush 20, 2) := by decide +kernel
theorem dL_law_1126 : decode cL_law 1126 = .ok (.irem, 1) := by decide +kernel
theorem dL_law_1127 : decode cL_law 1127 = .ok (.iconst 0, 1) := by decide +kernel
theorem dL_law_1128 : decode cL_law 1128 = .ok (.invokevirtual 75, 3) := by decide +kernel
theorem dL_law_1131 : decode cL_law 1131 = .ok (.iadd, 1) := by decide +kernel
theorem dL_law_1132 : decode cL_law 1132 = .ok (.istore 14, 2) := by decide +kernel
theorem dL_law_1134 : decode cL_law 1134 = .ok (.aload_n 1, 1) := by decide +kernel
theorem dL_law_1135 : decode cL_law 1135 = .ok (.iload 13, 2) := by decide +kernel
theorem dL_law_1137 : decode cL_law 1137 = .ok (.bipush 20, 2) := by decide +kernel
theorem dL_law_1139 : decode cL_law 1139 = .ok (.idiv, 1) := by decide +kernel
theorem dL_law_1140 : decode cL_law 1140 = .ok (.iload 13, 2) := by decide +kernel
theorem dL_law_1142 : decode cL_law 1142 = .ok (.bipush 20, 2) := by decide +kernel
theorem dL_law_1144 : decode cL_law 1144 = .ok (.irem, 1) := by decide +kernel
theorem dL_law_1145 : decode cL_law 1145 = .ok (.invokevirtual 85, 3) := by decide +kernel
theorem dL_law_1148 : decode cL_law 1148 = .ok (.iload 14, 2) := by decide +kernel
theorem dL_law_1150 : decode cL_law 1150 = .ok (.if_icmp .ne 31, 3) := by decide +kernel
theorem dL_law_1153 : decode cL_law 1153 = .ok (.aload_n 1, 1) := by decide +kernel
theorem dL_law_1154 : decode cL_law 1154 = .ok (.iload 13, 2) := by decide +kernel
theorem dL_law_1156 : decode cL_law 1156 = .ok (.bipush 20, 2) := by decide +kernel
theorem dL_law_1158 : decode cL_law 1158 = .ok (.irem, 1) := by decide +kernel
theorem dL_law_1159 : decode cL_law 1159 = .ok (.iconst 2, 1) := by decide +kernel
theorem dL_law_1160 : decode cL_law 1160 = .ok (.invokevirtual 75, 3) := by decide +kernel
theorem dL_law_1163 : decode cL_law 1163 = .ok (.ifCond .ne 18, 3) := by decide +kernel
theorem dL_law_1166 : decode cL_law 1166 = .ok (.aload_n 1, 1) := by decide +kernel
theorem dL_law_1167 : decode cL_law 1167 = .ok (.iload 13, 2) := by decide +kernel
theorem dL_law_1169 : decode cL_law 1169 = .ok (.bipush 20, 2) := by decide +kernel
theorem dL_law_1171 : decode cL_law 1171 = .ok (.idiv, 1) := by decide +kernel
theorem dL_law_1172 : decode cL_law 1172 = .ok (.bipush 9, 2) := by decide +kernel
theorem dL_law_1174 : decode cL_law 1174 = .ok (.invokevirtual 75, 3) := by decide +kernel
theorem dL_law_1177 : decode cL_law 1177 = .ok (.iconst (-1), 1) := by decide +kernel
theorem dL_law_1178 : decode cL_law 1178 = .ok (.if_icmp .eq 210, 3) := by decide +kernel
theorem dL_law_1181 : decode cL_law 1181 = .ok (.iconst 0, 1) := by decide +kernel
theorem dL_law_1182 : decode cL_law 1182 = .ok (.ireturn, 1) := by decide +kernel
theorem dL_law_1183 : decode cL_law 1183 = .ok (.iload 12, 2) := by decide +kernel
theorem dL_law_1185 : decode cL_law 1185 = .ok (.ifCond .lt 203, 3) := by decide +kernel
theorem dL_law_1188 : decode cL_law 1188 = .ok (.aload_n 1, 1) := by decide +kernel
theorem dL_law_1189 : decode cL_law 1189 = .ok (.iload 12, 2) := by decide +kernel
theorem dL_law_1191 : decode cL_law 1191 = .ok (.iconst 2, 1) := by decide +kernel
theorem dL_law_1192 : decode cL_law 1192 = .ok (.invokevirtual 75, 3) := by decide +kernel
theorem dL_law_1195 : decode cL_law 1195 = .ok (.ifCond .eq 193, 3) := by decide +kernel
theorem dL_law_1198 : decode cL_law 1198 = .ok (.aload_n 1, 1) := by decide +kernel
theorem dL_law_1199 : decode cL_law 1199 = .ok (.iload 12, 2) := by decide +kernel
theorem dL_law_1201 : decode cL_law 1201 = .ok (.bipush 9, 2) := by decide +kernel
theorem dL_law_1203 : decode cL_law 1203 = .ok (.invokevirtual 75, 3) := by decide +kernel
theorem dL_law_1206 : decode cL_law 1206 = .ok (.ifCond .ge 6, 3) := by decide +kernel
theorem dL_law_1209 : decode cL_law 1209 = .ok (.goto 179, 3) := by decide +kernel
theorem dL_law_1212 : decode cL_law 1212 = .ok (.iconst 1, 1) := by decide +kernel
theorem dL_law_1213 : decode cL_law 1213 = .ok (.iload 7, 2) := by decide +kernel
theorem dL_law_1215 : decode cL_law 1215 = .ok (.iconst 3, 1) := by decide +kernel
theorem dL_law_1216 : decode cL_law 1216 = .ok (.ishr, 1) := by decide +kernel
theorem dL_law_1217 : decode cL_law 1217 = .ok (.sipush 200, 3) := by decide +kernel
theorem dL_law_1220 : decode cL_law 1220 = .ok (.invokestatic 18, 3) := by decide +kernel
theorem dL_law_1223 : decode cL_law 1223 = .ok (.iadd, 1) := by decide +kernel
theorem dL_law_1224 : decode cL_law 1224 = .ok (.istore 13, 2) := by decide +kernel
theorem dL_law_1226 : decode cL_law 1226 = .ok (.iload 4, 2) := by decide +kernel
theorem dL_law_1228 : decode cL_law 1228 = .ok (.aload_n 1, 1) := by decide +kernel
theorem dL_law_1229 : decode cL_law 1229 = .ok (.iload 12, 2) := by decide +kernel
theorem dL_law_1231 : decode cL_law 1231 = .ok (.iconst 0, 1) := by decide +kernel
theorem dL_law_1232 : decode cL_law 1232 = .ok (.invokevirtual 75, 3) := by decide +kernel
theorem dL_law_1235 : decode cL_law 1235 = .ok (.iload 13, 2) := by decide +kernel
theorem dL_law_1237 : decode cL_law 1237 = .ok (.imul, 1) := by decide +kernel
theorem dL_law_1238 : decode cL_law 1238 = .ok (.aload_n 1, 1) := by decide +kernel
theorem dL_law_1239 : decode cL_law 1239 = .ok (.iload 12, 2) := by decide +kernel
theorem dL_law_1241 : decode cL_law 1241 = .ok (.bipush 9, 2) := by decide +kernel
theorem dL_law_1243 : decode cL_law 1243 = .ok (.invokevirtual 75, 3) := by decide +kernel
theorem dL_law_1246 : decode cL_law 1246 = .ok (.bipush 80, 2) := by decide +kernel
theorem dL_law_1248 : decode cL_law 1248 = .ok (.if_icmp .lt 16, 3) := by decide +kernel
theorem dL_law_1251 : decode cL_law 1251 = .ok (.bipush 10, 2) := by decide +kernel
theorem dL_law_1253 : decode cL_law 1253 = .ok (.aload_n 1, 1) := by decide +kernel
theorem dL_law_1254 : decode cL_law 1254 = .ok (.iload 12, 2) := by decide +kernel
theorem dL_law_1256 : decode cL_law 1256 = .ok (.iconst 3, 1) := by decide +kernel
theorem dL_law_1257 : decode cL_law 1257 = .ok (.invokevirtual 75, 3) := by decide +kernel
theorem dL_law_1260 : decode cL_law 1260 = .ok (.imul, 1) := by decide +kernel
theorem dL_law_1261 : decode cL_law 1261 = .ok (.goto 4, 3) := by decide +kernel
theorem dL_law_1264 : decode cL_law 1264 = .ok (.iconst 0, 1) := by decide +kernel
theorem dL_law_1265 : decode cL_law 1265 = .ok (.iadd, 1) := by decide +kernel
theorem dL_law_1266 : decode cL_law 1266 = .ok (.iadd, 1) := by decide +kernel
theorem dL_law_1267 : decode cL_law 1267 = .ok (.istore 4, 2) := by decide +kernel
theorem dL_law_1269 : decode cL_law 1269 = .ok (.aload_n 1, 1) := by decide +kernel
theorem dL_law_1270 : decode cL_law 1270 = .ok (.bipush 6, 2) := by decide +kernel
theorem dL_law_1272 : decode cL_law 1272 = .ok (.invokevirtual 29, 3) := by decide +kernel
theorem dL_law_1275 : decode cL_law 1275 = .ok (.istore 14, 2) := by decide +kernel
theorem dL_law_1277 : decode cL_law 1277 = .ok (.aload_n 1, 1) := by decide +kernel
theorem dL_law_1278 : decode cL_law 1278 = .ok (.iload 12, 2) := by decide +kernel
theorem dL_law_1280 : decode cL_law 1280 = .ok (.iload 13, 2) := by decide +kernel
theorem dL_law_1282 : decode cL_law 1282 = .ok (.iconst 1, 1) := by decide +kernel
theorem dL_law_1283 : decode cL_law 1283 = .ok (.invokevirtual 88, 3) := by decide +kernel
theorem dL_law_1286 : decode cL_law 1286 = .ok (.aload_n 1, 1) := by decide +kernel
theorem dL_law_1287 : decode cL_law 1287 = .ok (.bipush 6, 2) := by decide +kernel
theorem dL_law_1289 : decode cL_law 1289 = .ok (.invokevirtual 29, 3) := by decide +kernel
theorem dL_law_1292 : decode cL_law 1292 = .ok (.iload 14, 2) := by decide +kernel
theorem dL_law_1294 : decode cL_law 1294 = .ok (.isub, 1) := by decide +kernel
theorem dL_law_1295 : decode cL_law 1295 = .ok (.if_icmp .ne 13, 3) := by decide +kernel
theorem dL_law_1298 : decode cL_law 1298 = .ok (.aload_n 1, 1) := by decide +kernel
theorem dL_law_1299 : decode cL_law 1299 = .ok (.iload 12, 2) := by decide +kernel
theorem dL_law_1301 : decode cL_law 1301 = .ok (.iconst 2, 1) := by decide +kernel
theorem dL_law_1302 : decode cL_law 1302 = .ok (.invokevirtual 75, 3) := by decide +kernel
theorem dL_law_1305 : decode cL_law 1305 = .ok (.ifCond .eq 83, 3) := by decide +kernel
theorem dL_law_1308 : decode cL_law 1308 = .ok (.iconst 0, 1) := by decide +kernel
theorem dL_law_1309 : decode cL_law 1309 = .ok (.ireturn, 1) := by decide +kernel
theorem dL_law_1310 : decode cL_law 1310 = .ok (.aload_n 1, 1) := by decide +kernel
theorem dL_law_1311 : decode cL_law 1311 = .ok (.iconst 0, 1) := by decide +kernel
theorem dL_law_1312 : decode cL_law 1312 = .ok (.invokevirtual 29, 3) := by decide +kernel
theorem dL_law_1315 : decode cL_law 1315 = .ok (.istore 13, 2) := by decide +kernel
theorem dL_law_1317 : decode cL_law 1317 = .ok (.iconst 1, 1) := by decide +kernel
theorem dL_law_1318 : decode cL_law 1318 = .ok (.iload 7, 2) := by decide +kernel
theorem dL_law_1320 : decode cL_law 1320 = .ok (.iconst 2, 1) := by decide +kernel
theorem dL_law_1321 : decode cL_law 1321 = .ok (.ishr, 1) := by decide +kernel
theorem dL_law_1322 : decode cL_law 1322 = .ok (.bipush 40, 2) := by decide +kernel
theorem dL_law_1324 : decode cL_law 1324 = .ok (.invokestatic 18, 3) := by decide +kernel
theorem dL_law_1327 : decode cL_law 1327 = .ok (.iadd, 1) := by decide +kernel
theorem dL_law_1328 : decode cL_law 1328 = .ok (.istore 14, 2) := by decide +kernel
theorem dL_law_1330 : decode cL_law 1330 = .ok (.aload_n 1, 1) := by decide +kernel
theorem dL_law_1331 : decode cL_law 1331 = .ok (.iload 14, 2) := by decide +kernel
theorem dL_law_1333 : decode cL_law 1333 = .ok (.iload 7, 2) := by decide +kernel
theorem dL_law_1335 : decode cL_law 1335 = .ok (.iconst 3, 1) := by decide +kernel
theorem dL_law_1336 : decode cL_law 1336 = .ok (.ishr, 1) := by decide +kernel
theorem dL_law_1337 : decode cL_law 1337 = .ok (.bipush 41, 2) := by decide +kernel
theorem dL_law_1339 : decode cL_law 1339 = .ok (.invokestatic 18, 3) := by decide +kernel
theorem dL_law_1342 : decode cL_law 1342 = .ok (.iload 7, 2) := by decide +kernel
theorem dL_law_1344 : decode cL_law 1344 = .ok (.bipush 6, 2) := by decide +kernel
theorem dL_law_1346 : decode cL_law 1346 = .ok (.ishr, 1) := by decide +kernel
theorem dL_law_1347 : decode cL_law 1347 = .ok (.iconst 3, 1) := by decide +kernel
theorem dL_law_1348 : decode cL_law 1348 = .ok (.invokestatic 18, 3) := by decide +kernel
theorem dL_law_1351 : decode cL_law 1351 = .ok (.ifCond .ne 15, 3) := by decide +kernel
theorem dL_law_1354 : decode cL_law 1354 = .ok (.iload 7, 2) := by decide +kernel
theorem dL_law_1356 : decode cL_law 1356 = .ok (.iconst 5, 1) := by decide +kernel
theorem dL_law_1357 : decode cL_law 1357 = .ok (.ishr, 1) := by decide +kernel
theorem dL_law_1358 : decode cL_law 1358 = .ok (.bipush 21, 2) := by decide +kernel
theorem dL_law_1360 : decode cL_law 1360 = .ok (.invokestatic 18, 3) := by decide +kernel
theorem dL_law_1363 : decode cL_law 1363 = .ok (.goto 4, 3) := by decide +kernel
theorem dL_law_1366 : decode cL_law 1366 = .ok (.iconst 0, 1) := by decide +kernel
theorem dL_law_1367 : decode cL_law 1367 = .ok (.invokevirtual 92, 3) := by decide +kernel
theorem dL_law_1370 : decode cL_law 1370 = .ok (.ifCond .lt 16, 3) := by decide +kernel
theorem dL_law_1373 : decode cL_law 1373 = .ok (.aload_n 1, 1) := by decide +kernel
theorem dL_law_1374 : decode cL_law 1374 = .ok (.iconst 0, 1) := by decide +kernel
theorem dL_law_1375 : decode cL_law 1375 = .ok (.invokevirtual 29, 3) := by decide +kernel
theorem dL_law_1378 : decode cL_law 1378 = .ok (.iload 13, 2) := by decide +kernel
theorem dL_law_1380 : decode cL_law 1380 = .ok (.iload 14, 2) := by decide +kernel
theorem dL_law_1382 : decode cL_law 1382 = .ok (.iadd, 1) := by decide +kernel
theorem dL_law_1383 : decode cL_law 1383 = .ok (.if_icmp .eq 5, 3) := by decide +kernel
theorem dL_law_1386 : decode cL_law 1386 = .ok (.iconst 0, 1) := by decide +kernel
theorem dL_law_1387 : decode cL_law 1387 = .ok (.ireturn, 1) := by decide +kernel
theorem dL_law_1388 : decode cL_law 1388 = .ok (.aload_n 1, 1) := by decide +kernel
theorem dL_law_1389 : decode cL_law 1389 = .ok (.bipush 6, 2) := by decide +kernel
theorem dL_law_1391 : decode cL_law 1391 = .ok (.invokevirtual 29, 3) := by decide +kernel
theorem dL_law_1394 : decode cL_law 1394 = .ok (.aload_n 1, 1) := by decide +kernel
theorem dL_law_1395 : decode cL_law 1395 = .ok (.bipush 15, 2) := by decide +kernel
theorem dL_law_1397 : decode cL_law 1397 = .ok (.invokevirtual 29, 3) := by decide +kernel
theorem dL_law_1400 : decode cL_law 1400 = .ok (.iadd, 1) := by decide +kernel
theorem dL_law_1401 : decode cL_law 1401 = .ok (.iload 4, 2) := by decide +kernel
theorem dL_law_1403 : decode cL_law 1403 = .ok (.if_icmp .ne 12, 3) := by decide +kernel
theorem dL_law_1406 : decode cL_law 1406 = .ok (.aload_n 1, 1) := by decide +kernel
theorem dL_law_1407 : decode cL_law 1407 = .ok (.iload_n 2, 1) := by decide +kernel
theorem dL_law_1408 : decode cL_law 1408 = .ok (.iload_n 3, 1) := by decide +kernel
theorem dL_law_1409 : decode cL_law 1409 = .ok (.invokestatic 95, 3) := by decide +kernel
theorem dL_law_1412 : decode cL_law 1412 = .ok (.ifCond .ne 5, 3) := by decide +kernel
theorem dL_law_1415 : decode cL_law 1415 = .ok (.iconst 0, 1) := by decide +kernel
theorem dL_law_1416 : decode cL_law 1416 = .ok (.ireturn, 1) := by decide +kernel
theorem dL_law_1417 : decode cL_law 1417 = .ok (.iinc 6 1, 3) := by decide +kernel
theorem dL_law_1420 : decode cL_law 1420 = .ok (.goto (-1297), 3) := by decide +kernel
theorem dL_law_1423 : decode cL_law 1423 = .ok (.aload_n 1, 1) := by decide +kernel
theorem dL_law_1424 : decode cL_law 1424 = .ok (.invokevirtual 99, 3) := by decide +kernel
theorem dL_law_1427 : decode cL_law 1427 = .ok (.lstore 6, 2) := by decide +kernel
theorem dL_law_1429 : decode cL_law 1429 = .ok (.aload_n 1, 1) := by decide +kernel
theorem dL_law_1430 : decode cL_law 1430 = .ok (.iload_n 2, 1) := by decide +kernel
theorem dL_law_1431 : decode cL_law 1431 = .ok (.iload_n 3, 1) := by decide +kernel
theorem dL_law_1432 : decode cL_law 1432 = .ok (.invokestatic 95, 3) := by decide +kernel
theorem dL_law_1435 : decode cL_law 1435 = .ok (.ifCond .eq 17, 3) := by decide +kernel
theorem dL_law_1438 : decode cL_law 1438 = .ok (.aload_n 1, 1) := by decide +kernel
theorem dL_law_1439 : decode cL_law 1439 = .ok (.invokevirtual 99, 3) := by decide +kernel
theorem dL_law_1442 : decode cL_law 1442 = .ok (.lload 6, 2) := by decide +kernel
theorem dL_law_1444 : decode cL_law 1444 = .ok (.lcmp, 1) := by decide +kernel
theorem dL_law_1445 : decode cL_law 1445 = .ok (.ifCond .ne 7, 3) := by decide +kernel
theorem dL_law_1448 : decode cL_law 1448 = .ok (.iconst 1, 1) := by decide +kernel
theorem dL_law_1449 : decode cL_law 1449 = .ok (.goto 4, 3) := by decide +kernel
theorem dL_law_1452 : decode cL_law 1452 = .ok (.iconst 0, 1) := by decide +kernel
theorem dL_law_1453 : decode cL_law 1453 = .ok (.ireturn, 1) := by decide +kernel
theorem dL_pulp_0 : decode cL_pulp 0 = .ok (.aload_n 0, 1) := by decide +kernel
theorem dL_pulp_1 : decode cL_pulp 1 = .ok (.iload_n 1, 1) := by decide +kernel
theorem dL_pulp_2 : decode cL_pulp 2 = .ok (.iload_n 2, 1) := by decide +kernel
theorem dL_pulp_3 : decode cL_pulp 3 = .ok (.invokevirtual 103, 3) := by decide +kernel
theorem dL_pulp_6 : decode cL_pulp 6 = .ok (.ireturn, 1) := by decide +kernel
theorem dL_pulp_7 : decode cL_pulp 7 = .ok (.astore_n 3, 1) := by decide +kernel
theorem dL_pulp_8 : decode cL_pulp 8 = .ok (.iconst (-1), 1) := by decide +kernel
theorem dL_pulp_9 : decode cL_pulp 9 = .ok (.ireturn, 1) := by decide +kernel
theorem dL_wash_0 : decode cL_wash 0 = .ok (.aload_n 0, 1) := by decide +kernel
theorem dL_wash_1 : decode cL_wash 1 = .ok (.iload_n 1, 1) := by decide +kernel
theorem dL_wash_2 : decode cL_wash 2 = .ok (.iload_n 2, 1) := by decide +kernel
theorem dL_wash_3 : decode cL_wash 3 = .ok (.iload_n 3, 1) := by decide +kernel
theorem dL_wash_4 : decode cL_wash 4 = .ok (.invokevirtual 107, 3) := by decide +kernel
theorem dL_wash_7 : decode cL_wash 7 = .ok (.ireturn, 1) := by decide +kernel
theorem dL_wash_8 : decode cL_wash 8 = .ok (.astore 4, 2) := by decide +kernel
theorem dL_wash_10 : decode cL_wash 10 = .ok (.iconst (-1), 1) := by decide +kernel
theorem dL_wash_11 : decode cL_wash 11 = .ok (.ireturn, 1) := by decide +kernel
theorem dL_whole_0 : decode cL_whole 0 = .ok (.aload_n 0, 1) := by decide +kernel
theorem dL_whole_1 : decode cL_whole 1 = .ok (.iload_n 1, 1) := by decide +kernel
theorem dL_whole_2 : decode cL_whole 2 = .ok (.iload_n 2, 1) := by decide +kernel
theorem dL_whole_3 : decode cL_whole 3 = .ok (.invokevirtual 109, 3) := by decide +kernel
theorem dL_whole_6 : decode cL_whole 6 = .ok (.ireturn, 1) := by decide +kernel
theorem dL_whole_7 : decode cL_whole 7 = .ok (.astore_n 3, 1) := by decide +kernel
theorem dL_whole_8 : decode cL_whole 8 = .ok (.iconst (-1), 1) := by decide +kernel
theorem dL_whole_9 : decode cL_whole 9 = .ok (.ireturn, 1) := by decide +kernel
theorem dL_isSo_0 : decode cL_isSo 0 = .ok (.iconst 0, 1) := by decide +kernel
theorem dL_isSo_1 : decode cL_isSo 1 = .ok (.istore_n 3, 1) := by decide +kernel
theorem dL_isSo_2 : decode cL_isSo 2 = .ok (.iconst 0, 1) := by decide +kernel
theorem dL_isSo_3 : decode cL_isSo 3 = .ok (.istore 4, 2) := by decide +kernel
theorem dL_isSo_5 : decode cL_isSo 5 = .ok (.iconst 0, 1) := by decide +kernel
theorem dL_isSo_6 : decode cL_isSo 6 = .ok (.istore 5, 2) := by decide +kernel
theorem dL_isSo_8 : decode cL_isSo 8 = .ok (.iload 5, 2) := by decide +kernel
theorem dL_isSo_10 : decode cL_isSo 10 = .ok (.iload_n 1, 1) := by decide +kernel
theorem dL_isSo_11 : decode cL_isSo 11 = .ok (.if_icmp .ge 95, 3) := by decide +kernel
theorem dL_isSo_14 : decode cL_isSo 14 = .ok (.iload_n 3, 1) := by decide +kernel
theorem dL_isSo_15 : decode cL_isSo 15 = .ok (.aload_n 0, 1) := by decide +kernel
theorem dL_isSo_16 : decode cL_isSo 16 = .ok (.iload 5, 2) := by decide +kernel
theorem dL_isSo_18 : decode cL_isSo 18 = .ok (.iconst 3, 1) := by decide +kernel
theorem dL_isSo_19 : decode cL_isSo 19 = .ok (.invokevirtual 32, 3) := by decide +kernel
theorem dL_isSo_22 : decode cL_isSo 22 = .ok (.iadd, 1) := by decide +kernel
theorem dL_isSo_23 : decode cL_isSo 23 = .ok (.istore_n 3, 1) := by decide +kernel
theorem dL_isSo_24 : decode cL_isSo 24 = .ok (.iload 4, 2) := by decide +kernel
theorem dL_isSo_26 : decode cL_isSo 26 = .ok (.aload_n 0, 1) := by decide +kernel
theorem dL_isSo_27 : decode cL_isSo 27 = .ok (.iload 5, 2) := by decide +kernel
theorem dL_isSo_29 : decode cL_isSo 29 = .ok (.iconst 2, 1) := by decide +kernel
theorem dL_isSo_30 : decode cL_isSo 30 = .ok (.invokevirtual 32, 3) := by decide +kernel
theorem dL_isSo_33 : decode cL_isSo 33 = .ok (.iadd, 1) := by decide +kernel
theorem dL_isSo_34 : decode cL_isSo 34 = .ok (.istore 4, 2) := by decide +kernel
theorem dL_isSo_36 : decode cL_isSo 36 = .ok (.iconst 0, 1) := by decide +kernel
theorem dL_isSo_37 : decode cL_isSo 37 = .ok (.istore 6, 2) := by decide +kernel
theorem dL_isSo_39 : decode cL_isSo 39 = .ok (.iconst 0, 1) := by decide +kernel
theorem dL_isSo_40 : decode cL_isSo 40 = .ok (.istore 7, 2) := by decide +kernel
theorem dL_isSo_42 : decode cL_isSo 42 = .ok (.iload 7, 2) := by decide +kernel
theorem dL_isSo_44 : decode cL_isSo 44 = .ok (.aload_n 0, 1) := by decide +kernel
theorem dL_isSo_45 : decode cL_isSo 45 = .ok (.iconst 4, 1) := by decide +kernel
theorem dL_isSo_46 : decode cL_isSo 46 = .ok (.invokevirtual 29, 3) := by decide +kernel
theorem dL_isSo_49 : decode cL_isSo 49 = .ok (.if_icmp .ge 37, 3) := by decide +kernel
theorem dL_isSo_52 : decode cL_isSo 52 = .ok (.iload 6, 2) := by decide +kernel
theorem dL_isSo_54 : decode cL_isSo 54 = .ok (.aload_n 0, 1) := by decide +kernel
theorem dL_isSo_55 : decode cL_isSo 55 = .ok (.iload 7, 2) := by decide +kernel
theorem dL_isSo_57 : decode cL_isSo 57 = .ok (.iconst 2, 1) := by decide +kernel
theorem dL_isSo_58 : decode cL_isSo 58 = .ok (.invokevirtual 75, 3) := by decide +kernel
theorem dL_isSo_61 : decode cL_isSo 61 = .ok (.iconst 1, 1) := by decide +kernel
theorem dL_isSo_62 : decode cL_isSo 62 = .ok (.if_icmp .ne 14, 3) := by decide +kernel
theorem dL_isSo_65 : decode cL_isSo 65 = .ok (.aload_n 0, 1) := by decide +kernel
theorem dL_isSo_66 : decode cL_isSo 66 = .ok (.iload 7, 2) := by decide +kernel
theorem dL_isSo_68 : decode cL_isSo 68 = .ok (.iload 5, 2) := by decide +kernel
theorem dL_isSo_70 : decode cL_isSo 70 = .ok (.invokevirtual 111, 3) := by decide +kernel
theorem dL_isSo_73 : decode cL_isSo 73 = .ok (.goto 4, 3) := by decide +kernel
theorem dL_isSo_76 : decode cL_isSo 76 = .ok (.iconst 0, 1) := by decide +kernel
theorem dL_isSo_77 : decode cL_isSo 77 = .ok (.iadd, 1) := by decide +kernel
theorem dL_isSo_78 : decode cL_isSo 78 = .ok (.istore 6, 2) := by decide +kernel
theorem dL_isSo_80 : decode cL_isSo 80 = .ok (.iinc 7 1, 3) := by decide +kernel
theorem dL_isSo_83 : decode cL_isSo 83 = .ok (.goto (-41), 3) := by decide +kernel
theorem dL_isSo_86 : decode cL_isSo 86 = .ok (.aload_n 0, 1) := by decide +kernel
theorem dL_isSo_87 : decode cL_isSo 87 = .ok (.iload 5, 2) := by decide +kernel
theorem dL_isSo_89 : decode cL_isSo 89 = .ok (.iconst 4, 1) := by decide +kernel
theorem dL_isSo_90 : decode cL_isSo 90 = .ok (.invokevirtual 32, 3) := by decide +kernel
theorem dL_isSo_93 : decode cL_isSo 93 = .ok (.iload 6, 2) := by decide +kernel
theorem dL_isSo_95 : decode cL_isSo 95 = .ok (.if_icmp .eq 5, 3) := by decide +kernel
theorem dL_isSo_98 : decode cL_isSo 98 = .ok (.iconst 0, 1) := by decide +kernel
theorem dL_isSo_99 : decode cL_isSo 99 = .ok (.ireturn, 1) := by decide +kernel
theorem dL_isSo_100 : decode cL_isSo 100 = .ok (.iinc 5 1, 3) := by decide +kernel
theorem dL_isSo_103 : decode cL_isSo 103 = .ok (.goto (-95), 3) := by decide +kernel
theorem dL_isSo_106 : decode cL_isSo 106 = .ok (.iconst 0, 1) := by decide +kernel
theorem dL_isSo_107 : decode cL_isSo 107 = .ok (.istore 5, 2) := by decide +kernel
theorem dL_isSo_109 : decode cL_isSo 109 = .ok (.iconst 0, 1) := by decide +kernel
theorem dL_isSo_110 : decode cL_isSo 110 = .ok (.istore 6, 2) := by decide +kernel
theorem dL_isSo_112 : decode cL_isSo 112 = .ok (.iload 6, 2) := by decide +kernel
theorem dL_isSo_114 : decode cL_isSo 114 = .ok (.aload_n 0, 1) := by decide +kernel
theorem dL_isSo_115 : decode cL_isSo 115 = .ok (.iconst 2, 1) := by decide +kernel
theorem dL_isSo_116 : decode cL_isSo 116 = .ok (.invokevirtual 29, 3) := by decide +kernel
theorem dL_isSo_119 : decode cL_isSo 119 = .ok (.if_icmp .ge 88, 3) := by decide +kernel
theorem dL_isSo_122 : decode cL_isSo 122 = .ok (.aload_n 0, 1) := by decide +kernel
theorem dL_isSo_123 : decode cL_isSo 123 = .ok (.iload 6, 2) := by decide +kernel
theorem dL_isSo_125 : decode cL_isSo 125 = .ok (.iconst 3, 1) := by decide +kernel
theorem dL_isSo_126 : decode cL_isSo 126 = .ok (.invokevirtual 45, 3) := by decide +kernel
theorem dL_isSo_129 : decode cL_isSo 129 = .ok (.istore 7, 2) := by decide +kernel
theorem dL_isSo_131 : decode cL_isSo 131 = .ok (.iload 5, 2) := by decide +kernel
theorem dL_isSo_133 : decode cL_isSo 133 = .ok (.iload 7, 2) := by decide +kernel
theorem dL_isSo_135 : decode cL_isSo 135 = .ok (.ifCond .ne 13, 3) := by decide +kernel
theorem dL_isSo_138 : decode cL_isSo 138 = .ok (.aload_n 0, 1) := by decide +kernel
theorem dL_isSo_139 : decode cL_isSo 139 = .ok (.iload 6, 2) := by decide +kernel
theorem dL_isSo_141 : decode cL_isSo 141 = .ok (.iconst 1, 1) := by decide +kernel
theorem dL_isSo_142 : decode cL_isSo 142 = .ok (.invokevirtual 45, 3) := by decide +kernel
theorem dL_isSo_145 : decode cL_isSo 145 = .ok (.goto 4, 3) := by decide +kernel
theorem dL_isSo_148 : decode cL_isSo 148 = .ok (.iconst 0, 1) := by decide +kernel
theorem dL_isSo_149 : decode cL_isSo 149 = .ok (.iadd, 1) := by decide +kernel
theorem dL_isSo_150 : decode cL_isSo 150 = .ok (.istore 5, 2) := by decide +kernel
theorem dL_isSo_152 : decode cL_isSo 152 = .ok (.aload_n 0, 1) := by decide +kernel
theorem dL_isSo_153 : decode cL_isSo 153 = .ok (.iload 6, 2) := by decide +kernel
theorem dL_isSo_155 : decode cL_isSo 155 = .ok (.iconst 4, 1) := by decide +kernel
theorem dL_isSo_156 : decode cL_isSo 156 = .ok (.invokevirtual 45, 3) := by decide +kernel
theorem dL_isSo_159 : decode cL_isSo 159 = .ok (.bipush 25, 2) := by decide +kernel
theorem dL_isSo_161 : decode cL_isSo 161 = .ok (.if_icmp .gt 38, 3) := by decide +kernel
theorem dL_isSo_164 : decode cL_isSo 164 = .ok (.iload 7, 2) := by decide +kernel
theorem dL_isSo_166 : decode cL_isSo 166 = .ok (.ifCond .ne 15, 3) := by decide +kernel
theorem dL_isSo_169 : decode cL_isSo 169 = .ok (.aload_n 0, 1) := by decide +kernel
theorem dL_isSo_170 : decode cL_isSo 170 = .ok (.iload 6, 2) := by decide +kernel
theorem dL_isSo_172 : decode cL_isSo 172 = .ok (.iconst 4, 1) := by decide +kernel
theorem dL_isSo_173 : decode cL_isSo 173 = .ok (.invokevirtual 45, 3) := by decide +kernel
theorem dL_isSo_176 : decode cL_isSo 176 = .ok (.bipush 24, 2) := by decide +kernel
theorem dL_isSo_178 : decode cL_isSo 178 = .ok (.if_icmp .gt 21, 3) := by decide +kernel
theorem dL_isSo_181 : decode cL_isSo 181 = .ok (.iload 7, 2) := by decide +kernel
theorem dL_isSo_183 : decode cL_isSo 183 = .ok (.iconst 3, 1) := by decide +kernel
theorem dL_isSo_184 : decode cL_isSo 184 = .ok (.if_icmp .ne 17, 3) := by decide +kernel
theorem dL_isSo_187 : decode cL_isSo 187 = .ok (.aload_n 0, 1) := by decide +kernel
theorem dL_isSo_188 : decode cL_isSo 188 = .ok (.iload 6, 2) := by decide +kernel
theorem dL_isSo_190 : decode cL_isSo 190 = .ok (.iconst 4, 1) := by decide +kernel
theorem dL_isSo_191 : decode cL_isSo 191 = .ok (.invokevirtual 45, 3) := by decide +kernel
theorem dL_isSo_194 : decode cL_isSo 194 = .ok (.bipush 25, 2) := by decide +kernel
theorem dL_isSo_196 : decode cL_isSo 196 = .ok (.if_icmp .eq 5, 3) := by decide +kernel
theorem dL_isSo_199 : decode cL_isSo 199 = .ok (.iconst 0, 1) := by decide +kernel
theorem dL_isSo_200 : decode cL_isSo 200 = .ok (.ireturn, 1) := by decide +kernel
theorem dL_isSo_201 : decode cL_isSo 201 = .ok (.iinc 6 1, 3) := by decide +kernel
theorem dL_isSo_204 : decode cL_isSo 204 = .ok (.goto (-92), 3) := by decide +kernel
theorem dL_isSo_207 : decode cL_isSo 207 = .ok (.iconst 0, 1) := by decide +kernel
theorem dL_isSo_208 : decode cL_isSo 208 = .ok (.istore 6, 2) := by decide +kernel
theorem dL_isSo_210 : decode cL_isSo 210 = .ok (.iconst 0, 1) := by decide +kernel
theorem dL_isSo_211 : decode cL_isSo 211 = .ok (.istore 7, 2) := by decide +kernel
theorem dL_isSo_213 : decode cL_isSo 213 = .ok (.iload 7, 2) := by decide +kernel
theorem dL_isSo_215 : decode cL_isSo 215 = .ok (.iconst 3, 1) := by decide +kernel
theorem dL_isSo_216 : decode cL_isSo 216 = .ok (.if_icmp .ge 109, 3) := by decide +kernel
theorem dL_isSo_219 : decode cL_isSo 219 = .ok (.iload 6, 2) := by decide +kernel
theorem dL_isSo_221 : decode cL_isSo 221 = .ok (.aload_n 0, 1) := by decide +kernel
theorem dL_isSo_222 : decode cL_isSo 222 = .ok (.iload 7, 2) := by decide +kernel
theorem dL_isSo_224 : decode cL_isSo 224 = .ok (.iconst 0, 1) := by decide +kernel
theorem dL_isSo_225 : decode cL_isSo 225 = .ok (.invokevirtual 48, 3) := by decide +kernel
theorem dL_isSo_228 : decode cL_isSo 228 = .ok (.iadd, 1) := by decide +kernel
theorem dL_isSo_229 : decode cL_isSo 229 = .ok (.istore 6, 2) := by decide +kernel
theorem dL_isSo_231 : decode cL_isSo 231 = .ok (.aload_n 0, 1) := by decide +kernel
theorem dL_isSo_232 : decode cL_isSo 232 = .ok (.iload 7, 2) := by decide +kernel
theorem dL_isSo_234 : decode cL_isSo 234 = .ok (.iconst 0, 1) := by decide +kernel
theorem dL_isSo_235 : decode cL_isSo 235 = .ok (.invokevirtual 48, 3) := by decide +kernel
theorem dL_isSo_238 : decode cL_isSo 238 = .ok (.sipush 300, 3) := by decide +kernel
theorem dL_isSo_241 : decode cL_isSo 241 = .ok (.if_icmp .gt 76, 3) := by decide +kernel
theorem dL_isSo_244 : decode cL_isSo 244 = .ok (.aload_n 0, 1) := by decide +kernel
theorem dL_isSo_245 : decode cL_isSo 245 = .ok (.iload 7, 2) := by decide +kernel
theorem dL_isSo_247 : decode cL_isSo 247 = .ok (.iconst 1, 1) := by decide +kernel
theorem dL_isSo_248 : decode cL_isSo 248 = .ok (.invokevirtual 48, 3) := by decide +kernel
theorem dL_isSo_251 : decode cL_isSo 251 = .ok (.bipush 100, 2) := by decide +kernel
theorem dL_isSo_253 : decode cL_isSo 253 = .ok (.if_icmp .gt 64, 3) := by decide +kernel
theorem dL_isSo_256 : decode cL_isSo 256 = .ok (.aload_n 0, 1) := by decide +kernel
theorem dL_isSo_257 : decode cL_isSo 257 = .ok (.iload 7, 2) := by decide +kernel
theorem dL_isSo_259 : decode cL_isSo 259 = .ok (.iconst 4, 1) := by decide +kernel
theorem dL_isSo_260 : decode cL_isSo 260 = .ok (.invokevirtual 48, 3) := by decide +kernel
theorem dL_isSo_263 : decode cL_isSo 263 = .ok (.aload_n 0, 1) := by decide +kernel
theorem dL_isSo_264 : decode cL_isSo 264 = .ok (.iload 7, 2) := by decide +kernel
theorem dL_isSo_266 : decode cL_isSo 266 = .ok (.iconst 0, 1) := by decide +kernel
theorem dL_isSo_267 : decode cL_isSo 267 = .ok (.invokevirtual 48, 3) := by decide +kernel
theorem dL_isSo_270 : decode cL_isSo 270 = .ok (.if_icmp .gt 47, 3) := by decide +kernel
theorem dL_isSo_273 : decode cL_isSo 273 = .ok (.aload_n 0, 1) := by decide +kernel
theorem dL_isSo_274 : decode cL_isSo 274 = .ok (.iload 7, 2) := by decide +kernel
theorem dL_isSo_276 : decode cL_isSo 276 = .ok (.iconst 0, 1) := by decide +kernel
theorem dL_isSo_277 : decode cL_isSo 277 = .ok (.invokevirtual 48, 3) := by decide +kernel
theorem dL_isSo_280 : decode cL_isSo 280 = .ok (.ifCond .ne 39, 3) := by decide +kernel
theorem dL_isSo_283 : decode cL_isSo 283 = .ok (.aload_n 0, 1) := by decide +kernel
theorem dL_isSo_284 : decode cL_isSo 284 = .ok (.iload 7, 2) := by decide +kernel
theorem dL_isSo_286 : decode cL_isSo 286 = .ok (.iconst 1, 1) := by decide +kernel
theorem dL_isSo_287 : decode cL_isSo 287 = .ok (.invokevirtual 48, 3) := by decide +kernel
theorem dL_isSo_290 : decode cL_isSo 290 = .ok (.aload_n 0, 1) := by decide +kernel
theorem dL_isSo_291 : decode cL_isSo 291 = .ok (.iload 7, 2) := by decide +kernel
theorem dL_isSo_293 : decode cL_isSo 293 = .ok (.iconst 2, 1) := by decide +kernel
theorem dL_isSo_294 : decode cL_isSo 294 = .ok (.invokevirtual 48, 3) := by decide +kernel
theorem dL_isSo_297 : decode cL_isSo 297 = .ok (.iadd, 1) := by decide +kernel
theorem dL_isSo_298 : decode cL_isSo 298 = .ok (.aload_n 0, 1) := by decide +kernel
theorem dL_isSo_299 : decode cL_isSo 299 = .ok (.iload 7, 2) := by decide +kernel
theorem dL_isSo_301 : decode cL_isSo 301 = .ok (.iconst 3, 1) := by decide +kernel
theorem dL_isSo_302 : decode cL_isSo 302 = .ok (.invokevirtual 48, 3) := by decide +kernel
theorem dL_isSo_305 : decode cL_isSo 305 = .ok (.iadd, 1) := by decide +kernel
theorem dL_isSo_306 : decode cL_isSo 306 = .ok (.aload_n 0, 1) := by decide +kernel
theorem dL_isSo_307 : decode cL_isSo 307 = .ok (.iload 7, 2) := by decide +kernel
theorem dL_isSo_309 : decode cL_isSo 309 = .ok (.iconst 4, 1) := by decide +kernel
theorem dL_isSo_310 : decode cL_isSo 310 = .ok (.invokevirtual 48, 3) := by decide +kernel
theorem dL_isSo_313 : decode cL_isSo 313 = .ok (.iadd, 1) := by decide +kernel
theorem dL_isSo_314 : decode cL_isSo 314 = .ok (.ifCond .eq 5, 3) := by decide +kernel
theorem dL_isSo_317 : decode cL_isSo 317 = .ok (.iconst 0, 1) := by decide +kernel
theorem dL_isSo_318 : decode cL_isSo 318 = .ok (.ireturn, 1) := by decide +kernel
theorem dL_isSo_319 : decode cL_isSo 319 = .ok (.iinc 7 1, 3) := by decide +kernel
theorem dL_isSo_322 : decode cL_isSo 322 = .ok (.goto (-109), 3) := by decide +kernel
theorem dL_isSo_325 : decode cL_isSo 325 = .ok (.iconst 0, 1) := by decide +kernel
theorem dL_isSo_326 : decode cL_isSo 326 = .ok (.istore 7, 2) := by decide +kernel
theorem dL_isSo_328 : decode cL_isSo 328 = .ok (.iconst 0, 1) := by decide +kernel
theorem dL_isSo_329 : decode cL_isSo 329 = .ok (.istore 8, 2) := by decide +kernel
theorem dL_isSo_331 : decode cL_isSo 331 = .ok (.iload 8, 2) := by decide +kernel
theorem dL_isSo_333 : decode cL_isSo 333 = .ok (.iload_n 2, 1) := by decide +kernel
theorem dL_isSo_334 : decode cL_isSo 334 = .ok (.if_icmp .ge 150, 3) := by decide +kernel
theorem dL_isSo_337 : decode cL_isSo 337 = .ok (.aload_n 0, 1) := by decide +kernel
theorem dL_isSo_338 : decode cL_isSo 338 = .ok (.iload 8, 2) := by decide +kernel
theorem dL_isSo_340 : decode cL_isSo 340 = .ok (.iconst 2, 1) := by decide +kernel
theorem dL_isSo_341 : decode cL_isSo 341 = .ok (.invokevirtual 55, 3) := by decide +kernel
theorem dL_isSo_344 : decode cL_isSo 344 = .ok (.ifCond .le 7, 3) := by decide +kernel
theorem dL_isSo_347 : decode cL_isSo 347 = .ok (.iconst 1, 1) := by decide +kernel
theorem dL_isSo_348 : decode cL_isSo 348 = .ok (.goto 4, 3) := by decide +kernel
theorem dL_isSo_351 : decode cL_isSo 351 = .ok (.iconst 0, 1) := by decide +kernel
theorem dL_isSo_352 : decode cL_isSo 352 = .ok (.istore 9, 2) := by decide +kernel
theorem dL_isSo_354 : decode cL_isSo 354 = .ok (.iload 7, 2) := by decide +kernel
theorem dL_isSo_356 : decode cL_isSo 356 = .ok (.aload_n 0, 1) := by decide +kernel
theorem dL_isSo_357 : decode cL_isSo 357 = .ok (.iload 8, 2) := by decide +kernel
theorem dL_isSo_359 : decode cL_isSo 359 = .ok (.iconst 2, 1) := by decide +kernel
theorem dL_isSo_360 : decode cL_isSo 360 = .ok (.invokevirtual 55, 3) := by decide +kernel
theorem dL_isSo_363 : decode cL_isSo 363 = .ok (.iadd, 1) := by decide +kernel
theorem dL_isSo_364 : decode cL_isSo 364 = .ok (.istore 7, 2) := by decide +kernel
theorem dL_isSo_366 : decode cL_isSo 366 = .ok (.aload_n 0, 1) := by decide +kernel
theorem dL_isSo_367 : decode cL_isSo 367 = .ok (.iload 8, 2) := by decide +kernel
theorem dL_isSo_369 : decode cL_isSo 369 = .ok (.iconst 2, 1) := by decide +kernel
theorem dL_isSo_370 : decode cL_isSo 370 = .ok (.invokevirtual 55, 3) := by decide +kernel
theorem dL_isSo_373 : decode cL_isSo 373 = .ok (.bipush 12, 2) := by decide +kernel
theorem dL_isSo_375 : decode cL_isSo 375 = .ok (.aload_n 0, 1) := by decide +kernel
theorem dL_isSo_376 : decode cL_isSo 376 = .ok (.iload 8, 2) := by decide +kernel
theorem dL_isSo_378 : decode cL_isSo 378 = .ok (.iconst 0, 1) := by decide +kernel
theorem dL_isSo_379 : decode cL_isSo 379 = .ok (.invokevirtual 55, 3) := by decide +kernel
theorem dL_isSo_382 : decode cL_isSo 382 = .ok (.imul, 1) := by decide +kernel
theorem dL_isSo_383 : decode cL_isSo 383 = .ok (.if_icmp .gt 93, 3) := by decide +kernel
theorem dL_isSo_386 : decode cL_isSo 386 = .ok (.iload 9, 2) := by decide +kernel
theorem dL_isSo_388 : decode cL_isSo 388 = .ok (.ifCond .eq 39, 3) := by decide +kernel
theorem dL_isSo_391 : decode cL_isSo 391 = .ok (.aload_n 0, 1) := by decide +kernel
theorem dL_isSo_392 : decode cL_isSo 392 = .ok (.iload 8, 2) := by decide +kernel
theorem dL_isSo_394 : decode cL_isSo 394 = .ok (.iconst 4, 1) := by decide +kernel
theorem dL_isSo_395 : decode cL_isSo 395 = .ok (.invokevirtual 55, 3) := by decide +kernel
theorem dL_isSo_398 : decode cL_isSo 398 = .ok (.bipush 80, 2) := by decide +kernel
theorem dL_isSo_400 : decode cL_isSo 400 = .ok (.if_icmp .lt 76, 3) := by decide +kernel
theorem dL_isSo_403 : decode cL_isSo 403 = .ok (.aload_n 0, 1) := by decide +kernel
theorem dL_isSo_404 : decode cL_isSo 404 = .ok (.iload 8, 2) := by decide +kernel
theorem dL_isSo_406 : decode cL_isSo 406 = .ok (.iconst 4, 1) := by decide +kernel
theorem dL_isSo_407 : decode cL_isSo 407 = .ok (.invokevirtual 55, 3) := by decide +kernel
theorem dL_isSo_410 : decode cL_isSo 410 = .ok (.sipush 600, 3) := by decide +kernel
theorem dL_isSo_413 : decode cL_isSo 413 = .ok (.if_icmp .gt 63, 3) := by decide +kernel
theorem dL_isSo_416 : decode cL_isSo 416 = .ok (.aload_n 0, 1) := by decide +kernel
theorem dL_isSo_417 : decode cL_isSo 417 = .ok (.iload 8, 2) := by decide +kernel
theorem dL_isSo_419 : decode cL_isSo 419 = .ok (.iconst 3, 1) := by decide +kernel
theorem dL_isSo_420 : decode cL_isSo 420 = .ok (.invokevirtual 55, 3) := by decide +kernel
theorem dL_isSo_423 : decode cL_isSo 423 = .ok (.iconst 2, 1) := by decide +kernel
theorem dL_isSo_424 : decode cL_isSo 424 = .ok (.if_icmp .gt 52, 3) := by decide +kernel
theorem dL_isSo_427 : decode cL_isSo 427 = .ok (.iload 9, 2) := by decide +kernel
theorem dL_isSo_429 : decode cL_isSo 429 = .ok (.ifCond .ne 49, 3) := by decide +kernel
theorem dL_isSo_432 : decode cL_isSo 432 = .ok (.aload_n 0, 1) := by decide +kernel
theorem dL_isSo_433 : decode cL_isSo 433 = .ok (.iload 8, 2) := by decide +kernel
theorem dL_isSo_435 : decode cL_isSo 435 = .ok (.iconst 3, 1) := by decide +kernel
theorem dL_isSo_436 : decode cL_isSo 436 = .ok (.invokevirtual 55, 3) := by decide +kernel
theorem dL_isSo_439 : decode cL_isSo 439 = .ok (.aload_n 0, 1) := by decide +kernel
theorem dL_isSo_440 : decode cL_isSo 440 = .ok (.iload 8, 2) := by decide +kernel
theorem dL_isSo_442 : decode cL_isSo 442 = .ok (.iconst 4, 1) := by decide +kernel
theorem dL_isSo_443 : decode cL_isSo 443 = .ok (.invokevirtual 55, 3) := by decide +kernel
theorem dL_isSo_446 : decode cL_isSo 446 = .ok (.iadd, 1) := by decide +kernel
theorem dL_isSo_447 : decode cL_isSo 447 = .ok (.aload_n 0, 1) := by decide +kernel
theorem dL_isSo_448 : decode cL_isSo 448 = .ok (.iload 8, 2) := by decide +kernel
theorem dL_isSo_450 : decode cL_isSo 450 = .ok (.iconst 5, 1) := by decide +kernel
theorem dL_isSo_451 : decode cL_isSo 451 = .ok (.invokevirtual 55, 3) := by decide +kernel
theorem dL_isSo_454 : decode cL_isSo 454 = .ok (.iadd, 1) := by decide +kernel
theorem dL_isSo_455 : decode cL_isSo 455 = .ok (.aload_n 0, 1) := by decide +kernel
theorem dL_isSo_456 : decode cL_isSo 456 = .ok (.iload 8, 2) := by decide +kernel
theorem dL_isSo_458 : decode cL_isSo 458 = .ok (.bipush 6, 2) := by decide +kernel
theorem dL_isSo_460 : decode cL_isSo 460 = .ok (.invokevirtual 55, 3) := by decide +kernel
theorem dL_isSo_463 : decode cL_isSo 463 = .ok (.iadd, 1) := by decide +kernel
theorem dL_isSo_464 : decode cL_isSo 464 = .ok (.aload_n 0, 1) := by decide +kernel
theorem dL_isSo_465 : decode cL_isSo 465 = .ok (.iload 8, 2) := by decide +kernel
theorem dL_isSo_467 : decode cL_isSo 467 = .ok (.bipush 7, 2) := by decide +kernel
theorem dL_isSo_469 : decode cL_isSo 469 = .ok (.invokevirtual 55, 3) := by decide +kernel
theorem dL_isSo_472 : decode cL_isSo 472 = .ok (.iadd, 1) := by decide +kernel
theorem dL_isSo_473 : decode cL_isSo 473 = .ok (.ifCond .eq 5, 3) := by decide +kernel
theorem dL_isSo_476 : decode cL_isSo 476 = .ok (.iconst 0, 1) := by decide +kernel
theorem dL_isSo_477 : decode cL_isSo 477 = .ok (.ireturn, 1) := by decide +kernel
theorem dL_isSo_478 : decode cL_isSo 478 = .ok (.iinc 8 1, 3) := by decide +kernel
theorem dL_isSo_481 : decode cL_isSo 481 = .ok (.goto (-150), 3) := by decide +kernel
theorem dL_isSo_484 : decode cL_isSo 484 = .ok (.iconst 0, 1) := by decide +kernel
theorem dL_isSo_485 : decode cL_isSo 485 = .ok (.istore 8, 2) := by decide +kernel
theorem dL_isSo_487 : decode cL_isSo 487 = .ok (.iconst 0, 1) := by decide +kernel
theorem dL_isSo_488 : decode cL_isSo 488 = .ok (.istore 9, 2) := by decide +kernel
theorem dL_isSo_490 : decode cL_isSo 490 = .ok (.iconst 0, 1) := by decide +kernel
theorem dL_isSo_491 : decode cL_isSo 491 = .ok (.istore 10, 2) := by decide +kernel
theorem dL_isSo_493 : decode cL_isSo 493 = .ok (.iload 10, 2) := by decide +kernel
theorem dL_isSo_495 : decode cL_isSo 495 = .ok (.aload_n 0, 1) := by decide +kernel
theorem dL_isSo_496 : decode cL_isSo 496 = .ok (.iconst 4, 1) := by decide +kernel
theorem dL_isSo_497 : decode cL_isSo 497 = .ok (.invokevirtual 29, 3) := by decide +kernel
theorem dL_isSo_500 : decode cL_isSo 500 = .ok (.if_icmp .ge 264, 3) := by decide +kernel
theorem dL_isSo_503 : decode cL_isSo 503 = .ok (.iconst 0, 1) := by decide +kernel
theorem dL_isSo_504 : decode cL_isSo 504 = .ok (.istore 11, 2) := by decide +kernel
theorem dL_isSo_506 : decode cL_isSo 506 = .ok (.iconst 0, 1) := by decide +kernel
theorem dL_isSo_507 : decode cL_isSo 507 = .ok (.istore 12, 2) := by decide +kernel
theorem dL_isSo_509 : decode cL_isSo 509 = .ok (.iload 12, 2) := by decide +kernel
theorem dL_isSo_511 : decode cL_isSo 511 = .ok (.iload_n 1, 1) := by decide +kernel
theorem dL_isSo_512 : decode cL_isSo 512 = .ok (.if_icmp .ge 22, 3) := by decide +kernel
theorem dL_isSo_515 : decode cL_isSo 515 = .ok (.iload 11, 2) := by decide +kernel
theorem dL_isSo_517 : decode cL_isSo 517 = .ok (.aload_n 0, 1) := by decide +kernel
theorem dL_isSo_518 : decode cL_isSo 518 = .ok (.iload 10, 2) := by decide +kernel
theorem dL_isSo_520 : decode cL_isSo 520 = .ok (.iload 12, 2) := by decide +kernel
theorem dL_isSo_522 : decode cL_isSo 522 = .ok (.invokevirtual 111, 3) := by decide +kernel
theorem dL_isSo_525 : decode cL_isSo 525 = .ok (.iadd, 1) := by decide +kernel
theorem dL_isSo_526 : decode cL_isSo 526 = .ok (.istore 11, 2) := by decide +kernel
theorem dL_isSo_528 : decode cL_isSo 528 = .ok (.iinc 12 1, 3) := by decide +kernel
theorem dL_isSo_531 : decode cL_isSo 531 = .ok (.goto (-22), 3) := by decide +kernel
theorem dL_isSo_534 : decode cL_isSo 534 = .ok (.aload_n 0, 1) := by decide +kernel
theorem dL_isSo_535 : decode cL_isSo 535 = .ok (.iload 10, 2) := by decide +kernel
theorem dL_isSo_537 : decode cL_isSo 537 = .ok (.iconst 2, 1) := by decide +kernel
theorem dL_isSo_538 : decode cL_isSo 538 = .ok (.invokevirtual 75, 3) := by decide +kernel
theorem dL_isSo_541 : decode cL_isSo 541 = .ok (.iconst 1, 1) := by decide +kernel
theorem dL_isSo_542 : decode cL_isSo 542 = .ok (.if_icmp .ne 7, 3) := by decide +kernel
theorem dL_isSo_545 : decode cL_isSo 545 = .ok (.iconst 1, 1) := by decide +kernel
theorem dL_isSo_546 : decode cL_isSo 546 = .ok (.goto 4, 3) := by decide +kernel
theorem dL_isSo_549 : decode cL_isSo 549 = .ok (.iconst 0, 1) := by decide +kernel
theorem dL_isSo_550 : decode cL_isSo 550 = .ok (.istore 12, 2) := by decide +kernel
theorem dL_isSo_552 : decode cL_isSo 552 = .ok (.iload 8, 2) := by decide +kernel
theorem dL_isSo_554 : decode cL_isSo 554 = .ok (.iload 12, 2) := by decide +kernel
theorem dL_isSo_556 : decode cL_isSo 556 = .ok (.ifCond .eq 8, 3) := by decide +kernel
theorem dL_isSo_559 : decode cL_isSo 559 = .ok (.iload 11, 2) := by decide +kernel
theorem dL_isSo_561 : decode cL_isSo 561 = .ok (.goto 4, 3) := by decide +kernel
theorem dL_isSo_564 : decode cL_isSo 564 = .ok (.iconst 0, 1) := by decide +kernel
theorem dL_isSo_565 : decode cL_isSo 565 = .ok (.iadd, 1) := by decide +kernel
theorem dL_isSo_566 : decode cL_isSo 566 = .ok (.istore 8, 2) := by decide +kernel
theorem dL_isSo_568 : decode cL_isSo 568 = .ok (.iload 9, 2) := by decide +kernel
theorem dL_isSo_570 : decode cL_isSo 570 = .ok (.iload 12, 2) := by decide +kernel
theorem dL_isSo_572 : decode cL_isSo 572 = .ok (.ifCond .eq 7, 3) := by decide +kernel
theorem dL_isSo_575 : decode cL_isSo 575 = .ok (.iconst 1, 1) := by decide +kernel
theorem dL_isSo_576 : decode cL_isSo 576 = .ok (.goto 4, 3) := by decide +kernel
theorem dL_isSo_579 : decode cL_isSo 579 = .ok (.iconst 0, 1) := by decide +kernel
theorem dL_isSo_580 : decode cL_isSo 580 = .ok (.iadd, 1) := by decide +kernel
theorem dL_isSo_581 : decode cL_isSo 581 = .ok (.istore 9, 2) := by decide +kernel
theorem dL_isSo_583 : decode cL_isSo 583 = .ok (.aload_n 0, 1) := by decide +kernel
theorem dL_isSo_584 : decode cL_isSo 584 = .ok (.iload 10, 2) := by decide +kernel
theorem dL_isSo_586 : decode cL_isSo 586 = .ok (.iconst 0, 1) := by decide +kernel
theorem dL_isSo_587 : decode cL_isSo 587 = .ok (.invokevirtual 75, 3) := by decide +kernel
theorem dL_isSo_590 : decode cL_isSo 590 = .ok (.iload 11, 2) := by decide +kernel
theorem dL_isSo_592 : decode cL_isSo 592 = .ok (.if_icmp .ne 164, 3) := by decide +kernel
theorem dL_isSo_595 : decode cL_isSo 595 = .ok (.iload 12, 2) := by decide +kernel
theorem dL_isSo_597 : decode cL_isSo 597 = .ok (.ifCond .eq 8, 3) := by decide +kernel
theorem dL_isSo_600 : decode cL_isSo 600 = .ok (.iload 11, 2) := by decide +kernel
theorem dL_isSo_602 : decode cL_isSo 602 = .ok (.ifCond .eq 154, 3) := by decide +kernel
theorem dL_isSo_605 : decode cL_isSo 605 = .ok (.aload_n 0, 1) := by decide +kernel
theorem dL_isSo_606 : decode cL_isSo 606 = .ok (.iload 10, 2) := by decide +kernel
theorem dL_isSo_608 : decode cL_isSo 608 = .ok (.iconst 3, 1) := by decide +kernel
theorem dL_isSo_609 : decode cL_isSo 609 = .ok (.invokevirtual 75, 3) := by decide +kernel
theorem dL_isSo_612 : decode cL_isSo 612 = .ok (.iload 11, 2) := by decide +kernel
theorem dL_isSo_614 : decode cL_isSo 614 = .ok (.if_icmp .gt 142, 3) := by decide +kernel
theorem dL_isSo_617 : decode cL_isSo 617 = .ok (.aload_n 0, 1) := by decide +kernel
theorem dL_isSo_618 : decode cL_isSo 618 = .ok (.iload 10, 2) := by decide +kernel
theorem dL_isSo_620 : decode cL_isSo 620 = .ok (.iconst 4, 1) := by decide +kernel
theorem dL_isSo_621 : decode cL_isSo 621 = .ok (.invokevirtual 75, 3) := by decide +kernel
theorem dL_isSo_624 : decode cL_isSo 624 = .ok (.bipush 100, 2) := by decide +kernel
theorem dL_isSo_626 : decode cL_isSo 626 = .ok (.if_icmp .gt 130, 3) := by decide +kernel
theorem dL_isSo_629 : decode cL_isSo 629 = .ok (.aload_n 0, 1) := by decide +kernel
theorem dL_isSo_630 : decode cL_isSo 630 = .ok (.iload 10, 2) := by decide +kernel
theorem dL_isSo_632 : decode cL_isSo 632 = .ok (.bipush 10, 2) := by decide +kernel
theorem dL_isSo_634 : decode cL_isSo 634 = .ok (.invokevirtual 75, 3) := by decide +kernel
theorem dL_isSo_637 : decode cL_isSo 637 = .ok (.ifCond .eq 29, 3) := by decide +kernel
theorem dL_isSo_640 : decode cL_isSo 640 = .ok (.aload_n 0, 1) := by decide +kernel
theorem dL_isSo_641 : decode cL_isSo 641 = .ok (.iload 10, 2) := by decide +kernel
theorem dL_isSo_643 : decode cL_isSo 643 = .ok (.bipush 10, 2) := by decide +kernel
theorem dL_isSo_645 : decode cL_isSo 645 = .ok (.invokevirtual 75, 3) := by decide +kernel
theorem dL_isSo_648 : decode cL_isSo 648 = .ok (.bipush 40, 2) := by decide +kernel
theorem dL_isSo_650 : decode cL_isSo 650 = .ok (.if_icmp .lt 106, 3) := by decide +kernel
theorem dL_isSo_653 : decode cL_isSo 653 = .ok (.aload_n 0, 1) := by decide +kernel
theorem dL_isSo_654 : decode cL_isSo 654 = .ok (.iload 10, 2) := by decide +kernel
theorem dL_isSo_656 : decode cL_isSo 656 = .ok (.bipush 10, 2) := by decide +kernel
theorem dL_isSo_658 : decode cL_isSo 658 = .ok (.invokevirtual 75, 3) := by decide +kernel
theorem dL_isSo_661 : decode cL_isSo 661 = .ok (.bipush 92, 2) := by decide +kernel
theorem dL_isSo_663 : decode cL_isSo 663 = .ok (.if_icmp .gt 93, 3) := by decide +kernel
theorem dL_isSo_666 : decode cL_isSo 666 = .ok (.aload_n 0, 1) := by decide +kernel
theorem dL_isSo_667 : decode cL_isSo 667 = .ok (.iload 10, 2) := by decide +kernel
theorem dL_isSo_669 : decode cL_isSo 669 = .ok (.bipush 10, 2) := by decide +kernel
theorem dL_isSo_671 : decode cL_isSo 671 = .ok (.invokevirtual 75, 3) := by decide +kernel
theorem dL_isSo_674 : decode cL_isSo 674 = .ok (.ifCond .ne 7, 3) := by decide +kernel
theorem dL_isSo_677 : decode cL_isSo 677 = .ok (.iconst 1, 1) := by decide +kernel
theorem dL_isSo_678 : decode cL_isSo 678 = .ok (.goto 4, 3) := by decide +kernel
theorem dL_isSo_681 : decode cL_isSo 681 = .ok (.iconst 0, 1) := by decide +kernel
theorem dL_isSo_682 : decode cL_isSo 682 = .ok (.iload 11, 2) := by decide +kernel
theorem dL_isSo_684 : decode cL_isSo 684 = .ok (.ifCond .ne 7, 3) := by decide +kernel
theorem dL_isSo_687 : decode cL_isSo 687 = .ok (.iconst 1, 1) := by decide +kernel
theorem dL_isSo_688 : decode cL_isSo 688 = .ok (.goto 4, 3) := by decide +kernel
theorem dL_isSo_691 : decode cL_isSo 691 = .ok (.iconst 0, 1) := by decide +kernel
theorem dL_isSo_692 : decode cL_isSo 692 = .ok (.if_icmp .ne 64, 3) := by decide +kernel
theorem dL_isSo_695 : decode cL_isSo 695 = .ok (.aload_n 0, 1) := by decide +kernel
theorem dL_isSo_696 : decode cL_isSo 696 = .ok (.iload 10, 2) := by decide +kernel
theorem dL_isSo_698 : decode cL_isSo 698 = .ok (.bipush 11, 2) := by decide +kernel
theorem dL_isSo_700 : decode cL_isSo 700 = .ok (.invokevirtual 75, 3) := by decide +kernel
theorem dL_isSo_703 : decode cL_isSo 703 = .ok (.ifCond .lt 53, 3) := by decide +kernel
theorem dL_isSo_706 : decode cL_isSo 706 = .ok (.aload_n 0, 1) := by decide +kernel
theorem dL_isSo_707 : decode cL_isSo 707 = .ok (.iload 10, 2) := by decide +kernel
theorem dL_isSo_709 : decode cL_isSo 709 = .ok (.bipush 11, 2) := by decide +kernel
theorem dL_isSo_711 : decode cL_isSo 711 = .ok (.invokevirtual 75, 3) := by decide +kernel
theorem dL_isSo_714 : decode cL_isSo 714 = .ok (.iconst 5, 1) := by decide +kernel
theorem dL_isSo_715 : decode cL_isSo 715 = .ok (.if_icmp .gt 41, 3) := by decide +kernel
theorem dL_isSo_718 : decode cL_isSo 718 = .ok (.aload_n 0, 1) := by decide +kernel
theorem dL_isSo_719 : decode cL_isSo 719 = .ok (.iload 10, 2) := by decide +kernel
theorem dL_isSo_721 : decode cL_isSo 721 = .ok (.bipush 9, 2) := by decide +kernel
theorem dL_isSo_723 : decode cL_isSo 723 = .ok (.invokevirtual 75, 3) := by decide +kernel
theorem dL_isSo_726 : decode cL_isSo 726 = .ok (.iconst (-1), 1) := by decide +kernel
theorem dL_isSo_727 : decode cL_isSo 727 = .ok (.if_icmp .eq 31, 3) := by decide +kernel
theorem dL_isSo_730 : decode cL_isSo 730 = .ok (.aload_n 0, 1) := by decide +kernel
theorem dL_isSo_731 : decode cL_isSo 731 = .ok (.iload 10, 2) := by decide +kernel
theorem dL_isSo_733 : decode cL_isSo 733 = .ok (.bipush 9, 2) := by decide +kernel
theorem dL_isSo_735 : decode cL_isSo 735 = .ok (.invokevirtual 75, 3) := by decide +kernel
theorem dL_isSo_738 : decode cL_isSo 738 = .ok (.bipush 40, 2) := by decide +kernel
theorem dL_isSo_740 : decode cL_isSo 740 = .ok (.if_icmp .lt 16, 3) := by decide +kernel
theorem dL_isSo_743 : decode cL_isSo 743 = .ok (.aload_n 0, 1) := by decide +kernel
theorem dL_isSo_744 : decode cL_isSo 744 = .ok (.iload 10, 2) := by decide +kernel
theorem dL_isSo_746 : decode cL_isSo 746 = .ok (.bipush 9, 2) := by decide +kernel
theorem dL_isSo_748 : decode cL_isSo 748 = .ok (.invokevirtual 75, 3) := by decide +kernel
theorem dL_isSo_751 : decode cL_isSo 751 = .ok (.bipush 92, 2) := by decide +kernel
theorem dL_isSo_753 : decode cL_isSo 753 = .ok (.if_icmp .le 5, 3) := by decide +kernel
theorem dL_isSo_756 : decode cL_isSo 756 = .ok (.iconst 0, 1) := by decide +kernel
theorem dL_isSo_757 : decode cL_isSo 757 = .ok (.ireturn, 1) := by decide +kernel
theorem dL_isSo_758 : decode cL_isSo 758 = .ok (.iinc 10 1, 3) := by decide +kernel
theorem dL_isSo_761 : decode cL_isSo 761 = .ok (.goto (-268), 3) := by decide +kernel
theorem dL_isSo_764 : decode cL_isSo 764 = .ok (.aload_n 0, 1) := by decide +kernel
theorem dL_isSo_765 : decode cL_isSo 765 = .ok (.iconst 5, 1) := by decide +kernel
theorem dL_isSo_766 : decode cL_isSo 766 = .ok (.invokevirtual 29, 3) := by decide +kernel
theorem dL_isSo_769 : decode cL_isSo 769 = .ok (.iload 9, 2) := by decide +kernel
theorem dL_isSo_771 : decode cL_isSo 771 = .ok (.if_icmp .ne 91, 3) := by decide +kernel
theorem dL_isSo_774 : decode cL_isSo 774 = .ok (.aload_n 0, 1) := by decide +kernel
theorem dL_isSo_775 : decode cL_isSo 775 = .ok (.bipush 8, 2) := by decide +kernel
theorem dL_isSo_777 : decode cL_isSo 777 = .ok (.invokevirtual 29, 3) := by decide +kernel
theorem dL_isSo_780 : decode cL_isSo 780 = .ok (.iload 5, 2) := by decide +kernel
theorem dL_isSo_782 : decode cL_isSo 782 = .ok (.if_icmp .ne 80, 3) := by decide +kernel
theorem dL_isSo_785 : decode cL_isSo 785 = .ok (.aload_n 0, 1) := by decide +kernel
theorem dL_isSo_786 : decode cL_isSo 786 = .ok (.bipush 9, 2) := by decide +kernel
theorem dL_isSo_788 : decode cL_isSo 788 = .ok (.invokevirtual 29, 3) := by decide +kernel
theorem dL_isSo_791 : decode cL_isSo 791 = .ok (.iload 6, 2) := by decide +kernel
theorem dL_isSo_793 : decode cL_isSo 793 = .ok (.if_icmp .ne 69, 3) := by decide +kernel
theorem dL_isSo_796 : decode cL_isSo 796 = .ok (.aload_n 0, 1) := by decide +kernel
theorem dL_isSo_797 : decode cL_isSo 797 = .ok (.bipush 10, 2) := by decide +kernel
theorem dL_isSo_799 : decode cL_isSo 799 = .ok (.invokevirtual 29, 3) := by decide +kernel
theorem dL_isSo_802 : decode cL_isSo 802 = .ok (.iload 7, 2) := by decide +kernel
theorem dL_isSo_804 : decode cL_isSo 804 = .ok (.if_icmp .ne 58, 3) := by decide +kernel
theorem dL_isSo_807 : decode cL_isSo 807 = .ok (.aload_n 0, 1) := by decide +kernel
theorem dL_isSo_808 : decode cL_isSo 808 = .ok (.bipush 11, 2) := by decide +kernel
theorem dL_isSo_810 : decode cL_isSo 810 = .ok (.invokevirtual 29, 3) := by decide +kernel
theorem dL_isSo_813 : decode cL_isSo 813 = .ok (.iload 8, 2) := by decide +kernel
theorem dL_isSo_815 : decode cL_isSo 815 = .ok (.if_icmp .ne 47, 3) := by decide +kernel
theorem dL_isSo_818 : decode cL_isSo 818 = .ok (.aload_n 0, 1) := by decide +kernel
theorem dL_isSo_819 : decode cL_isSo 819 = .ok (.bipush 15, 2) := by decide +kernel
theorem dL_isSo_821 : decode cL_isSo 821 = .ok (.invokevirtual 29, 3) := by decide +kernel
theorem dL_isSo_824 : decode cL_isSo 824 = .ok (.iload 4, 2) := by decide +kernel
theorem dL_isSo_826 : decode cL_isSo 826 = .ok (.if_icmp .ne 36, 3) := by decide +kernel
theorem dL_isSo_829 : decode cL_isSo 829 = .ok (.iload_n 3, 1) := by decide +kernel
theorem dL_isSo_830 : decode cL_isSo 830 = .ok (.iload 5, 2) := by decide +kernel
theorem dL_isSo_832 : decode cL_isSo 832 = .ok (.iload 6, 2) := by decide +kernel
theorem dL_isSo_834 : decode cL_isSo 834 = .ok (.iadd, 1) := by decide +kernel
theorem dL_isSo_835 : decode cL_isSo 835 = .ok (.iload 7, 2) := by decide +kernel
theorem dL_isSo_837 : decode cL_isSo 837 = .ok (.iadd, 1) := by decide +kernel
theorem dL_isSo_838 : decode cL_isSo 838 = .ok (.iload 8, 2) := by decide +kernel
theorem dL_isSo_840 : decode cL_isSo 840 = .ok (.iadd, 1) := by decide +kernel
theorem dL_isSo_841 : decode cL_isSo 841 = .ok (.aload_n 0, 1) := by decide +kernel
theorem dL_isSo_842 : decode cL_isSo 842 = .ok (.bipush 12, 2) := by decide +kernel
theorem dL_isSo_844 : decode cL_isSo 844 = .ok (.invokevirtual 29, 3) := by decide +kernel
theorem dL_isSo_847 : decode cL_isSo 847 = .ok (.iadd, 1) := by decide +kernel
theorem dL_isSo_848 : decode cL_isSo 848 = .ok (.aload_n 0, 1) := by decide +kernel
theorem dL_isSo_849 : decode cL_isSo 849 = .ok (.bipush 13, 2) := by decide +kernel
theorem dL_isSo_851 : decode cL_isSo 851 = .ok (.invokevirtual 29, 3) := by decide +kernel
theorem dL_isSo_854 : decode cL_isSo 854 = .ok (.iadd, 1) := by decide +kernel
theorem dL_isSo_855 : decode cL_isSo 855 = .ok (.if_icmp .ne 7, 3) := by decide +kernel
theorem dL_isSo_858 : decode cL_isSo 858 = .ok (.iconst 1, 1) := by decide +kernel
theorem dL_isSo_859 : decode cL_isSo 859 = .ok (.goto 4, 3) := by decide +kernel
theorem dL_isSo_862 : decode cL_isSo 862 = .ok (.iconst 0, 1) := by decide +kernel
theorem dL_isSo_863 : decode cL_isSo 863 = .ok (.ireturn, 1) := by decide +kernel
