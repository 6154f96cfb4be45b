theorem nd_L_law_561 : decode nb_L_law 561 = .ok (.iconst 3, 1) := by decide +kernel
theorem nd_L_law_562 : decode nb_L_law 562 = .ok (.iadd, 1) := by decide +kernel
theorem nd_L_law_563 : decode nb_L_law 563 = .ok (.iaload, 1) := by decide +kernel
theorem nd_L_law_564 : decode nb_L_law 564 = .ok (.aload_n 0, 1) := by decide +kernel
theorem nd_L_law_565 : decode nb_L_law 565 = .ok (.iload 4, 2) := by decide +kernel
theorem nd_L_law_567 : decode nb_L_law 567 = .ok (.iconst 4, 1) := by decide +kernel
theorem nd_L_law_568 : decode nb_L_law 568 = .ok (.iadd, 1) := by decide +kernel
theorem nd_L_law_569 : decode nb_L_law 569 = .ok (.iaload, 1) := by decide +kernel
theorem nd_L_law_570 : decode nb_L_law 570 = .ok (.invokevirtual 88, 3) := by decide +kernel
theorem nd_L_law_573 : decode nb_L_law 573 = .ok (.istore 6, 2) := by decide +kernel
theorem nd_L_law_575 : decode nb_L_law 575 = .ok (.aload_n 2, 1) := by decide +kernel
theorem nd_L_law_576 : decode nb_L_law 576 = .ok (.invokevirtual 70, 3) := by decide +kernel
theorem nd_L_law_579 : decode nb_L_law 579 = .ok (.iload 5, 2) := by decide +kernel
theorem nd_L_law_581 : decode nb_L_law 581 = .ok (.if_icmp .eq 5, 3) := by decide +kernel
theorem nd_L_law_584 : decode nb_L_law 584 = .ok (.iconst 0, 1) := by decide +kernel
theorem nd_L_law_585 : decode nb_L_law 585 = .ok (.ireturn, 1) := by decide +kernel
theorem nd_L_law_586 : decode nb_L_law 586 = .ok (.iload 5, 2) := by decide +kernel
theorem nd_L_law_588 : decode nb_L_law 588 = .ok (.ifCond .ne 15, 3) := by decide +kernel
theorem nd_L_law_591 : decode nb_L_law 591 = .ok (.aload_n 3, 1) := by decide +kernel
theorem nd_L_law_592 : decode nb_L_law 592 = .ok (.iconst 0, 1) := by decide +kernel
theorem nd_L_law_593 : decode nb_L_law 593 = .ok (.laload, 1) := by decide +kernel
theorem nd_L_law_594 : decode nb_L_law 594 = .ok (.iload 6, 2) := by decide +kernel
theorem nd_L_law_596 : decode nb_L_law 596 = .ok (.i2l, 1) := by decide +kernel
theorem nd_L_law_597 : decode nb_L_law 597 = .ok (.lcmp, 1) := by decide +kernel
theorem nd_L_law_598 : decode nb_L_law 598 = .ok (.ifCond .eq 5, 3) := by decide +kernel
theorem nd_L_law_601 : decode nb_L_law 601 = .ok (.iconst 0, 1) := by decide +kernel
theorem nd_L_law_602 : decode nb_L_law 602 = .ok (.ireturn, 1) := by decide +kernel
theorem nd_L_law_603 : decode nb_L_law 603 = .ok (.goto 476, 3) := by decide +kernel
theorem nd_L_law_606 : decode nb_L_law 606 = .ok (.aload_n 1, 1) := by decide +kernel
theorem nd_L_law_607 : decode nb_L_law 607 = .ok (.aload_n 0, 1) := by decide +kernel
theorem nd_L_law_608 : decode nb_L_law 608 = .ok (.iload 4, 2) := by decide +kernel
theorem nd_L_law_610 : decode nb_L_law 610 = .ok (.iconst 1, 1) := by decide +kernel
theorem nd_L_law_611 : decode nb_L_law 611 = .ok (.iadd, 1) := by decide +kernel
theorem nd_L_law_612 : decode nb_L_law 612 = .ok (.iaload, 1) := by decide +kernel
theorem nd_L_law_613 : decode nb_L_law 613 = .ok (.aload_n 0, 1) := by decide +kernel
theorem nd_L_law_614 : decode nb_L_law 614 = .ok (.iload 4, 2) := by decide +kernel
theorem nd_L_law_616 : decode nb_L_law 616 = .ok (.iconst 2, 1) := by decide +kernel
theorem nd_L_law_617 : decode nb_L_law 617 = .ok (.iadd, 1) := by decide +kernel
theorem nd_L_law_618 : decode nb_L_law 618 = .ok (.iaload, 1) := by decide +kernel
theorem nd_L_law_619 : decode nb_L_law 619 = .ok (.i2l, 1) := by decide +kernel
theorem nd_L_law_620 : decode nb_L_law 620 = .ok (.bipush 32, 2) := by decide +kernel
theorem nd_L_law_622 : decode nb_L_law 622 = .ok (.lshl, 1) := by decide +kernel
theorem nd_L_law_623 : decode nb_L_law 623 = .ok (.aload_n 0, 1) := by decide +kernel
theorem nd_L_law_624 : decode nb_L_law 624 = .ok (.iload 4, 2) := by decide +kernel
theorem nd_L_law_626 : decode nb_L_law 626 = .ok (.iconst 3, 1) := by decide +kernel
theorem nd_L_law_627 : decode nb_L_law 627 = .ok (.iadd, 1) := by decide +kernel
theorem nd_L_law_628 : decode nb_L_law 628 = .ok (.iaload, 1) := by decide +kernel
theorem nd_L_law_629 : decode nb_L_law 629 = .ok (.i2l, 1) := by decide +kernel
theorem nd_L_law_630 : decode nb_L_law 630 = .ok (.ldc2_w 62, 3) := by decide +kernel
theorem nd_L_law_633 : decode nb_L_law 633 = .ok (.land, 1) := by decide +kernel
theorem nd_L_law_634 : decode nb_L_law 634 = .ok (.lor, 1) := by decide +kernel
theorem nd_L_law_635 : decode nb_L_law 635 = .ok (.aload_n 0, 1) := by decide +kernel
theorem nd_L_law_636 : decode nb_L_law 636 = .ok (.iload 4, 2) := by decide +kernel
theorem nd_L_law_638 : decode nb_L_law 638 = .ok (.iconst 4, 1) := by decide +kernel
theorem nd_L_law_639 : decode nb_L_law 639 = .ok (.iadd, 1) := by decide +kernel
theorem nd_L_law_640 : decode nb_L_law 640 = .ok (.iaload, 1) := by decide +kernel
theorem nd_L_law_641 : decode nb_L_law 641 = .ok (.i2l, 1) := by decide +kernel
theorem nd_L_law_642 : decode nb_L_law 642 = .ok (.bipush 32, 2) := by decide +kernel
theorem nd_L_law_644 : decode nb_L_law 644 = .ok (.lshl, 1) := by decide +kernel
theorem nd_L_law_645 : decode nb_L_law 645 = .ok (.aload_n 0, 1) := by decide +kernel
theorem nd_L_law_646 : decode nb_L_law 646 = .ok (.iload 4, 2) := by decide +kernel
theorem nd_L_law_648 : decode nb_L_law 648 = .ok (.iconst 5, 1) := by decide +kernel
theorem nd_L_law_649 : decode nb_L_law 649 = .ok (.iadd, 1) := by decide +kernel
theorem nd_L_law_650 : decode nb_L_law 650 = .ok (.iaload, 1) := by decide +kernel
theorem nd_L_law_651 : decode nb_L_law 651 = .ok (.i2l, 1) := by decide +kernel
theorem nd_L_law_652 : decode nb_L_law 652 = .ok (.ldc2_w 62, 3) := by decide +kernel
theorem nd_L_law_655 : decode nb_L_law 655 = .ok (.land, 1) := by decide +kernel
theorem nd_L_law_656 : decode nb_L_law 656 = .ok (.lor, 1) := by decide +kernel
theorem nd_L_law_657 : decode nb_L_law 657 = .ok (.aload_n 0, 1) := by decide +kernel
theorem nd_L_law_658 : decode nb_L_law 658 = .ok (.iload 4, 2) := by decide +kernel
theorem nd_L_law_660 : decode nb_L_law 660 = .ok (.bipush 6, 2) := by decide +kernel
theorem nd_L_law_662 : decode nb_L_law 662 = .ok (.iadd, 1) := by decide +kernel
theorem nd_L_law_663 : decode nb_L_law 663 = .ok (.iaload, 1) := by decide +kernel
theorem nd_L_law_664 : decode nb_L_law 664 = .ok (.aload_n 3, 1) := by decide +kernel
theorem nd_L_law_665 : decode nb_L_law 665 = .ok (.invokestatic 89, 3) := by decide +kernel
theorem nd_L_law_668 : decode nb_L_law 668 = .ok (.istore 5, 2) := by decide +kernel
theorem nd_L_law_670 : decode nb_L_law 670 = .ok (.aload_n 2, 1) := by decide +kernel
theorem nd_L_law_671 : decode nb_L_law 671 = .ok (.aload_n 0, 1) := by decide +kernel
theorem nd_L_law_672 : decode nb_L_law 672 = .ok (.iload 4, 2) := by decide +kernel
theorem nd_L_law_674 : decode nb_L_law 674 = .ok (.iconst 1, 1) := by decide +kernel
theorem nd_L_law_675 : decode nb_L_law 675 = .ok (.iadd, 1) := by decide +kernel
theorem nd_L_law_676 : decode nb_L_law 676 = .ok (.iaload, 1) := by decide +kernel
theorem nd_L_law_677 : decode nb_L_law 677 = .ok (.aload_n 0, 1) := by decide +kernel
theorem nd_L_law_678 : decode nb_L_law 678 = .ok (.iload 4, 2) := by decide +kernel
theorem nd_L_law_680 : decode nb_L_law 680 = .ok (.iconst 2, 1) := by decide +kernel
theorem nd_L_law_681 : decode nb_L_law 681 = .ok (.iadd, 1) := by decide +kernel
theorem nd_L_law_682 : decode nb_L_law 682 = .ok (.iaload, 1) := by decide +kernel
theorem nd_L_law_683 : decode nb_L_law 683 = .ok (.i2l, 1) := by decide +kernel
theorem nd_L_law_684 : decode nb_L_law 684 = .ok (.bipush 32, 2) := by decide +kernel
theorem nd_L_law_686 : decode nb_L_law 686 = .ok (.lshl, 1) := by decide +kernel
theorem nd_L_law_687 : decode nb_L_law 687 = .ok (.aload_n 0, 1) := by decide +kernel
theorem nd_L_law_688 : decode nb_L_law 688 = .ok (.iload 4, 2) := by decide +kernel
theorem nd_L_law_690 : decode nb_L_law 690 = .ok (.iconst 3, 1) := by decide +kernel
theorem nd_L_law_691 : decode nb_L_law 691 = .ok (.iadd, 1) := by decide +kernel
theorem nd_L_law_692 : decode nb_L_law 692 = .ok (.iaload, 1) := by decide +kernel
theorem nd_L_law_693 : decode nb_L_law 693 = .ok (.i2l, 1) := by decide +kernel
theorem nd_L_law_694 : decode nb_L_law 694 = .ok (.ldc2_w 62, 3) := by decide +kernel
theorem nd_L_law_697 : decode nb_L_law 697 = .ok (.land, 1) := by decide +kernel
theorem nd_L_law_698 : decode nb_L_law 698 = .ok (.lor, 1) := by decide +kernel
theorem nd_L_law_699 : decode nb_L_law 699 = .ok (.aload_n 0, 1) := by decide +kernel
theorem nd_L_law_700 : decode nb_L_law 700 = .ok (.iload 4, 2) := by decide +kernel
theorem nd_L_law_702 : decode nb_L_law 702 = .ok (.iconst 4, 1) := by decide +kernel
theorem nd_L_law_703 : decode nb_L_law 703 = .ok (.iadd, 1) := by decide +kernel
theorem nd_L_law_704 : decode nb_L_law 704 = .ok (.iaload, 1) := by decide +kernel
theorem nd_L_law_705 : decode nb_L_law 705 = .ok (.i2l, 1) := by decide +kernel
theorem nd_L_law_706 : decode nb_L_law 706 = .ok (.bipush 32, 2) := by decide +kernel
theorem nd_L_law_708 : decode nb_L_law 708 = .ok (.lshl, 1) := by decide +kernel
theorem nd_L_law_709 : decode nb_L_law 709 = .ok (.aload_n 0, 1) := by decide +kernel
theorem nd_L_law_710 : decode nb_L_law 710 = .ok (.iload 4, 2) := by decide +kernel
theorem nd_L_law_712 : decode nb_L_law 712 = .ok (.iconst 5, 1) := by decide +kernel
theorem nd_L_law_713 : decode nb_L_law 713 = .ok (.iadd, 1) := by decide +kernel
theorem nd_L_law_714 : decode nb_L_law 714 = .ok (.iaload, 1) := by decide +kernel
theorem nd_L_law_715 : decode nb_L_law 715 = .ok (.i2l, 1) := by decide +kernel
theorem nd_L_law_716 : decode nb_L_law 716 = .ok (.ldc2_w 62, 3) := by decide +kernel
theorem nd_L_law_719 : decode nb_L_law 719 = .ok (.land, 1) := by decide +kernel
theorem nd_L_law_720 : decode nb_L_law 720 = .ok (.lor, 1) := by decide +kernel
theorem nd_L_law_721 : decode nb_L_law 721 = .ok (.aload_n 0, 1) := by decide +kernel
theorem nd_L_law_722 : decode nb_L_law 722 = .ok (.iload 4, 2) := by decide +kernel
theorem nd_L_law_724 : decode nb_L_law 724 = .ok (.bipush 6, 2) := by decide +kernel
theorem nd_L_law_726 : decode nb_L_law 726 = .ok (.iadd, 1) := by decide +kernel
theorem nd_L_law_727 : decode nb_L_law 727 = .ok (.iaload, 1) := by decide +kernel
theorem nd_L_law_728 : decode nb_L_law 728 = .ok (.invokevirtual 92, 3) := by decide +kernel
theorem nd_L_law_731 : decode nb_L_law 731 = .ok (.istore 6, 2) := by decide +kernel
theorem nd_L_law_733 : decode nb_L_law 733 = .ok (.aload_n 2, 1) := by decide +kernel
theorem nd_L_law_734 : decode nb_L_law 734 = .ok (.invokevirtual 70, 3) := by decide +kernel
theorem nd_L_law_737 : decode nb_L_law 737 = .ok (.iload 5, 2) := by decide +kernel
theorem nd_L_law_739 : decode nb_L_law 739 = .ok (.if_icmp .eq 5, 3) := by decide +kernel
theorem nd_L_law_742 : decode nb_L_law 742 = .ok (.iconst 0, 1) := by decide +kernel
theorem nd_L_law_743 : decode nb_L_law 743 = .ok (.ireturn, 1) := by decide +kernel
theorem nd_L_law_744 : decode nb_L_law 744 = .ok (.iload 5, 2) := by decide +kernel
theorem nd_L_law_746 : decode nb_L_law 746 = .ok (.ifCond .ne 15, 3) := by decide +kernel
theorem nd_L_law_749 : decode nb_L_law 749 = .ok (.aload_n 3, 1) := by decide +kernel
theorem nd_L_law_750 : decode nb_L_law 750 = .ok (.iconst 0, 1) := by decide +kernel
theorem nd_L_law_751 : decode nb_L_law 751 = .ok (.laload, 1) := by decide +kernel
theorem nd_L_law_752 : decode nb_L_law 752 = .ok (.iload 6, 2) := by decide +kernel
theorem nd_L_law_754 : decode nb_L_law 754 = .ok (.i2l, 1) := by decide +kernel
theorem nd_L_law_755 : decode nb_L_law 755 = .ok (.lcmp, 1) := by decide +kernel
theorem nd_L_law_756 : decode nb_L_law 756 = .ok (.ifCond .eq 5, 3) := by decide +kernel
theorem nd_L_law_759 : decode nb_L_law 759 = .ok (.iconst 0, 1) := by decide +kernel
theorem nd_L_law_760 : decode nb_L_law 760 = .ok (.ireturn, 1) := by decide +kernel
theorem nd_L_law_761 : decode nb_L_law 761 = .ok (.goto 318, 3) := by decide +kernel
theorem nd_L_law_764 : decode nb_L_law 764 = .ok (.aload_n 1, 1) := by decide +kernel
theorem nd_L_law_765 : decode nb_L_law 765 = .ok (.aload_n 0, 1) := by decide +kernel
theorem nd_L_law_766 : decode nb_L_law 766 = .ok (.iload 4, 2) := by decide +kernel
theorem nd_L_law_768 : decode nb_L_law 768 = .ok (.iconst 1, 1) := by decide +kernel
theorem nd_L_law_769 : decode nb_L_law 769 = .ok (.iadd, 1) := by decide +kernel
theorem nd_L_law_770 : decode nb_L_law 770 = .ok (.iaload, 1) := by decide +kernel
theorem nd_L_law_771 : decode nb_L_law 771 = .ok (.aload_n 3, 1) := by decide +kernel
theorem nd_L_law_772 : decode nb_L_law 772 = .ok (.invokestatic 93, 3) := by decide +kernel
theorem nd_L_law_775 : decode nb_L_law 775 = .ok (.istore 5, 2) := by decide +kernel
theorem nd_L_law_777 : decode nb_L_law 777 = .ok (.aload_n 2, 1) := by decide +kernel
theorem nd_L_law_778 : decode nb_L_law 778 = .ok (.aload_n 0, 1) := by decide +kernel
theorem nd_L_law_779 : decode nb_L_law 779 = .ok (.iload 4, 2) := by decide +kernel
theorem nd_L_law_781 : decode nb_L_law 781 = .ok (.iconst 1, 1) := by decide +kernel
theorem nd_L_law_782 : decode nb_L_law 782 = .ok (.iadd, 1) := by decide +kernel
theorem nd_L_law_783 : decode nb_L_law 783 = .ok (.iaload, 1) := by decide +kernel
theorem nd_L_law_784 : decode nb_L_law 784 = .ok (.invokevirtual 96, 3) := by decide +kernel
theorem nd_L_law_787 : decode nb_L_law 787 = .ok (.istore 6, 2) := by decide +kernel
theorem nd_L_law_789 : decode nb_L_law 789 = .ok (.aload_n 2, 1) := by decide +kernel
theorem nd_L_law_790 : decode nb_L_law 790 = .ok (.invokevirtual 70, 3) := by decide +kernel
theorem nd_L_law_793 : decode nb_L_law 793 = .ok (.iload 5, 2) := by decide +kernel
theorem nd_L_law_795 : decode nb_L_law 795 = .ok (.if_icmp .eq 5, 3) := by decide +kernel
theorem nd_L_law_798 : decode nb_L_law 798 = .ok (.iconst 0, 1) := by decide +kernel
theorem nd_L_law_799 : decode nb_L_law 799 = .ok (.ireturn, 1) := by decide +kernel
theorem nd_L_law_800 : decode nb_L_law 800 = .ok (.iload 5, 2) := by decide +kernel
theorem nd_L_law_802 : decode nb_L_law 802 = .ok (.ifCond .ne 15, 3) := by decide +kernel
theorem nd_L_law_805 : decode nb_L_law 805 = .ok (.aload_n 3, 1) := by decide +kernel
theorem nd_L_law_806 : decode nb_L_law 806 = .ok (.iconst 0, 1) := by decide +kernel
theorem nd_L_law_807 : decode nb_L_law 807 = .ok (.laload, 1) := by decide +kernel
theorem nd_L_law_808 : decode nb_L_law 808 = .ok (.iload 6, 2) := by decide +kernel
theorem nd_L_law_810 : decode nb_L_law 810 = .ok (.i2l, 1) := by decide +kernel
theorem nd_L_law_811 : decode nb_L_law 811 = .ok (.lcmp, 1) := by decide +kernel
theorem nd_L_law_812 : decode nb_L_law 812 = .ok (.ifCond .eq 5, 3) := by decide +kernel
theorem nd_L_law_815 : decode nb_L_law 815 = .ok (.iconst 0, 1) := by decide +kernel
theorem nd_L_law_816 : decode nb_L_law 816 = .ok (.ireturn, 1) := by decide +kernel
theorem nd_L_law_817 : decode nb_L_law 817 = .ok (.goto 262, 3) := by decide +kernel
