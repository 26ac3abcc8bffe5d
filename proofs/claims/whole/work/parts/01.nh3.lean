theorem dX11_does_595 : decode cX11_does 595 = .ok (.goto 142, 3) := by decide +kernel
theorem dX11_does_598 : decode cX11_does 598 = .ok (.aload_n 0, 1) := by decide +kernel
theorem dX11_does_599 : decode cX11_does 599 = .ok (.iload 4, 2) := by decide +kernel
theorem dX11_does_601 : decode cX11_does 601 = .ok (.iload 9, 2) := by decide +kernel
theorem dX11_does_603 : decode cX11_does 603 = .ok (.invokevirtual 217, 3) := by decide +kernel
theorem dX11_does_606 : decode cX11_does 606 = .ok (.goto 131, 3) := by decide +kernel
theorem dX11_does_609 : decode cX11_does 609 = .ok (.aload_n 0, 1) := by decide +kernel
theorem dX11_does_610 : decode cX11_does 610 = .ok (.getfield 56, 3) := by decide +kernel
theorem dX11_does_613 : decode cX11_does 613 = .ok (.iload 9, 2) := by decide +kernel
theorem dX11_does_615 : decode cX11_does 615 = .ok (.aload_n 0, 1) := by decide +kernel
theorem dX11_does_616 : decode cX11_does 616 = .ok (.getfield 135, 3) := by decide +kernel
theorem dX11_does_619 : decode cX11_does 619 = .ok (.iload_n 1, 1) := by decide +kernel
theorem dX11_does_620 : decode cX11_does 620 = .ok (.iaload, 1) := by decide +kernel
theorem dX11_does_621 : decode cX11_does 621 = .ok (.iastore, 1) := by decide +kernel
theorem dX11_does_622 : decode cX11_does 622 = .ok (.goto 115, 3) := by decide +kernel
theorem dX11_does_625 : decode cX11_does 625 = .ok (.aload_n 0, 1) := by decide +kernel
theorem dX11_does_626 : decode cX11_does 626 = .ok (.getfield 153, 3) := by decide +kernel
theorem dX11_does_629 : decode cX11_does 629 = .ok (.iload_n 1, 1) := by decide +kernel
theorem dX11_does_630 : decode cX11_does 630 = .ok (.iconst 1, 1) := by decide +kernel
theorem dX11_does_631 : decode cX11_does 631 = .ok (.bastore, 1) := by decide +kernel
theorem dX11_does_632 : decode cX11_does 632 = .ok (.goto 105, 3) := by decide +kernel
theorem dX11_does_635 : decode cX11_does 635 = .ok (.aload_n 0, 1) := by decide +kernel
theorem dX11_does_636 : decode cX11_does 636 = .ok (.iload 7, 2) := by decide +kernel
theorem dX11_does_638 : decode cX11_does 638 = .ok (.invokevirtual 176, 3) := by decide +kernel
theorem dX11_does_641 : decode cX11_does 641 = .ok (.ifCond .eq 23, 3) := by decide +kernel
theorem dX11_does_644 : decode cX11_does 644 = .ok (.aload_n 0, 1) := by decide +kernel
theorem dX11_does_645 : decode cX11_does 645 = .ok (.iload 7, 2) := by decide +kernel
theorem dX11_does_647 : decode cX11_does 647 = .ok (.iload_n 2, 1) := by decide +kernel
theorem dX11_does_648 : decode cX11_does 648 = .ok (.invokevirtual 172, 3) := by decide +kernel
theorem dX11_does_651 : decode cX11_does 651 = .ok (.ifCond .eq 13, 3) := by decide +kernel
theorem dX11_does_654 : decode cX11_does 654 = .ok (.iload 13, 2) := by decide +kernel
theorem dX11_does_656 : decode cX11_does 656 = .ok (.i2l, 1) := by decide +kernel
theorem dX11_does_657 : decode cX11_does 657 = .ok (.lconst 1, 1) := by decide +kernel
theorem dX11_does_658 : decode cX11_does 658 = .ok (.invokestatic 213, 3) := by decide +kernel
theorem dX11_does_661 : decode cX11_does 661 = .ok (.ifCond .ne 5, 3) := by decide +kernel
theorem dX11_does_664 : decode cX11_does 664 = .ok (.iconst 0, 1) := by decide +kernel
theorem dX11_does_665 : decode cX11_does 665 = .ok (.ireturn, 1) := by decide +kernel
theorem dX11_does_666 : decode cX11_does 666 = .ok (.aload_n 0, 1) := by decide +kernel
theorem dX11_does_667 : decode cX11_does 667 = .ok (.getfield 56, 3) := by decide +kernel
theorem dX11_does_670 : decode cX11_does 670 = .ok (.iload 9, 2) := by decide +kernel
theorem dX11_does_672 : decode cX11_does 672 = .ok (.aload_n 0, 1) := by decide +kernel
theorem dX11_does_673 : decode cX11_does 673 = .ok (.getfield 59, 3) := by decide +kernel
theorem dX11_does_676 : decode cX11_does 676 = .ok (.bipush 32, 2) := by decide +kernel
theorem dX11_does_678 : decode cX11_does 678 = .ok (.bipush 6, 2) := by decide +kernel
theorem dX11_does_680 : decode cX11_does 680 = .ok (.iload_n 1, 1) := by decide +kernel
theorem dX11_does_681 : decode cX11_does 681 = .ok (.imul, 1) := by decide +kernel
theorem dX11_does_682 : decode cX11_does 682 = .ok (.iload 7, 2) := by decide +kernel
theorem dX11_does_684 : decode cX11_does 684 = .ok (.iadd, 1) := by decide +kernel
theorem dX11_does_685 : decode cX11_does 685 = .ok (.imul, 1) := by decide +kernel
theorem dX11_does_686 : decode cX11_does 686 = .ok (.iload 13, 2) := by decide +kernel
theorem dX11_does_688 : decode cX11_does 688 = .ok (.iadd, 1) := by decide +kernel
theorem dX11_does_689 : decode cX11_does 689 = .ok (.iaload, 1) := by decide +kernel
theorem dX11_does_690 : decode cX11_does 690 = .ok (.iastore, 1) := by decide +kernel
theorem dX11_does_691 : decode cX11_does 691 = .ok (.goto 46, 3) := by decide +kernel
theorem dX11_does_694 : decode cX11_does 694 = .ok (.iload 6, 2) := by decide +kernel
theorem dX11_does_696 : decode cX11_does 696 = .ok (.iconst 2, 1) := by decide +kernel
theorem dX11_does_697 : decode cX11_does 697 = .ok (.if_icmp .gt 11, 3) := by decide +kernel
theorem dX11_does_700 : decode cX11_does 700 = .ok (.aload_n 0, 1) := by decide +kernel
theorem dX11_does_701 : decode cX11_does 701 = .ok (.iload_n 2, 1) := by decide +kernel
theorem dX11_does_702 : decode cX11_does 702 = .ok (.invokevirtual 220, 3) := by decide +kernel
theorem dX11_does_705 : decode cX11_does 705 = .ok (.ifCond .ne 5, 3) := by decide +kernel
theorem dX11_does_708 : decode cX11_does 708 = .ok (.iconst 0, 1) := by decide +kernel
theorem dX11_does_709 : decode cX11_does 709 = .ok (.ireturn, 1) := by decide +kernel
theorem dX11_does_710 : decode cX11_does 710 = .ok (.aload_n 0, 1) := by decide +kernel
theorem dX11_does_711 : decode cX11_does 711 = .ok (.getfield 147, 3) := by decide +kernel
theorem dX11_does_714 : decode cX11_does 714 = .ok (.iload_n 1, 1) := by decide +kernel
theorem dX11_does_715 : decode cX11_does 715 = .ok (.iload 6, 2) := by decide +kernel
theorem dX11_does_717 : decode cX11_does 717 = .ok (.iastore, 1) := by decide +kernel
theorem dX11_does_718 : decode cX11_does 718 = .ok (.goto 19, 3) := by decide +kernel
theorem dX11_does_721 : decode cX11_does 721 = .ok (.aload_n 0, 1) := by decide +kernel
theorem dX11_does_722 : decode cX11_does 722 = .ok (.getfield 56, 3) := by decide +kernel
theorem dX11_does_725 : decode cX11_does 725 = .ok (.iload 9, 2) := by decide +kernel
theorem dX11_does_727 : decode cX11_does 727 = .ok (.aload_n 0, 1) := by decide +kernel
theorem dX11_does_728 : decode cX11_does 728 = .ok (.getfield 144, 3) := by decide +kernel
theorem dX11_does_731 : decode cX11_does 731 = .ok (.iload_n 1, 1) := by decide +kernel
theorem dX11_does_732 : decode cX11_does 732 = .ok (.iaload, 1) := by decide +kernel
theorem dX11_does_733 : decode cX11_does 733 = .ok (.iastore, 1) := by decide +kernel
theorem dX11_does_734 : decode cX11_does 734 = .ok (.goto 3, 3) := by decide +kernel
theorem dX11_does_737 : decode cX11_does 737 = .ok (.aload_n 0, 1) := by decide +kernel
theorem dX11_does_738 : decode cX11_does 738 = .ok (.getfield 62, 3) := by decide +kernel
theorem dX11_does_741 : decode cX11_does 741 = .ok (.iload 4, 2) := by decide +kernel
theorem dX11_does_743 : decode cX11_does 743 = .ok (.dup2, 1) := by decide +kernel
theorem dX11_does_744 : decode cX11_does 744 = .ok (.iaload, 1) := by decide +kernel
theorem dX11_does_745 : decode cX11_does 745 = .ok (.iconst 1, 1) := by decide +kernel
theorem dX11_does_746 : decode cX11_does 746 = .ok (.iadd, 1) := by decide +kernel
theorem dX11_does_747 : decode cX11_does 747 = .ok (.iastore, 1) := by decide +kernel
theorem dX11_does_748 : decode cX11_does 748 = .ok (.iconst 1, 1) := by decide +kernel
theorem dX11_does_749 : decode cX11_does 749 = .ok (.ireturn, 1) := by decide +kernel
theorem dX11_take_0 : decode cX11_take 0 = .ok (.aload_n 0, 1) := by decide +kernel
theorem dX11_take_1 : decode cX11_take 1 = .ok (.getfield 71, 3) := by decide +kernel
theorem dX11_take_4 : decode cX11_take 4 = .ok (.iload_n 1, 1) := by decide +kernel
theorem dX11_take_5 : decode cX11_take 5 = .ok (.iaload, 1) := by decide +kernel
theorem dX11_take_6 : decode cX11_take 6 = .ok (.ifCond .ne 17, 3) := by decide +kernel
theorem dX11_take_9 : decode cX11_take 9 = .ok (.aload_n 0, 1) := by decide +kernel
theorem dX11_take_10 : decode cX11_take 10 = .ok (.getfield 56, 3) := by decide +kernel
theorem dX11_take_13 : decode cX11_take 13 = .ok (.bipush 8, 2) := by decide +kernel
theorem dX11_take_15 : decode cX11_take 15 = .ok (.iload_n 1, 1) := by decide +kernel
theorem dX11_take_16 : decode cX11_take 16 = .ok (.imul, 1) := by decide +kernel
theorem dX11_take_17 : decode cX11_take 17 = .ok (.bipush 7, 2) := by decide +kernel
theorem dX11_take_19 : decode cX11_take 19 = .ok (.iadd, 1) := by decide +kernel
theorem dX11_take_20 : decode cX11_take 20 = .ok (.iconst 0, 1) := by decide +kernel
theorem dX11_take_21 : decode cX11_take 21 = .ok (.iastore, 1) := by decide +kernel
theorem dX11_take_22 : decode cX11_take 22 = .ok (.return_, 1) := by decide +kernel
theorem dX11_take_23 : decode cX11_take 23 = .ok (.aload_n 0, 1) := by decide +kernel
theorem dX11_take_24 : decode cX11_take 24 = .ok (.getfield 56, 3) := by decide +kernel
theorem dX11_take_27 : decode cX11_take 27 = .ok (.iload_n 2, 1) := by decide +kernel
theorem dX11_take_28 : decode cX11_take 28 = .ok (.aload_n 0, 1) := by decide +kernel
theorem dX11_take_29 : decode cX11_take 29 = .ok (.getfield 68, 3) := by decide +kernel
theorem dX11_take_32 : decode cX11_take 32 = .ok (.bipush 8, 2) := by decide +kernel
theorem dX11_take_34 : decode cX11_take 34 = .ok (.iload_n 1, 1) := by decide +kernel
theorem dX11_take_35 : decode cX11_take 35 = .ok (.imul, 1) := by decide +kernel
theorem dX11_take_36 : decode cX11_take 36 = .ok (.iaload, 1) := by decide +kernel
theorem dX11_take_37 : decode cX11_take 37 = .ok (.iastore, 1) := by decide +kernel
theorem dX11_take_38 : decode cX11_take 38 = .ok (.aload_n 0, 1) := by decide +kernel
theorem dX11_take_39 : decode cX11_take 39 = .ok (.getfield 56, 3) := by decide +kernel
theorem dX11_take_42 : decode cX11_take 42 = .ok (.bipush 8, 2) := by decide +kernel
theorem dX11_take_44 : decode cX11_take 44 = .ok (.iload_n 1, 1) := by decide +kernel
theorem dX11_take_45 : decode cX11_take 45 = .ok (.imul, 1) := by decide +kernel
theorem dX11_take_46 : decode cX11_take 46 = .ok (.bipush 7, 2) := by decide +kernel
theorem dX11_take_48 : decode cX11_take 48 = .ok (.iadd, 1) := by decide +kernel
theorem dX11_take_49 : decode cX11_take 49 = .ok (.iconst 1, 1) := by decide +kernel
theorem dX11_take_50 : decode cX11_take 50 = .ok (.iastore, 1) := by decide +kernel
theorem dX11_take_51 : decode cX11_take 51 = .ok (.aload_n 0, 1) := by decide +kernel
theorem dX11_take_52 : decode cX11_take 52 = .ok (.getfield 71, 3) := by decide +kernel
theorem dX11_take_55 : decode cX11_take 55 = .ok (.iload_n 1, 1) := by decide +kernel
theorem dX11_take_56 : decode cX11_take 56 = .ok (.dup2, 1) := by decide +kernel
theorem dX11_take_57 : decode cX11_take 57 = .ok (.iaload, 1) := by decide +kernel
theorem dX11_take_58 : decode cX11_take 58 = .ok (.iconst 1, 1) := by decide +kernel
theorem dX11_take_59 : decode cX11_take 59 = .ok (.isub, 1) := by decide +kernel
theorem dX11_take_60 : decode cX11_take 60 = .ok (.iastore, 1) := by decide +kernel
theorem dX11_take_61 : decode cX11_take 61 = .ok (.iconst 0, 1) := by decide +kernel
theorem dX11_take_62 : decode cX11_take 62 = .ok (.istore_n 3, 1) := by decide +kernel
theorem dX11_take_63 : decode cX11_take 63 = .ok (.iload_n 3, 1) := by decide +kernel
theorem dX11_take_64 : decode cX11_take 64 = .ok (.aload_n 0, 1) := by decide +kernel
theorem dX11_take_65 : decode cX11_take 65 = .ok (.getfield 71, 3) := by decide +kernel
theorem dX11_take_68 : decode cX11_take 68 = .ok (.iload_n 1, 1) := by decide +kernel
theorem dX11_take_69 : decode cX11_take 69 = .ok (.iaload, 1) := by decide +kernel
theorem dX11_take_70 : decode cX11_take 70 = .ok (.if_icmp .ge 33, 3) := by decide +kernel
theorem dX11_take_73 : decode cX11_take 73 = .ok (.aload_n 0, 1) := by decide +kernel
theorem dX11_take_74 : decode cX11_take 74 = .ok (.getfield 68, 3) := by decide +kernel
theorem dX11_take_77 : decode cX11_take 77 = .ok (.bipush 8, 2) := by decide +kernel
theorem dX11_take_79 : decode cX11_take 79 = .ok (.iload_n 1, 1) := by decide +kernel
theorem dX11_take_80 : decode cX11_take 80 = .ok (.imul, 1) := by decide +kernel
theorem dX11_take_81 : decode cX11_take 81 = .ok (.iload_n 3, 1) := by decide +kernel
theorem dX11_take_82 : decode cX11_take 82 = .ok (.iadd, 1) := by decide +kernel
theorem dX11_take_83 : decode cX11_take 83 = .ok (.aload_n 0, 1) := by decide +kernel
theorem dX11_take_84 : decode cX11_take 84 = .ok (.getfield 68, 3) := by decide +kernel
theorem dX11_take_87 : decode cX11_take 87 = .ok (.bipush 8, 2) := by decide +kernel
theorem dX11_take_89 : decode cX11_take 89 = .ok (.iload_n 1, 1) := by decide +kernel
theorem dX11_take_90 : decode cX11_take 90 = .ok (.imul, 1) := by decide +kernel
theorem dX11_take_91 : decode cX11_take 91 = .ok (.iload_n 3, 1) := by decide +kernel
theorem dX11_take_92 : decode cX11_take 92 = .ok (.iadd, 1) := by decide +kernel
theorem dX11_take_93 : decode cX11_take 93 = .ok (.iconst 1, 1) := by decide +kernel
theorem dX11_take_94 : decode cX11_take 94 = .ok (.iadd, 1) := by decide +kernel
theorem dX11_take_95 : decode cX11_take 95 = .ok (.iaload, 1) := by decide +kernel
theorem dX11_take_96 : decode cX11_take 96 = .ok (.iastore, 1) := by decide +kernel
theorem dX11_take_97 : decode cX11_take 97 = .ok (.iinc 3 1, 3) := by decide +kernel
theorem dX11_take_100 : decode cX11_take 100 = .ok (.goto (-37), 3) := by decide +kernel
theorem dX11_take_103 : decode cX11_take 103 = .ok (.return_, 1) := by decide +kernel
theorem dX11_sends_0 : decode cX11_sends 0 = .ok (.iload 4, 2) := by decide +kernel
theorem dX11_sends_2 : decode cX11_sends 2 = .ok (.aload_n 0, 1) := by decide +kernel
theorem dX11_sends_3 : decode cX11_sends 3 = .ok (.getfield 184, 3) := by decide +kernel
theorem dX11_sends_6 : decode cX11_sends 6 = .ok (.if_icmp .ge 51, 3) := by decide +kernel
theorem dX11_sends_9 : decode cX11_sends 9 = .ok (.aload_n 0, 1) := by decide +kernel
theorem dX11_sends_10 : decode cX11_sends 10 = .ok (.getfield 20, 3) := by decide +kernel
theorem dX11_sends_13 : decode cX11_sends 13 = .ok (.iload 4, 2) := by decide +kernel
theorem dX11_sends_15 : decode cX11_sends 15 = .ok (.baload, 1) := by decide +kernel
theorem dX11_sends_16 : decode cX11_sends 16 = .ok (.iload_n 3, 1) := by decide +kernel
theorem dX11_sends_17 : decode cX11_sends 17 = .ok (.bipush 15, 2) := by decide +kernel
theorem dX11_sends_19 : decode cX11_sends 19 = .ok (.if_icmp .le 7, 3) := by decide +kernel
theorem dX11_sends_22 : decode cX11_sends 22 = .ok (.iconst 1, 1) := by decide +kernel
theorem dX11_sends_23 : decode cX11_sends 23 = .ok (.goto 4, 3) := by decide +kernel
theorem dX11_sends_26 : decode cX11_sends 26 = .ok (.iconst 0, 1) := by decide +kernel
theorem dX11_sends_27 : decode cX11_sends 27 = .ok (.if_icmp .ne 30, 3) := by decide +kernel
theorem dX11_sends_30 : decode cX11_sends 30 = .ok (.iload_n 3, 1) := by decide +kernel
theorem dX11_sends_31 : decode cX11_sends 31 = .ok (.iconst 2, 1) := by decide +kernel
theorem dX11_sends_32 : decode cX11_sends 32 = .ok (.irem, 1) := by decide +kernel
theorem dX11_sends_33 : decode cX11_sends 33 = .ok (.ifCond .ne 13, 3) := by decide +kernel
theorem dX11_sends_36 : decode cX11_sends 36 = .ok (.aload_n 0, 1) := by decide +kernel
theorem dX11_sends_37 : decode cX11_sends 37 = .ok (.getfield 13, 3) := by decide +kernel
theorem dX11_sends_40 : decode cX11_sends 40 = .ok (.iload 4, 2) := by decide +kernel
theorem dX11_sends_42 : decode cX11_sends 42 = .ok (.iaload, 1) := by decide +kernel
theorem dX11_sends_43 : decode cX11_sends 43 = .ok (.goto 10, 3) := by decide +kernel
theorem dX11_sends_46 : decode cX11_sends 46 = .ok (.aload_n 0, 1) := by decide +kernel
theorem dX11_sends_47 : decode cX11_sends 47 = .ok (.getfield 17, 3) := by decide +kernel
theorem dX11_sends_50 : decode cX11_sends 50 = .ok (.iload 4, 2) := by decide +kernel
theorem dX11_sends_52 : decode cX11_sends 52 = .ok (.iaload, 1) := by decide +kernel
theorem dX11_sends_53 : decode cX11_sends 53 = .ok (.iload_n 2, 1) := by decide +kernel
theorem dX11_sends_54 : decode cX11_sends 54 = .ok (.if_icmp .eq 5, 3) := by decide +kernel
theorem dX11_sends_57 : decode cX11_sends 57 = .ok (.iconst 0, 1) := by decide +kernel
theorem dX11_sends_58 : decode cX11_sends 58 = .ok (.ireturn, 1) := by decide +kernel
theorem dX11_sends_59 : decode cX11_sends 59 = .ok (.bipush 6, 2) := by decide +kernel
theorem dX11_sends_61 : decode cX11_sends 61 = .ok (.iload_n 1, 1) := by decide +kernel
theorem dX11_sends_62 : decode cX11_sends 62 = .ok (.imul, 1) := by decide +kernel
theorem dX11_sends_63 : decode cX11_sends 63 = .ok (.iload_n 2, 1) := by decide +kernel
theorem dX11_sends_64 : decode cX11_sends 64 = .ok (.iadd, 1) := by decide +kernel
theorem dX11_sends_65 : decode cX11_sends 65 = .ok (.istore 7, 2) := by decide +kernel
theorem dX11_sends_67 : decode cX11_sends 67 = .ok (.bipush 12, 2) := by decide +kernel
theorem dX11_sends_69 : decode cX11_sends 69 = .ok (.iload_n 1, 1) := by decide +kernel
theorem dX11_sends_70 : decode cX11_sends 70 = .ok (.imul, 1) := by decide +kernel
theorem dX11_sends_71 : decode cX11_sends 71 = .ok (.iload 4, 2) := by decide +kernel
theorem dX11_sends_73 : decode cX11_sends 73 = .ok (.iadd, 1) := by decide +kernel
theorem dX11_sends_74 : decode cX11_sends 74 = .ok (.istore 8, 2) := by decide +kernel
theorem dX11_sends_76 : decode cX11_sends 76 = .ok (.iload_n 3, 1) := by decide +kernel
theorem dX11_sends_77 : decode cX11_sends 77 = .ok (.bipush 14, 2) := by decide +kernel
theorem dX11_sends_79 : decode cX11_sends 79 = .ok (.if_icmp .ne 111, 3) := by decide +kernel
theorem dX11_sends_82 : decode cX11_sends 82 = .ok (.iload 6, 2) := by decide +kernel
theorem dX11_sends_84 : decode cX11_sends 84 = .ok (.iconst 1, 1) := by decide +kernel
theorem dX11_sends_85 : decode cX11_sends 85 = .ok (.if_icmp .lt 21, 3) := by decide +kernel
theorem dX11_sends_88 : decode cX11_sends 88 = .ok (.iload 6, 2) := by decide +kernel
theorem dX11_sends_90 : decode cX11_sends 90 = .ok (.iconst 4, 1) := by decide +kernel
theorem dX11_sends_91 : decode cX11_sends 91 = .ok (.if_icmp .gt 15, 3) := by decide +kernel
theorem dX11_sends_94 : decode cX11_sends 94 = .ok (.iload 5, 2) := by decide +kernel
theorem dX11_sends_96 : decode cX11_sends 96 = .ok (.i2l, 1) := by decide +kernel
theorem dX11_sends_97 : decode cX11_sends 97 = .ok (.iload 6, 2) := by decide +kernel
theorem dX11_sends_99 : decode cX11_sends 99 = .ok (.i2l, 1) := by decide +kernel
theorem dX11_sends_100 : decode cX11_sends 100 = .ok (.invokestatic 213, 3) := by decide +kernel
theorem dX11_sends_103 : decode cX11_sends 103 = .ok (.ifCond .ne 5, 3) := by decide +kernel
theorem dX11_sends_106 : decode cX11_sends 106 = .ok (.iconst 0, 1) := by decide +kernel
theorem dX11_sends_107 : decode cX11_sends 107 = .ok (.ireturn, 1) := by decide +kernel
theorem dX11_sends_108 : decode cX11_sends 108 = .ok (.aload_n 0, 1) := by decide +kernel
theorem dX11_sends_109 : decode cX11_sends 109 = .ok (.getfield 110, 3) := by decide +kernel
theorem dX11_sends_112 : decode cX11_sends 112 = .ok (.iload 8, 2) := by decide +kernel
theorem dX11_sends_114 : decode cX11_sends 114 = .ok (.iaload, 1) := by decide +kernel
theorem dX11_sends_115 : decode cX11_sends 115 = .ok (.aload_n 0, 1) := by decide +kernel
theorem dX11_sends_116 : decode cX11_sends 116 = .ok (.getfield 23, 3) := by decide +kernel
theorem dX11_sends_119 : decode cX11_sends 119 = .ok (.iload 4, 2) := by decide +kernel
theorem dX11_sends_121 : decode cX11_sends 121 = .ok (.iaload, 1) := by decide +kernel
theorem dX11_sends_122 : decode cX11_sends 122 = .ok (.if_icmp .ge 7, 3) := by decide +kernel
theorem dX11_sends_125 : decode cX11_sends 125 = .ok (.iconst 1, 1) := by decide +kernel
theorem dX11_sends_126 : decode cX11_sends 126 = .ok (.goto 4, 3) := by decide +kernel
theorem dX11_sends_129 : decode cX11_sends 129 = .ok (.iconst 0, 1) := by decide +kernel
theorem dX11_sends_130 : decode cX11_sends 130 = .ok (.istore 9, 2) := by decide +kernel
theorem dX11_sends_132 : decode cX11_sends 132 = .ok (.iload 9, 2) := by decide +kernel
theorem dX11_sends_134 : decode cX11_sends 134 = .ok (.ifCond .eq 31, 3) := by decide +kernel
theorem dX11_sends_137 : decode cX11_sends 137 = .ok (.aload_n 0, 1) := by decide +kernel
theorem dX11_sends_138 : decode cX11_sends 138 = .ok (.getfield 110, 3) := by decide +kernel
theorem dX11_sends_141 : decode cX11_sends 141 = .ok (.iload 8, 2) := by decide +kernel
theorem dX11_sends_143 : decode cX11_sends 143 = .ok (.dup2, 1) := by decide +kernel
theorem dX11_sends_144 : decode cX11_sends 144 = .ok (.iaload, 1) := by decide +kernel
theorem dX11_sends_145 : decode cX11_sends 145 = .ok (.iconst 1, 1) := by decide +kernel
theorem dX11_sends_146 : decode cX11_sends 146 = .ok (.iadd, 1) := by decide +kernel
theorem dX11_sends_147 : decode cX11_sends 147 = .ok (.iastore, 1) := by decide +kernel
theorem dX11_sends_148 : decode cX11_sends 148 = .ok (.aload_n 0, 1) := by decide +kernel
theorem dX11_sends_149 : decode cX11_sends 149 = .ok (.iload_n 1, 1) := by decide +kernel
theorem dX11_sends_150 : decode cX11_sends 150 = .ok (.iload 8, 2) := by decide +kernel
theorem dX11_sends_152 : decode cX11_sends 152 = .ok (.bipush 32, 2) := by decide +kernel
theorem dX11_sends_154 : decode cX11_sends 154 = .ok (.iload 7, 2) := by decide +kernel
theorem dX11_sends_156 : decode cX11_sends 156 = .ok (.imul, 1) := by decide +kernel
theorem dX11_sends_157 : decode cX11_sends 157 = .ok (.iload 5, 2) := by decide +kernel
theorem dX11_sends_159 : decode cX11_sends 159 = .ok (.iadd, 1) := by decide +kernel
theorem dX11_sends_160 : decode cX11_sends 160 = .ok (.iload 6, 2) := by decide +kernel
theorem dX11_sends_162 : decode cX11_sends 162 = .ok (.invokevirtual 223, 3) := by decide +kernel
theorem dX11_sends_165 : decode cX11_sends 165 = .ok (.aload_n 0, 1) := by decide +kernel
theorem dX11_sends_166 : decode cX11_sends 166 = .ok (.getfield 56, 3) := by decide +kernel
theorem dX11_sends_169 : decode cX11_sends 169 = .ok (.bipush 8, 2) := by decide +kernel
theorem dX11_sends_171 : decode cX11_sends 171 = .ok (.iload 7, 2) := by decide +kernel
theorem dX11_sends_173 : decode cX11_sends 173 = .ok (.imul, 1) := by decide +kernel
theorem dX11_sends_174 : decode cX11_sends 174 = .ok (.bipush 7, 2) := by decide +kernel
theorem dX11_sends_176 : decode cX11_sends 176 = .ok (.iadd, 1) := by decide +kernel
theorem dX11_sends_177 : decode cX11_sends 177 = .ok (.iload 9, 2) := by decide +kernel
theorem dX11_sends_179 : decode cX11_sends 179 = .ok (.ifCond .eq 7, 3) := by decide +kernel
theorem dX11_sends_182 : decode cX11_sends 182 = .ok (.iconst 1, 1) := by decide +kernel
theorem dX11_sends_183 : decode cX11_sends 183 = .ok (.goto 4, 3) := by decide +kernel
theorem dX11_sends_186 : decode cX11_sends 186 = .ok (.iconst 0, 1) := by decide +kernel
theorem dX11_sends_187 : decode cX11_sends 187 = .ok (.iastore, 1) := by decide +kernel
theorem dX11_sends_188 : decode cX11_sends 188 = .ok (.iconst 1, 1) := by decide +kernel
theorem dX11_sends_189 : decode cX11_sends 189 = .ok (.ireturn, 1) := by decide +kernel
theorem dX11_sends_190 : decode cX11_sends 190 = .ok (.iload_n 3, 1) := by decide +kernel
theorem dX11_sends_191 : decode cX11_sends 191 = .ok (.bipush 15, 2) := by decide +kernel
theorem dX11_sends_193 : decode cX11_sends 193 = .ok (.if_icmp .ne 153, 3) := by decide +kernel
theorem dX11_sends_196 : decode cX11_sends 196 = .ok (.aload_n 0, 1) := by decide +kernel
theorem dX11_sends_197 : decode cX11_sends 197 = .ok (.getfield 95, 3) := by decide +kernel
theorem dX11_sends_200 : decode cX11_sends 200 = .ok (.iload 8, 2) := by decide +kernel
theorem dX11_sends_202 : decode cX11_sends 202 = .ok (.iaload, 1) := by decide +kernel
theorem dX11_sends_203 : decode cX11_sends 203 = .ok (.ifCond .ne 19, 3) := by decide +kernel
theorem dX11_sends_206 : decode cX11_sends 206 = .ok (.aload_n 0, 1) := by decide +kernel
theorem dX11_sends_207 : decode cX11_sends 207 = .ok (.getfield 56, 3) := by decide +kernel
theorem dX11_sends_210 : decode cX11_sends 210 = .ok (.bipush 8, 2) := by decide +kernel
theorem dX11_sends_212 : decode cX11_sends 212 = .ok (.iload 7, 2) := by decide +kernel
theorem dX11_sends_214 : decode cX11_sends 214 = .ok (.imul, 1) := by decide +kernel
theorem dX11_sends_215 : decode cX11_sends 215 = .ok (.bipush 7, 2) := by decide +kernel
theorem dX11_sends_217 : decode cX11_sends 217 = .ok (.iadd, 1) := by decide +kernel
theorem dX11_sends_218 : decode cX11_sends 218 = .ok (.iconst (-1), 1) := by decide +kernel
theorem dX11_sends_219 : decode cX11_sends 219 = .ok (.iastore, 1) := by decide +kernel
theorem dX11_sends_220 : decode cX11_sends 220 = .ok (.iconst 1, 1) := by decide +kernel
theorem dX11_sends_221 : decode cX11_sends 221 = .ok (.ireturn, 1) := by decide +kernel
theorem dX11_sends_222 : decode cX11_sends 222 = .ok (.aload_n 0, 1) := by decide +kernel
theorem dX11_sends_223 : decode cX11_sends 223 = .ok (.getfield 89, 3) := by decide +kernel
theorem dX11_sends_226 : decode cX11_sends 226 = .ok (.iload 8, 2) := by decide +kernel
theorem dX11_sends_228 : decode cX11_sends 228 = .ok (.iaload, 1) := by decide +kernel
theorem dX11_sends_229 : decode cX11_sends 229 = .ok (.istore 9, 2) := by decide +kernel
theorem dX11_sends_231 : decode cX11_sends 231 = .ok (.iload 5, 2) := by decide +kernel
theorem dX11_sends_233 : decode cX11_sends 233 = .ok (.i2l, 1) := by decide +kernel
theorem dX11_sends_234 : decode cX11_sends 234 = .ok (.aload_n 0, 1) := by decide +kernel
theorem dX11_sends_235 : decode cX11_sends 235 = .ok (.getfield 125, 3) := by decide +kernel
theorem dX11_sends_238 : decode cX11_sends 238 = .ok (.iload 9, 2) := by decide +kernel
theorem dX11_sends_240 : decode cX11_sends 240 = .ok (.iaload, 1) := by decide +kernel
theorem dX11_sends_241 : decode cX11_sends 241 = .ok (.i2l, 1) := by decide +kernel
theorem dX11_sends_242 : decode cX11_sends 242 = .ok (.invokestatic 213, 3) := by decide +kernel
theorem dX11_sends_245 : decode cX11_sends 245 = .ok (.ifCond .ne 5, 3) := by decide +kernel
theorem dX11_sends_248 : decode cX11_sends 248 = .ok (.iconst 0, 1) := by decide +kernel
theorem dX11_sends_249 : decode cX11_sends 249 = .ok (.ireturn, 1) := by decide +kernel
theorem dX11_sends_250 : decode cX11_sends 250 = .ok (.iconst 0, 1) := by decide +kernel
theorem dX11_sends_251 : decode cX11_sends 251 = .ok (.istore 10, 2) := by decide +kernel
theorem dX11_sends_253 : decode cX11_sends 253 = .ok (.iload 10, 2) := by decide +kernel
theorem dX11_sends_255 : decode cX11_sends 255 = .ok (.aload_n 0, 1) := by decide +kernel
theorem dX11_sends_256 : decode cX11_sends 256 = .ok (.getfield 125, 3) := by decide +kernel
theorem dX11_sends_259 : decode cX11_sends 259 = .ok (.iload 9, 2) := by decide +kernel
theorem dX11_sends_261 : decode cX11_sends 261 = .ok (.iaload, 1) := by decide +kernel
theorem dX11_sends_262 : decode cX11_sends 262 = .ok (.if_icmp .ge 37, 3) := by decide +kernel
theorem dX11_sends_265 : decode cX11_sends 265 = .ok (.aload_n 0, 1) := by decide +kernel
theorem dX11_sends_266 : decode cX11_sends 266 = .ok (.getfield 59, 3) := by decide +kernel
theorem dX11_sends_269 : decode cX11_sends 269 = .ok (.bipush 32, 2) := by decide +kernel
theorem dX11_sends_271 : decode cX11_sends 271 = .ok (.iload 7, 2) := by decide +kernel
theorem dX11_sends_273 : decode cX11_sends 273 = .ok (.imul, 1) := by decide +kernel
theorem dX11_sends_274 : decode cX11_sends 274 = .ok (.iload 5, 2) := by decide +kernel
theorem dX11_sends_276 : decode cX11_sends 276 = .ok (.iadd, 1) := by decide +kernel
theorem dX11_sends_277 : decode cX11_sends 277 = .ok (.iload 10, 2) := by decide +kernel
theorem dX11_sends_279 : decode cX11_sends 279 = .ok (.iadd, 1) := by decide +kernel
theorem dX11_sends_280 : decode cX11_sends 280 = .ok (.aload_n 0, 1) := by decide +kernel
theorem dX11_sends_281 : decode cX11_sends 281 = .ok (.getfield 129, 3) := by decide +kernel
theorem dX11_sends_284 : decode cX11_sends 284 = .ok (.iconst 4, 1) := by decide +kernel
theorem dX11_sends_285 : decode cX11_sends 285 = .ok (.iload 9, 2) := by decide +kernel
theorem dX11_sends_287 : decode cX11_sends 287 = .ok (.imul, 1) := by decide +kernel
theorem dX11_sends_288 : decode cX11_sends 288 = .ok (.iload 10, 2) := by decide +kernel
theorem dX11_sends_290 : decode cX11_sends 290 = .ok (.iadd, 1) := by decide +kernel
theorem dX11_sends_291 : decode cX11_sends 291 = .ok (.iaload, 1) := by decide +kernel
theorem dX11_sends_292 : decode cX11_sends 292 = .ok (.iastore, 1) := by decide +kernel
theorem dX11_sends_293 : decode cX11_sends 293 = .ok (.iinc 10 1, 3) := by decide +kernel
theorem dX11_sends_296 : decode cX11_sends 296 = .ok (.goto (-43), 3) := by decide +kernel
theorem dX11_sends_299 : decode cX11_sends 299 = .ok (.aload_n 0, 1) := by decide +kernel
theorem dX11_sends_300 : decode cX11_sends 300 = .ok (.getfield 56, 3) := by decide +kernel
theorem dX11_sends_303 : decode cX11_sends 303 = .ok (.bipush 8, 2) := by decide +kernel
theorem dX11_sends_305 : decode cX11_sends 305 = .ok (.iload 7, 2) := by decide +kernel
theorem dX11_sends_307 : decode cX11_sends 307 = .ok (.imul, 1) := by decide +kernel
theorem dX11_sends_308 : decode cX11_sends 308 = .ok (.bipush 7, 2) := by decide +kernel
theorem dX11_sends_310 : decode cX11_sends 310 = .ok (.iadd, 1) := by decide +kernel
theorem dX11_sends_311 : decode cX11_sends 311 = .ok (.aload_n 0, 1) := by decide +kernel
theorem dX11_sends_312 : decode cX11_sends 312 = .ok (.getfield 125, 3) := by decide +kernel
theorem dX11_sends_315 : decode cX11_sends 315 = .ok (.iload 9, 2) := by decide +kernel
theorem dX11_sends_317 : decode cX11_sends 317 = .ok (.iaload, 1) := by decide +kernel
theorem dX11_sends_318 : decode cX11_sends 318 = .ok (.iastore, 1) := by decide +kernel
theorem dX11_sends_319 : decode cX11_sends 319 = .ok (.aload_n 0, 1) := by decide +kernel
theorem dX11_sends_320 : decode cX11_sends 320 = .ok (.getfield 89, 3) := by decide +kernel
theorem dX11_sends_323 : decode cX11_sends 323 = .ok (.iload 8, 2) := by decide +kernel
theorem dX11_sends_325 : decode cX11_sends 325 = .ok (.aload_n 0, 1) := by decide +kernel
theorem dX11_sends_326 : decode cX11_sends 326 = .ok (.getfield 122, 3) := by decide +kernel
theorem dX11_sends_329 : decode cX11_sends 329 = .ok (.iload 9, 2) := by decide +kernel
theorem dX11_sends_331 : decode cX11_sends 331 = .ok (.iaload, 1) := by decide +kernel
theorem dX11_sends_332 : decode cX11_sends 332 = .ok (.iastore, 1) := by decide +kernel
theorem dX11_sends_333 : decode cX11_sends 333 = .ok (.aload_n 0, 1) := by decide +kernel
theorem dX11_sends_334 : decode cX11_sends 334 = .ok (.getfield 95, 3) := by decide +kernel
theorem dX11_sends_337 : decode cX11_sends 337 = .ok (.iload 8, 2) := by decide +kernel
theorem dX11_sends_339 : decode cX11_sends 339 = .ok (.dup2, 1) := by decide +kernel
theorem dX11_sends_340 : decode cX11_sends 340 = .ok (.iaload, 1) := by decide +kernel
theorem dX11_sends_341 : decode cX11_sends 341 = .ok (.iconst 1, 1) := by decide +kernel
theorem dX11_sends_342 : decode cX11_sends 342 = .ok (.isub, 1) := by decide +kernel
theorem dX11_sends_343 : decode cX11_sends 343 = .ok (.iastore, 1) := by decide +kernel
theorem dX11_sends_344 : decode cX11_sends 344 = .ok (.iconst 1, 1) := by decide +kernel
theorem dX11_sends_345 : decode cX11_sends 345 = .ok (.ireturn, 1) := by decide +kernel
theorem dX11_sends_346 : decode cX11_sends 346 = .ok (.iload 5, 2) := by decide +kernel
theorem dX11_sends_348 : decode cX11_sends 348 = .ok (.i2l, 1) := by decide +kernel
theorem dX11_sends_349 : decode cX11_sends 349 = .ok (.aload_n 0, 1) := by decide +kernel
theorem dX11_sends_350 : decode cX11_sends 350 = .ok (.getfield 23, 3) := by decide +kernel
theorem dX11_sends_353 : decode cX11_sends 353 = .ok (.iload 4, 2) := by decide +kernel
theorem dX11_sends_355 : decode cX11_sends 355 = .ok (.iaload, 1) := by decide +kernel
theorem dX11_sends_356 : decode cX11_sends 356 = .ok (.i2l, 1) := by decide +kernel
theorem dX11_sends_357 : decode cX11_sends 357 = .ok (.invokestatic 213, 3) := by decide +kernel
theorem dX11_sends_360 : decode cX11_sends 360 = .ok (.ifCond .ne 5, 3) := by decide +kernel
theorem dX11_sends_363 : decode cX11_sends 363 = .ok (.iconst 0, 1) := by decide +kernel
theorem dX11_sends_364 : decode cX11_sends 364 = .ok (.ireturn, 1) := by decide +kernel
theorem dX11_sends_365 : decode cX11_sends 365 = .ok (.iconst 0, 1) := by decide +kernel
theorem dX11_sends_366 : decode cX11_sends 366 = .ok (.istore 9, 2) := by decide +kernel
theorem dX11_sends_368 : decode cX11_sends 368 = .ok (.iload 9, 2) := by decide +kernel
theorem dX11_sends_370 : decode cX11_sends 370 = .ok (.aload_n 0, 1) := by decide +kernel
theorem dX11_sends_371 : decode cX11_sends 371 = .ok (.getfield 23, 3) := by decide +kernel
theorem dX11_sends_374 : decode cX11_sends 374 = .ok (.iload 4, 2) := by decide +kernel
theorem dX11_sends_376 : decode cX11_sends 376 = .ok (.iaload, 1) := by decide +kernel
theorem dX11_sends_377 : decode cX11_sends 377 = .ok (.if_icmp .ge 74, 3) := by decide +kernel
theorem dX11_sends_380 : decode cX11_sends 380 = .ok (.iload_n 3, 1) := by decide +kernel
theorem dX11_sends_381 : decode cX11_sends 381 = .ok (.bipush 16, 2) := by decide +kernel
theorem dX11_sends_383 : decode cX11_sends 383 = .ok (.if_icmp .ne 34, 3) := by decide +kernel
theorem dX11_sends_386 : decode cX11_sends 386 = .ok (.aload_n 0, 1) := by decide +kernel
theorem dX11_sends_387 : decode cX11_sends 387 = .ok (.getfield 113, 3) := by decide +kernel
theorem dX11_sends_390 : decode cX11_sends 390 = .ok (.iconst 4, 1) := by decide +kernel
theorem dX11_sends_391 : decode cX11_sends 391 = .ok (.iload 8, 2) := by decide +kernel
theorem dX11_sends_393 : decode cX11_sends 393 = .ok (.imul, 1) := by decide +kernel
theorem dX11_sends_394 : decode cX11_sends 394 = .ok (.iload 9, 2) := by decide +kernel
theorem dX11_sends_396 : decode cX11_sends 396 = .ok (.iadd, 1) := by decide +kernel
theorem dX11_sends_397 : decode cX11_sends 397 = .ok (.aload_n 0, 1) := by decide +kernel
theorem dX11_sends_398 : decode cX11_sends 398 = .ok (.getfield 59, 3) := by decide +kernel
theorem dX11_sends_401 : decode cX11_sends 401 = .ok (.bipush 32, 2) := by decide +kernel
theorem dX11_sends_403 : decode cX11_sends 403 = .ok (.iload 7, 2) := by decide +kernel
theorem dX11_sends_405 : decode cX11_sends 405 = .ok (.imul, 1) := by decide +kernel
theorem dX11_sends_406 : decode cX11_sends 406 = .ok (.iload 5, 2) := by decide +kernel
theorem dX11_sends_408 : decode cX11_sends 408 = .ok (.iadd, 1) := by decide +kernel
theorem dX11_sends_409 : decode cX11_sends 409 = .ok (.iload 9, 2) := by decide +kernel
theorem dX11_sends_411 : decode cX11_sends 411 = .ok (.iadd, 1) := by decide +kernel
theorem dX11_sends_412 : decode cX11_sends 412 = .ok (.iaload, 1) := by decide +kernel
theorem dX11_sends_413 : decode cX11_sends 413 = .ok (.iastore, 1) := by decide +kernel
theorem dX11_sends_414 : decode cX11_sends 414 = .ok (.goto 31, 3) := by decide +kernel
theorem dX11_sends_417 : decode cX11_sends 417 = .ok (.aload_n 0, 1) := by decide +kernel
theorem dX11_sends_418 : decode cX11_sends 418 = .ok (.getfield 59, 3) := by decide +kernel
theorem dX11_sends_421 : decode cX11_sends 421 = .ok (.bipush 32, 2) := by decide +kernel
theorem dX11_sends_423 : decode cX11_sends 423 = .ok (.iload 7, 2) := by decide +kernel
theorem dX11_sends_425 : decode cX11_sends 425 = .ok (.imul, 1) := by decide +kernel
theorem dX11_sends_426 : decode cX11_sends 426 = .ok (.iload 5, 2) := by decide +kernel
theorem dX11_sends_428 : decode cX11_sends 428 = .ok (.iadd, 1) := by decide +kernel
theorem dX11_sends_429 : decode cX11_sends 429 = .ok (.iload 9, 2) := by decide +kernel
theorem dX11_sends_431 : decode cX11_sends 431 = .ok (.iadd, 1) := by decide +kernel
theorem dX11_sends_432 : decode cX11_sends 432 = .ok (.aload_n 0, 1) := by decide +kernel
theorem dX11_sends_433 : decode cX11_sends 433 = .ok (.getfield 113, 3) := by decide +kernel
theorem dX11_sends_436 : decode cX11_sends 436 = .ok (.iconst 4, 1) := by decide +kernel
theorem dX11_sends_437 : decode cX11_sends 437 = .ok (.iload 8, 2) := by decide +kernel
theorem dX11_sends_439 : decode cX11_sends 439 = .ok (.imul, 1) := by decide +kernel
theorem dX11_sends_440 : decode cX11_sends 440 = .ok (.iload 9, 2) := by decide +kernel
theorem dX11_sends_442 : decode cX11_sends 442 = .ok (.iadd, 1) := by decide +kernel
theorem dX11_sends_443 : decode cX11_sends 443 = .ok (.iaload, 1) := by decide +kernel
theorem dX11_sends_444 : decode cX11_sends 444 = .ok (.iastore, 1) := by decide +kernel
theorem dX11_sends_445 : decode cX11_sends 445 = .ok (.iinc 9 1, 3) := by decide +kernel
theorem dX11_sends_448 : decode cX11_sends 448 = .ok (.goto (-80), 3) := by decide +kernel
theorem dX11_sends_451 : decode cX11_sends 451 = .ok (.iload_n 3, 1) := by decide +kernel
theorem dX11_sends_452 : decode cX11_sends 452 = .ok (.bipush 16, 2) := by decide +kernel
theorem dX11_sends_454 : decode cX11_sends 454 = .ok (.if_icmp .ne 30, 3) := by decide +kernel
theorem dX11_sends_457 : decode cX11_sends 457 = .ok (.aload_n 0, 1) := by decide +kernel
theorem dX11_sends_458 : decode cX11_sends 458 = .ok (.getfield 116, 3) := by decide +kernel
theorem dX11_sends_461 : decode cX11_sends 461 = .ok (.iload 8, 2) := by decide +kernel
theorem dX11_sends_463 : decode cX11_sends 463 = .ok (.dup2, 1) := by decide +kernel
theorem dX11_sends_464 : decode cX11_sends 464 = .ok (.iaload, 1) := by decide +kernel
theorem dX11_sends_465 : decode cX11_sends 465 = .ok (.iconst 1, 1) := by decide +kernel
theorem dX11_sends_466 : decode cX11_sends 466 = .ok (.iadd, 1) := by decide +kernel
theorem dX11_sends_467 : decode cX11_sends 467 = .ok (.iastore, 1) := by decide +kernel
theorem dX11_sends_468 : decode cX11_sends 468 = .ok (.aload_n 0, 1) := by decide +kernel
theorem dX11_sends_469 : decode cX11_sends 469 = .ok (.getfield 119, 3) := by decide +kernel
theorem dX11_sends_472 : decode cX11_sends 472 = .ok (.iload 8, 2) := by decide +kernel
theorem dX11_sends_474 : decode cX11_sends 474 = .ok (.aload_n 0, 1) := by decide +kernel
theorem dX11_sends_475 : decode cX11_sends 475 = .ok (.getfield 135, 3) := by decide +kernel
theorem dX11_sends_478 : decode cX11_sends 478 = .ok (.iload_n 1, 1) := by decide +kernel
theorem dX11_sends_479 : decode cX11_sends 479 = .ok (.iaload, 1) := by decide +kernel
theorem dX11_sends_480 : decode cX11_sends 480 = .ok (.iastore, 1) := by decide +kernel
theorem dX11_sends_481 : decode cX11_sends 481 = .ok (.goto 23, 3) := by decide +kernel
theorem dX11_sends_484 : decode cX11_sends 484 = .ok (.aload_n 0, 1) := by decide +kernel
theorem dX11_sends_485 : decode cX11_sends 485 = .ok (.getfield 56, 3) := by decide +kernel
theorem dX11_sends_488 : decode cX11_sends 488 = .ok (.bipush 8, 2) := by decide +kernel
theorem dX11_sends_490 : decode cX11_sends 490 = .ok (.iload 7, 2) := by decide +kernel
theorem dX11_sends_492 : decode cX11_sends 492 = .ok (.imul, 1) := by decide +kernel
theorem dX11_sends_493 : decode cX11_sends 493 = .ok (.bipush 7, 2) := by decide +kernel
theorem dX11_sends_495 : decode cX11_sends 495 = .ok (.iadd, 1) := by decide +kernel
theorem dX11_sends_496 : decode cX11_sends 496 = .ok (.aload_n 0, 1) := by decide +kernel
theorem dX11_sends_497 : decode cX11_sends 497 = .ok (.iload_n 1, 1) := by decide +kernel
theorem dX11_sends_498 : decode cX11_sends 498 = .ok (.iload 8, 2) := by decide +kernel
theorem dX11_sends_500 : decode cX11_sends 500 = .ok (.invokevirtual 227, 3) := by decide +kernel
theorem dX11_sends_503 : decode cX11_sends 503 = .ok (.iastore, 1) := by decide +kernel
theorem dX11_sends_504 : decode cX11_sends 504 = .ok (.iconst 1, 1) := by decide +kernel
theorem dX11_sends_505 : decode cX11_sends 505 = .ok (.ireturn, 1) := by decide +kernel
theorem dX11_ageOf_0 : decode cX11_ageOf 0 = .ok (.aload_n 0, 1) := by decide +kernel
theorem dX11_ageOf_1 : decode cX11_ageOf 1 = .ok (.getfield 116, 3) := by decide +kernel
theorem dX11_ageOf_4 : decode cX11_ageOf 4 = .ok (.iload_n 2, 1) := by decide +kernel
theorem dX11_ageOf_5 : decode cX11_ageOf 5 = .ok (.iaload, 1) := by decide +kernel
theorem dX11_ageOf_6 : decode cX11_ageOf 6 = .ok (.ifCond .ne 7, 3) := by decide +kernel
theorem dX11_ageOf_9 : decode cX11_ageOf 9 = .ok (.iconst (-1), 1) := by decide +kernel
theorem dX11_ageOf_10 : decode cX11_ageOf 10 = .ok (.goto 16, 3) := by decide +kernel
theorem dX11_ageOf_13 : decode cX11_ageOf 13 = .ok (.aload_n 0, 1) := by decide +kernel
theorem dX11_ageOf_14 : decode cX11_ageOf 14 = .ok (.getfield 135, 3) := by decide +kernel
theorem dX11_ageOf_17 : decode cX11_ageOf 17 = .ok (.iload_n 1, 1) := by decide +kernel
theorem dX11_ageOf_18 : decode cX11_ageOf 18 = .ok (.iaload, 1) := by decide +kernel
theorem dX11_ageOf_19 : decode cX11_ageOf 19 = .ok (.aload_n 0, 1) := by decide +kernel
theorem dX11_ageOf_20 : decode cX11_ageOf 20 = .ok (.getfield 119, 3) := by decide +kernel
theorem dX11_ageOf_23 : decode cX11_ageOf 23 = .ok (.iload_n 2, 1) := by decide +kernel
theorem dX11_ageOf_24 : decode cX11_ageOf 24 = .ok (.iaload, 1) := by decide +kernel
theorem dX11_ageOf_25 : decode cX11_ageOf 25 = .ok (.isub, 1) := by decide +kernel
theorem dX11_ageOf_26 : decode cX11_ageOf 26 = .ok (.ireturn, 1) := by decide +kernel
theorem dX11_send_0 : decode cX11_send 0 = .ok (.sipush 3000, 3) := by decide +kernel
theorem dX11_send_3 : decode cX11_send 3 = .ok (.iload_n 1, 1) := by decide +kernel
theorem dX11_send_4 : decode cX11_send 4 = .ok (.imul, 1) := by decide +kernel
theorem dX11_send_5 : decode cX11_send 5 = .ok (.aload_n 0, 1) := by decide +kernel
theorem dX11_send_6 : decode cX11_send 6 = .ok (.getfield 132, 3) := by decide +kernel
theorem dX11_send_9 : decode cX11_send 9 = .ok (.iload_n 1, 1) := by decide +kernel
theorem dX11_send_10 : decode cX11_send 10 = .ok (.iaload, 1) := by decide +kernel
theorem dX11_send_11 : decode cX11_send 11 = .ok (.iadd, 1) := by decide +kernel
theorem dX11_send_12 : decode cX11_send 12 = .ok (.istore 5, 2) := by decide +kernel
theorem dX11_send_14 : decode cX11_send 14 = .ok (.aload_n 0, 1) := by decide +kernel
theorem dX11_send_15 : decode cX11_send 15 = .ok (.getfield 132, 3) := by decide +kernel
theorem dX11_send_18 : decode cX11_send 18 = .ok (.iload_n 1, 1) := by decide +kernel
theorem dX11_send_19 : decode cX11_send 19 = .ok (.dup2, 1) := by decide +kernel
theorem dX11_send_20 : decode cX11_send 20 = .ok (.iaload, 1) := by decide +kernel
theorem dX11_send_21 : decode cX11_send 21 = .ok (.iconst 1, 1) := by decide +kernel
theorem dX11_send_22 : decode cX11_send 22 = .ok (.iadd, 1) := by decide +kernel
theorem dX11_send_23 : decode cX11_send 23 = .ok (.iastore, 1) := by decide +kernel
theorem dX11_send_24 : decode cX11_send 24 = .ok (.aload_n 0, 1) := by decide +kernel
theorem dX11_send_25 : decode cX11_send 25 = .ok (.getfield 125, 3) := by decide +kernel
theorem dX11_send_28 : decode cX11_send 28 = .ok (.iload 5, 2) := by decide +kernel
theorem dX11_send_30 : decode cX11_send 30 = .ok (.iload 4, 2) := by decide +kernel
theorem dX11_send_32 : decode cX11_send 32 = .ok (.iastore, 1) := by decide +kernel
theorem dX11_send_33 : decode cX11_send 33 = .ok (.iconst 0, 1) := by decide +kernel
theorem dX11_send_34 : decode cX11_send 34 = .ok (.istore 6, 2) := by decide +kernel
theorem dX11_send_36 : decode cX11_send 36 = .ok (.iload 6, 2) := by decide +kernel
theorem dX11_send_38 : decode cX11_send 38 = .ok (.iload 4, 2) := by decide +kernel
theorem dX11_send_40 : decode cX11_send 40 = .ok (.if_icmp .ge 30, 3) := by decide +kernel
theorem dX11_send_43 : decode cX11_send 43 = .ok (.aload_n 0, 1) := by decide +kernel
theorem dX11_send_44 : decode cX11_send 44 = .ok (.getfield 129, 3) := by decide +kernel
theorem dX11_send_47 : decode cX11_send 47 = .ok (.iconst 4, 1) := by decide +kernel
theorem dX11_send_48 : decode cX11_send 48 = .ok (.iload 5, 2) := by decide +kernel
theorem dX11_send_50 : decode cX11_send 50 = .ok (.imul, 1) := by decide +kernel
theorem dX11_send_51 : decode cX11_send 51 = .ok (.iload 6, 2) := by decide +kernel
theorem dX11_send_53 : decode cX11_send 53 = .ok (.iadd, 1) := by decide +kernel
theorem dX11_send_54 : decode cX11_send 54 = .ok (.aload_n 0, 1) := by decide +kernel
theorem dX11_send_55 : decode cX11_send 55 = .ok (.getfield 59, 3) := by decide +kernel
theorem dX11_send_58 : decode cX11_send 58 = .ok (.iload_n 3, 1) := by decide +kernel
theorem dX11_send_59 : decode cX11_send 59 = .ok (.iload 6, 2) := by decide +kernel
theorem dX11_send_61 : decode cX11_send 61 = .ok (.iadd, 1) := by decide +kernel
theorem dX11_send_62 : decode cX11_send 62 = .ok (.iaload, 1) := by decide +kernel
theorem dX11_send_63 : decode cX11_send 63 = .ok (.iastore, 1) := by decide +kernel
theorem dX11_send_64 : decode cX11_send 64 = .ok (.iinc 6 1, 3) := by decide +kernel
theorem dX11_send_67 : decode cX11_send 67 = .ok (.goto (-31), 3) := by decide +kernel
theorem dX11_send_70 : decode cX11_send 70 = .ok (.aload_n 0, 1) := by decide +kernel
theorem dX11_send_71 : decode cX11_send 71 = .ok (.getfield 104, 3) := by decide +kernel
theorem dX11_send_74 : decode cX11_send 74 = .ok (.iload_n 2, 1) := by decide +kernel
theorem dX11_send_75 : decode cX11_send 75 = .ok (.iaload, 1) := by decide +kernel
theorem dX11_send_76 : decode cX11_send 76 = .ok (.ifCond .ne 14, 3) := by decide +kernel
theorem dX11_send_79 : decode cX11_send 79 = .ok (.aload_n 0, 1) := by decide +kernel
theorem dX11_send_80 : decode cX11_send 80 = .ok (.getfield 98, 3) := by decide +kernel
theorem dX11_send_83 : decode cX11_send 83 = .ok (.iload_n 2, 1) := by decide +kernel
theorem dX11_send_84 : decode cX11_send 84 = .ok (.iload 5, 2) := by decide +kernel
theorem dX11_send_86 : decode cX11_send 86 = .ok (.iastore, 1) := by decide +kernel
theorem dX11_send_87 : decode cX11_send 87 = .ok (.goto 16, 3) := by decide +kernel
theorem dX11_send_90 : decode cX11_send 90 = .ok (.aload_n 0, 1) := by decide +kernel
theorem dX11_send_91 : decode cX11_send 91 = .ok (.getfield 122, 3) := by decide +kernel
theorem dX11_send_94 : decode cX11_send 94 = .ok (.aload_n 0, 1) := by decide +kernel
theorem dX11_send_95 : decode cX11_send 95 = .ok (.getfield 101, 3) := by decide +kernel
theorem dX11_send_98 : decode cX11_send 98 = .ok (.iload_n 2, 1) := by decide +kernel
theorem dX11_send_99 : decode cX11_send 99 = .ok (.iaload, 1) := by decide +kernel
theorem dX11_send_100 : decode cX11_send 100 = .ok (.iload 5, 2) := by decide +kernel
theorem dX11_send_102 : decode cX11_send 102 = .ok (.iastore, 1) := by decide +kernel
theorem dX11_send_103 : decode cX11_send 103 = .ok (.aload_n 0, 1) := by decide +kernel
theorem dX11_send_104 : decode cX11_send 104 = .ok (.getfield 101, 3) := by decide +kernel
theorem dX11_send_107 : decode cX11_send 107 = .ok (.iload_n 2, 1) := by decide +kernel
theorem dX11_send_108 : decode cX11_send 108 = .ok (.iload 5, 2) := by decide +kernel
theorem dX11_send_110 : decode cX11_send 110 = .ok (.iastore, 1) := by decide +kernel
theorem dX11_send_111 : decode cX11_send 111 = .ok (.aload_n 0, 1) := by decide +kernel
theorem dX11_send_112 : decode cX11_send 112 = .ok (.getfield 104, 3) := by decide +kernel
theorem dX11_send_115 : decode cX11_send 115 = .ok (.iload_n 2, 1) := by decide +kernel
theorem dX11_send_116 : decode cX11_send 116 = .ok (.dup2, 1) := by decide +kernel
theorem dX11_send_117 : decode cX11_send 117 = .ok (.iaload, 1) := by decide +kernel
theorem dX11_send_118 : decode cX11_send 118 = .ok (.iconst 1, 1) := by decide +kernel
theorem dX11_send_119 : decode cX11_send 119 = .ok (.iadd, 1) := by decide +kernel
theorem dX11_send_120 : decode cX11_send 120 = .ok (.iastore, 1) := by decide +kernel
theorem dX11_send_121 : decode cX11_send 121 = .ok (.return_, 1) := by decide +kernel
theorem dX11_note_0 : decode cX11_note 0 = .ok (.aload_n 0, 1) := by decide +kernel
theorem dX11_note_1 : decode cX11_note 1 = .ok (.getfield 44, 3) := by decide +kernel
theorem dX11_note_4 : decode cX11_note 4 = .ok (.aload_n 0, 1) := by decide +kernel
theorem dX11_note_5 : decode cX11_note 5 = .ok (.getfield 231, 3) := by decide +kernel
theorem dX11_note_8 : decode cX11_note 8 = .ok (.iload_n 1, 1) := by decide +kernel
theorem dX11_note_9 : decode cX11_note 9 = .ok (.iastore, 1) := by decide +kernel
theorem dX11_note_10 : decode cX11_note 10 = .ok (.aload_n 0, 1) := by decide +kernel
theorem dX11_note_11 : decode cX11_note 11 = .ok (.getfield 47, 3) := by decide +kernel
theorem dX11_note_14 : decode cX11_note 14 = .ok (.aload_n 0, 1) := by decide +kernel
theorem dX11_note_15 : decode cX11_note 15 = .ok (.getfield 231, 3) := by decide +kernel
theorem dX11_note_18 : decode cX11_note 18 = .ok (.iload_n 2, 1) := by decide +kernel
theorem dX11_note_19 : decode cX11_note 19 = .ok (.bastore, 1) := by decide +kernel
theorem dX11_note_20 : decode cX11_note 20 = .ok (.aload_n 0, 1) := by decide +kernel
theorem dX11_note_21 : decode cX11_note 21 = .ok (.getfield 50, 3) := by decide +kernel
theorem dX11_note_24 : decode cX11_note 24 = .ok (.aload_n 0, 1) := by decide +kernel
theorem dX11_note_25 : decode cX11_note 25 = .ok (.getfield 231, 3) := by decide +kernel
theorem dX11_note_28 : decode cX11_note 28 = .ok (.aload_n 0, 1) := by decide +kernel
theorem dX11_note_29 : decode cX11_note 29 = .ok (.getfield 135, 3) := by decide +kernel
theorem dX11_note_32 : decode cX11_note 32 = .ok (.iconst 0, 1) := by decide +kernel
theorem dX11_note_33 : decode cX11_note 33 = .ok (.iaload, 1) := by decide +kernel
theorem dX11_note_34 : decode cX11_note 34 = .ok (.iastore, 1) := by decide +kernel
theorem dX11_note_35 : decode cX11_note 35 = .ok (.aload_n 0, 1) := by decide +kernel
theorem dX11_note_36 : decode cX11_note 36 = .ok (.getfield 53, 3) := by decide +kernel
theorem dX11_note_39 : decode cX11_note 39 = .ok (.aload_n 0, 1) := by decide +kernel
theorem dX11_note_40 : decode cX11_note 40 = .ok (.getfield 231, 3) := by decide +kernel
theorem dX11_note_43 : decode cX11_note 43 = .ok (.iload_n 3, 1) := by decide +kernel
theorem dX11_note_44 : decode cX11_note 44 = .ok (.iastore, 1) := by decide +kernel
theorem dX11_note_45 : decode cX11_note 45 = .ok (.aload_n 0, 1) := by decide +kernel
theorem dX11_note_46 : decode cX11_note 46 = .ok (.dup, 1) := by decide +kernel
theorem dX11_note_47 : decode cX11_note 47 = .ok (.getfield 231, 3) := by decide +kernel
theorem dX11_note_50 : decode cX11_note 50 = .ok (.iconst 1, 1) := by decide +kernel
theorem dX11_note_51 : decode cX11_note 51 = .ok (.iadd, 1) := by decide +kernel
theorem dX11_note_52 : decode cX11_note 52 = .ok (.putfield 231, 3) := by decide +kernel
theorem dX11_note_55 : decode cX11_note 55 = .ok (.return_, 1) := by decide +kernel
theorem dX11_give_0 : decode cX11_give 0 = .ok (.bipush 6, 2) := by decide +kernel
theorem dX11_give_2 : decode cX11_give 2 = .ok (.iload_n 1, 1) := by decide +kernel
theorem dX11_give_3 : decode cX11_give 3 = .ok (.imul, 1) := by decide +kernel
theorem dX11_give_4 : decode cX11_give 4 = .ok (.iload_n 2, 1) := by decide +kernel
theorem dX11_give_5 : decode cX11_give 5 = .ok (.iadd, 1) := by decide +kernel
theorem dX11_give_6 : decode cX11_give 6 = .ok (.istore 4, 2) := by decide +kernel
theorem dX11_give_8 : decode cX11_give 8 = .ok (.aload_n 0, 1) := by decide +kernel
theorem dX11_give_9 : decode cX11_give 9 = .ok (.getfield 68, 3) := by decide +kernel
theorem dX11_give_12 : decode cX11_give 12 = .ok (.bipush 8, 2) := by decide +kernel
theorem dX11_give_14 : decode cX11_give 14 = .ok (.iload 4, 2) := by decide +kernel
theorem dX11_give_16 : decode cX11_give 16 = .ok (.imul, 1) := by decide +kernel
theorem dX11_give_17 : decode cX11_give 17 = .ok (.aload_n 0, 1) := by decide +kernel
theorem dX11_give_18 : decode cX11_give 18 = .ok (.getfield 71, 3) := by decide +kernel
theorem dX11_give_21 : decode cX11_give 21 = .ok (.iload 4, 2) := by decide +kernel
theorem dX11_give_23 : decode cX11_give 23 = .ok (.iaload, 1) := by decide +kernel
theorem dX11_give_24 : decode cX11_give 24 = .ok (.iadd, 1) := by decide +kernel
theorem dX11_give_25 : decode cX11_give 25 = .ok (.iload_n 3, 1) := by decide +kernel
theorem dX11_give_26 : decode cX11_give 26 = .ok (.iastore, 1) := by decide +kernel
theorem dX11_give_27 : decode cX11_give 27 = .ok (.aload_n 0, 1) := by decide +kernel
theorem dX11_give_28 : decode cX11_give 28 = .ok (.getfield 71, 3) := by decide +kernel
theorem dX11_give_31 : decode cX11_give 31 = .ok (.iload 4, 2) := by decide +kernel
theorem dX11_give_33 : decode cX11_give 33 = .ok (.dup2, 1) := by decide +kernel
theorem dX11_give_34 : decode cX11_give 34 = .ok (.iaload, 1) := by decide +kernel
theorem dX11_give_35 : decode cX11_give 35 = .ok (.iconst 1, 1) := by decide +kernel
theorem dX11_give_36 : decode cX11_give 36 = .ok (.iadd, 1) := by decide +kernel
theorem dX11_give_37 : decode cX11_give 37 = .ok (.iastore, 1) := by decide +kernel
theorem dX11_give_38 : decode cX11_give 38 = .ok (.return_, 1) := by decide +kernel
theorem dX11_input_0 : decode cX11_input 0 = .ok (.aload_n 0, 1) := by decide +kernel
theorem dX11_input_1 : decode cX11_input 1 = .ok (.getfield 180, 3) := by decide +kernel
theorem dX11_input_4 : decode cX11_input 4 = .ok (.ifCond .eq 32, 3) := by decide +kernel
theorem dX11_input_7 : decode cX11_input 7 = .ok (.aload_n 0, 1) := by decide +kernel
theorem dX11_input_8 : decode cX11_input 8 = .ok (.iload_n 1, 1) := by decide +kernel
theorem dX11_input_9 : decode cX11_input 9 = .ok (.invokevirtual 176, 3) := by decide +kernel
theorem dX11_input_12 : decode cX11_input 12 = .ok (.ifCond .eq 24, 3) := by decide +kernel
theorem dX11_input_15 : decode cX11_input 15 = .ok (.aload_n 0, 1) := by decide +kernel
theorem dX11_input_16 : decode cX11_input 16 = .ok (.getfield 71, 3) := by decide +kernel
theorem dX11_input_19 : decode cX11_input 19 = .ok (.iload_n 1, 1) := by decide +kernel
theorem dX11_input_20 : decode cX11_input 20 = .ok (.iaload, 1) := by decide +kernel
theorem dX11_input_21 : decode cX11_input 21 = .ok (.bipush 8, 2) := by decide +kernel
theorem dX11_input_23 : decode cX11_input 23 = .ok (.if_icmp .eq 13, 3) := by decide +kernel
theorem dX11_input_26 : decode cX11_input 26 = .ok (.aload_n 0, 1) := by decide +kernel
theorem dX11_input_27 : decode cX11_input 27 = .ok (.getfield 231, 3) := by decide +kernel
theorem dX11_input_30 : decode cX11_input 30 = .ok (.sipush 3000, 3) := by decide +kernel
theorem dX11_input_33 : decode cX11_input 33 = .ok (.if_icmp .ne 5, 3) := by decide +kernel
theorem dX11_input_36 : decode cX11_input 36 = .ok (.iconst (-1), 1) := by decide +kernel
theorem dX11_input_37 : decode cX11_input 37 = .ok (.ireturn, 1) := by decide +kernel
theorem dX11_input_38 : decode cX11_input 38 = .ok (.aload_n 0, 1) := by decide +kernel
theorem dX11_input_39 : decode cX11_input 39 = .ok (.iload_n 1, 1) := by decide +kernel
theorem dX11_input_40 : decode cX11_input 40 = .ok (.iconst 1, 1) := by decide +kernel
theorem dX11_input_41 : decode cX11_input 41 = .ok (.iload_n 2, 1) := by decide +kernel
theorem dX11_input_42 : decode cX11_input 42 = .ok (.invokevirtual 234, 3) := by decide +kernel
theorem dX11_input_45 : decode cX11_input 45 = .ok (.aload_n 0, 1) := by decide +kernel
theorem dX11_input_46 : decode cX11_input 46 = .ok (.iconst 0, 1) := by decide +kernel
theorem dX11_input_47 : decode cX11_input 47 = .ok (.iload_n 1, 1) := by decide +kernel
theorem dX11_input_48 : decode cX11_input 48 = .ok (.iload_n 2, 1) := by decide +kernel
theorem dX11_input_49 : decode cX11_input 49 = .ok (.invokevirtual 238, 3) := by decide +kernel
theorem dX11_input_52 : decode cX11_input 52 = .ok (.aload_n 0, 1) := by decide +kernel
theorem dX11_input_53 : decode cX11_input 53 = .ok (.getfield 71, 3) := by decide +kernel
theorem dX11_input_56 : decode cX11_input 56 = .ok (.iload_n 1, 1) := by decide +kernel
theorem dX11_input_57 : decode cX11_input 57 = .ok (.iaload, 1) := by decide +kernel
theorem dX11_input_58 : decode cX11_input 58 = .ok (.ireturn, 1) := by decide +kernel
theorem dX11_tick_0 : decode cX11_tick 0 = .ok (.aload_n 0, 1) := by decide +kernel
theorem dX11_tick_1 : decode cX11_tick 1 = .ok (.getfield 180, 3) := by decide +kernel
theorem dX11_tick_4 : decode cX11_tick 4 = .ok (.ifCond .eq 15, 3) := by decide +kernel
theorem dX11_tick_7 : decode cX11_tick 7 = .ok (.iload_n 1, 1) := by decide +kernel
theorem dX11_tick_8 : decode cX11_tick 8 = .ok (.iconst 1, 1) := by decide +kernel
theorem dX11_tick_9 : decode cX11_tick 9 = .ok (.if_icmp .lt 10, 3) := by decide +kernel
theorem dX11_tick_12 : decode cX11_tick 12 = .ok (.iload_n 1, 1) := by decide +kernel
theorem dX11_tick_13 : decode cX11_tick 13 = .ok (.sipush 200, 3) := by decide +kernel
theorem dX11_tick_16 : decode cX11_tick 16 = .ok (.if_icmp .le 5, 3) := by decide +kernel
theorem dX11_tick_19 : decode cX11_tick 19 = .ok (.iconst (-1), 1) := by decide +kernel
theorem dX11_tick_20 : decode cX11_tick 20 = .ok (.ireturn, 1) := by decide +kernel
theorem dX11_tick_21 : decode cX11_tick 21 = .ok (.iconst 0, 1) := by decide +kernel
theorem dX11_tick_22 : decode cX11_tick 22 = .ok (.istore_n 2, 1) := by decide +kernel
theorem dX11_tick_23 : decode cX11_tick 23 = .ok (.iconst 0, 1) := by decide +kernel
theorem dX11_tick_24 : decode cX11_tick 24 = .ok (.istore_n 3, 1) := by decide +kernel
theorem dX11_tick_25 : decode cX11_tick 25 = .ok (.iload_n 3, 1) := by decide +kernel
theorem dX11_tick_26 : decode cX11_tick 26 = .ok (.iload_n 1, 1) := by decide +kernel
theorem dX11_tick_27 : decode cX11_tick 27 = .ok (.if_icmp .ge 69, 3) := by decide +kernel
theorem dX11_tick_30 : decode cX11_tick 30 = .ok (.aload_n 0, 1) := by decide +kernel
theorem dX11_tick_31 : decode cX11_tick 31 = .ok (.iconst 0, 1) := by decide +kernel
theorem dX11_tick_32 : decode cX11_tick 32 = .ok (.invokevirtual 242, 3) := by decide +kernel
theorem dX11_tick_35 : decode cX11_tick 35 = .ok (.istore 4, 2) := by decide +kernel
theorem dX11_tick_37 : decode cX11_tick 37 = .ok (.iload 4, 2) := by decide +kernel
theorem dX11_tick_39 : decode cX11_tick 39 = .ok (.ifCond .eq 15, 3) := by decide +kernel
theorem dX11_tick_42 : decode cX11_tick 42 = .ok (.aload_n 0, 1) := by decide +kernel
theorem dX11_tick_43 : decode cX11_tick 43 = .ok (.getfield 231, 3) := by decide +kernel
theorem dX11_tick_46 : decode cX11_tick 46 = .ok (.sipush 3000, 3) := by decide +kernel
theorem dX11_tick_49 : decode cX11_tick 49 = .ok (.if_icmp .ne 5, 3) := by decide +kernel
theorem dX11_tick_52 : decode cX11_tick 52 = .ok (.iload_n 2, 1) := by decide +kernel
theorem dX11_tick_53 : decode cX11_tick 53 = .ok (.ireturn, 1) := by decide +kernel
theorem dX11_tick_54 : decode cX11_tick 54 = .ok (.iload 4, 2) := by decide +kernel
theorem dX11_tick_56 : decode cX11_tick 56 = .ok (.ifCond .eq 27, 3) := by decide +kernel
theorem dX11_tick_59 : decode cX11_tick 59 = .ok (.aload_n 0, 1) := by decide +kernel
theorem dX11_tick_60 : decode cX11_tick 60 = .ok (.iconst 0, 1) := by decide +kernel
theorem dX11_tick_61 : decode cX11_tick 61 = .ok (.invokevirtual 191, 3) := by decide +kernel
theorem dX11_tick_64 : decode cX11_tick 64 = .ok (.istore 5, 2) := by decide +kernel
theorem dX11_tick_66 : decode cX11_tick 66 = .ok (.aload_n 0, 1) := by decide +kernel
theorem dX11_tick_67 : decode cX11_tick 67 = .ok (.iload 5, 2) := by decide +kernel
theorem dX11_tick_69 : decode cX11_tick 69 = .ok (.iconst 0, 1) := by decide +kernel
theorem dX11_tick_70 : decode cX11_tick 70 = .ok (.aload_n 0, 1) := by decide +kernel
theorem dX11_tick_71 : decode cX11_tick 71 = .ok (.iconst 0, 1) := by decide +kernel
theorem dX11_tick_72 : decode cX11_tick 72 = .ok (.iload 5, 2) := by decide +kernel
theorem dX11_tick_74 : decode cX11_tick 74 = .ok (.invokevirtual 245, 3) := by decide +kernel
theorem dX11_tick_77 : decode cX11_tick 77 = .ok (.invokevirtual 234, 3) := by decide +kernel
theorem dX11_tick_80 : decode cX11_tick 80 = .ok (.iinc 2 1, 3) := by decide +kernel
theorem dX11_tick_83 : decode cX11_tick 83 = .ok (.aload_n 0, 1) := by decide +kernel
theorem dX11_tick_84 : decode cX11_tick 84 = .ok (.iconst 0, 1) := by decide +kernel
theorem dX11_tick_85 : decode cX11_tick 85 = .ok (.iload 4, 2) := by decide +kernel
theorem dX11_tick_87 : decode cX11_tick 87 = .ok (.invokevirtual 248, 3) := by decide +kernel
theorem dX11_tick_90 : decode cX11_tick 90 = .ok (.iinc 3 1, 3) := by decide +kernel
theorem dX11_tick_93 : decode cX11_tick 93 = .ok (.goto (-68), 3) := by decide +kernel
theorem dX11_tick_96 : decode cX11_tick 96 = .ok (.iload_n 2, 1) := by decide +kernel
theorem dX11_tick_97 : decode cX11_tick 97 = .ok (.ireturn, 1) := by decide +kernel
theorem dX11_choose_0 : decode cX11_choose 0 = .ok (.aload_n 0, 1) := by decide +kernel
theorem dX11_choose_1 : decode cX11_choose 1 = .ok (.getfield 162, 3) := by decide +kernel
theorem dX11_choose_4 : decode cX11_choose 4 = .ok (.astore_n 3, 1) := by decide +kernel
theorem dX11_choose_5 : decode cX11_choose 5 = .ok (.iconst 0, 1) := by decide +kernel
theorem dX11_choose_6 : decode cX11_choose 6 = .ok (.istore 4, 2) := by decide +kernel
theorem dX11_choose_8 : decode cX11_choose 8 = .ok (.iload 4, 2) := by decide +kernel
theorem dX11_choose_10 : decode cX11_choose 10 = .ok (.bipush 6, 2) := by decide +kernel
theorem dX11_choose_12 : decode cX11_choose 12 = .ok (.if_icmp .ge 24, 3) := by decide +kernel
theorem dX11_choose_15 : decode cX11_choose 15 = .ok (.aload_n 3, 1) := by decide +kernel
theorem dX11_choose_16 : decode cX11_choose 16 = .ok (.iload 4, 2) := by decide +kernel
theorem dX11_choose_18 : decode cX11_choose 18 = .ok (.iload 4, 2) := by decide +kernel
theorem dX11_choose_20 : decode cX11_choose 20 = .ok (.iload_n 1, 1) := by decide +kernel
theorem dX11_choose_21 : decode cX11_choose 21 = .ok (.if_icmp .ne 7, 3) := by decide +kernel
theorem dX11_choose_24 : decode cX11_choose 24 = .ok (.iconst 1, 1) := by decide +kernel
theorem dX11_choose_25 : decode cX11_choose 25 = .ok (.goto 4, 3) := by decide +kernel
theorem dX11_choose_28 : decode cX11_choose 28 = .ok (.iconst 0, 1) := by decide +kernel
theorem dX11_choose_29 : decode cX11_choose 29 = .ok (.bastore, 1) := by decide +kernel
theorem dX11_choose_30 : decode cX11_choose 30 = .ok (.iinc 4 1, 3) := by decide +kernel
theorem dX11_choose_33 : decode cX11_choose 33 = .ok (.goto (-25), 3) := by decide +kernel
theorem dX11_choose_36 : decode cX11_choose 36 = .ok (.iconst 0, 1) := by decide +kernel
theorem dX11_choose_37 : decode cX11_choose 37 = .ok (.istore 4, 2) := by decide +kernel
theorem dX11_choose_39 : decode cX11_choose 39 = .ok (.aload_n 0, 1) := by decide +kernel
theorem dX11_choose_40 : decode cX11_choose 40 = .ok (.getfield 231, 3) := by decide +kernel
theorem dX11_choose_43 : decode cX11_choose 43 = .ok (.iconst 1, 1) := by decide +kernel
theorem dX11_choose_44 : decode cX11_choose 44 = .ok (.isub, 1) := by decide +kernel
theorem dX11_choose_45 : decode cX11_choose 45 = .ok (.istore 5, 2) := by decide +kernel
theorem dX11_choose_47 : decode cX11_choose 47 = .ok (.iload 5, 2) := by decide +kernel
theorem dX11_choose_49 : decode cX11_choose 49 = .ok (.ifCond .lt 88, 3) := by decide +kernel
theorem dX11_choose_52 : decode cX11_choose 52 = .ok (.aload_n 0, 1) := by decide +kernel
theorem dX11_choose_53 : decode cX11_choose 53 = .ok (.getfield 44, 3) := by decide +kernel
theorem dX11_choose_56 : decode cX11_choose 56 = .ok (.iload 5, 2) := by decide +kernel
theorem dX11_choose_58 : decode cX11_choose 58 = .ok (.iaload, 1) := by decide +kernel
theorem dX11_choose_59 : decode cX11_choose 59 = .ok (.istore 6, 2) := by decide +kernel
theorem dX11_choose_61 : decode cX11_choose 61 = .ok (.iconst 0, 1) := by decide +kernel
theorem dX11_choose_62 : decode cX11_choose 62 = .ok (.istore 7, 2) := by decide +kernel
theorem dX11_choose_64 : decode cX11_choose 64 = .ok (.iconst 0, 1) := by decide +kernel
theorem dX11_choose_65 : decode cX11_choose 65 = .ok (.istore 8, 2) := by decide +kernel
theorem dX11_choose_67 : decode cX11_choose 67 = .ok (.iload 8, 2) := by decide +kernel
theorem dX11_choose_69 : decode cX11_choose 69 = .ok (.aload_n 0, 1) := by decide +kernel
theorem dX11_choose_70 : decode cX11_choose 70 = .ok (.getfield 165, 3) := by decide +kernel
theorem dX11_choose_73 : decode cX11_choose 73 = .ok (.if_icmp .ge 39, 3) := by decide +kernel
theorem dX11_choose_76 : decode cX11_choose 76 = .ok (.iload 7, 2) := by decide +kernel
theorem dX11_choose_78 : decode cX11_choose 78 = .ok (.ifCond .ne 21, 3) := by decide +kernel
theorem dX11_choose_81 : decode cX11_choose 81 = .ok (.aload_n 3, 1) := by decide +kernel
theorem dX11_choose_82 : decode cX11_choose 82 = .ok (.iload 8, 2) := by decide +kernel
theorem dX11_choose_84 : decode cX11_choose 84 = .ok (.baload, 1) := by decide +kernel
theorem dX11_choose_85 : decode cX11_choose 85 = .ok (.ifCond .eq 18, 3) := by decide +kernel
theorem dX11_choose_88 : decode cX11_choose 88 = .ok (.aload_n 0, 1) := by decide +kernel
theorem dX11_choose_89 : decode cX11_choose 89 = .ok (.iload 6, 2) := by decide +kernel
theorem dX11_choose_91 : decode cX11_choose 91 = .ok (.iload 8, 2) := by decide +kernel
theorem dX11_choose_93 : decode cX11_choose 93 = .ok (.invokevirtual 172, 3) := by decide +kernel
theorem dX11_choose_96 : decode cX11_choose 96 = .ok (.ifCond .eq 7, 3) := by decide +kernel
theorem dX11_choose_99 : decode cX11_choose 99 = .ok (.iconst 1, 1) := by decide +kernel
theorem dX11_choose_100 : decode cX11_choose 100 = .ok (.goto 4, 3) := by decide +kernel
theorem dX11_choose_103 : decode cX11_choose 103 = .ok (.iconst 0, 1) := by decide +kernel
theorem dX11_choose_104 : decode cX11_choose 104 = .ok (.istore 7, 2) := by decide +kernel
theorem dX11_choose_106 : decode cX11_choose 106 = .ok (.iinc 8 1, 3) := by decide +kernel
theorem dX11_choose_109 : decode cX11_choose 109 = .ok (.goto (-42), 3) := by decide +kernel
theorem dX11_choose_112 : decode cX11_choose 112 = .ok (.aload_n 2, 1) := by decide +kernel
theorem dX11_choose_113 : decode cX11_choose 113 = .ok (.iload 5, 2) := by decide +kernel
theorem dX11_choose_115 : decode cX11_choose 115 = .ok (.iload 7, 2) := by decide +kernel
theorem dX11_choose_117 : decode cX11_choose 117 = .ok (.bastore, 1) := by decide +kernel
theorem dX11_choose_118 : decode cX11_choose 118 = .ok (.iload 7, 2) := by decide +kernel
theorem dX11_choose_120 : decode cX11_choose 120 = .ok (.ifCond .eq 11, 3) := by decide +kernel
theorem dX11_choose_123 : decode cX11_choose 123 = .ok (.aload_n 3, 1) := by decide +kernel
theorem dX11_choose_124 : decode cX11_choose 124 = .ok (.iload 6, 2) := by decide +kernel
theorem dX11_choose_126 : decode cX11_choose 126 = .ok (.iconst 1, 1) := by decide +kernel
theorem dX11_choose_127 : decode cX11_choose 127 = .ok (.bastore, 1) := by decide +kernel
theorem dX11_choose_128 : decode cX11_choose 128 = .ok (.iinc 4 1, 3) := by decide +kernel
theorem dX11_choose_131 : decode cX11_choose 131 = .ok (.iinc 5 (-1), 3) := by decide +kernel
theorem dX11_choose_134 : decode cX11_choose 134 = .ok (.goto (-87), 3) := by decide +kernel
theorem dX11_choose_137 : decode cX11_choose 137 = .ok (.iload 4, 2) := by decide +kernel
theorem dX11_choose_139 : decode cX11_choose 139 = .ok (.ireturn, 1) := by decide +kernel
theorem dX11_again_0 : decode cX11_again 0 = .ok (.aload_n 0, 1) := by decide +kernel
theorem dX11_again_1 : decode cX11_again 1 = .ok (.iload_n 1, 1) := by decide +kernel
theorem dX11_again_2 : decode cX11_again 2 = .ok (.invokevirtual 187, 3) := by decide +kernel
theorem dX11_again_5 : decode cX11_again 5 = .ok (.iconst 0, 1) := by decide +kernel
theorem dX11_again_6 : decode cX11_again 6 = .ok (.istore_n 3, 1) := by decide +kernel
theorem dX11_again_7 : decode cX11_again 7 = .ok (.aload_n 0, 1) := by decide +kernel
theorem dX11_again_8 : decode cX11_again 8 = .ok (.getfield 135, 3) := by decide +kernel
theorem dX11_again_11 : decode cX11_again 11 = .ok (.iload_n 1, 1) := by decide +kernel
theorem dX11_again_12 : decode cX11_again 12 = .ok (.iaload, 1) := by decide +kernel
theorem dX11_again_13 : decode cX11_again 13 = .ok (.aload_n 0, 1) := by decide +kernel
theorem dX11_again_14 : decode cX11_again 14 = .ok (.getfield 135, 3) := by decide +kernel
theorem dX11_again_17 : decode cX11_again 17 = .ok (.iconst 0, 1) := by decide +kernel
theorem dX11_again_18 : decode cX11_again 18 = .ok (.iaload, 1) := by decide +kernel
theorem dX11_again_19 : decode cX11_again 19 = .ok (.if_icmp .ge 144, 3) := by decide +kernel
theorem dX11_again_22 : decode cX11_again 22 = .ok (.iload_n 3, 1) := by decide +kernel
theorem dX11_again_23 : decode cX11_again 23 = .ok (.aload_n 0, 1) := by decide +kernel
theorem dX11_again_24 : decode cX11_again 24 = .ok (.getfield 231, 3) := by decide +kernel
theorem dX11_again_27 : decode cX11_again 27 = .ok (.if_icmp .ge 56, 3) := by decide +kernel
theorem dX11_again_30 : decode cX11_again 30 = .ok (.aload_n 0, 1) := by decide +kernel
theorem dX11_again_31 : decode cX11_again 31 = .ok (.getfield 47, 3) := by decide +kernel
theorem dX11_again_34 : decode cX11_again 34 = .ok (.iload_n 3, 1) := by decide +kernel
theorem dX11_again_35 : decode cX11_again 35 = .ok (.baload, 1) := by decide +kernel
theorem dX11_again_36 : decode cX11_again 36 = .ok (.ifCond .eq 47, 3) := by decide +kernel
theorem dX11_again_39 : decode cX11_again 39 = .ok (.aload_n 0, 1) := by decide +kernel
theorem dX11_again_40 : decode cX11_again 40 = .ok (.getfield 50, 3) := by decide +kernel
theorem dX11_again_43 : decode cX11_again 43 = .ok (.iload_n 3, 1) := by decide +kernel
theorem dX11_again_44 : decode cX11_again 44 = .ok (.iaload, 1) := by decide +kernel
theorem dX11_again_45 : decode cX11_again 45 = .ok (.aload_n 0, 1) := by decide +kernel
theorem dX11_again_46 : decode cX11_again 46 = .ok (.getfield 135, 3) := by decide +kernel
theorem dX11_again_49 : decode cX11_again 49 = .ok (.iload_n 1, 1) := by decide +kernel
theorem dX11_again_50 : decode cX11_again 50 = .ok (.iaload, 1) := by decide +kernel
theorem dX11_again_51 : decode cX11_again 51 = .ok (.if_icmp .ne 32, 3) := by decide +kernel
theorem dX11_again_54 : decode cX11_again 54 = .ok (.aload_n 2, 1) := by decide +kernel
theorem dX11_again_55 : decode cX11_again 55 = .ok (.iload_n 3, 1) := by decide +kernel
theorem dX11_again_56 : decode cX11_again 56 = .ok (.baload, 1) := by decide +kernel
theorem dX11_again_57 : decode cX11_again 57 = .ok (.ifCond .eq 20, 3) := by decide +kernel
theorem dX11_again_60 : decode cX11_again 60 = .ok (.aload_n 0, 1) := by decide +kernel
theorem dX11_again_61 : decode cX11_again 61 = .ok (.iload_n 1, 1) := by decide +kernel
theorem dX11_again_62 : decode cX11_again 62 = .ok (.aload_n 0, 1) := by decide +kernel
theorem dX11_again_63 : decode cX11_again 63 = .ok (.getfield 44, 3) := by decide +kernel
theorem dX11_again_66 : decode cX11_again 66 = .ok (.iload_n 3, 1) := by decide +kernel
theorem dX11_again_67 : decode cX11_again 67 = .ok (.iaload, 1) := by decide +kernel
theorem dX11_again_68 : decode cX11_again 68 = .ok (.aload_n 0, 1) := by decide +kernel
theorem dX11_again_69 : decode cX11_again 69 = .ok (.getfield 53, 3) := by decide +kernel
theorem dX11_again_72 : decode cX11_again 72 = .ok (.iload_n 3, 1) := by decide +kernel
theorem dX11_again_73 : decode cX11_again 73 = .ok (.iaload, 1) := by decide +kernel
theorem dX11_again_74 : decode cX11_again 74 = .ok (.invokevirtual 238, 3) := by decide +kernel
theorem dX11_again_77 : decode cX11_again 77 = .ok (.iinc 3 1, 3) := by decide +kernel
theorem dX11_again_80 : decode cX11_again 80 = .ok (.goto (-58), 3) := by decide +kernel
theorem dX11_again_83 : decode cX11_again 83 = .ok (.iload_n 3, 1) := by decide +kernel
theorem dX11_again_84 : decode cX11_again 84 = .ok (.aload_n 0, 1) := by decide +kernel
theorem dX11_again_85 : decode cX11_again 85 = .ok (.getfield 231, 3) := by decide +kernel
theorem dX11_again_88 : decode cX11_again 88 = .ok (.if_icmp .ge 31, 3) := by decide +kernel
theorem dX11_again_91 : decode cX11_again 91 = .ok (.aload_n 0, 1) := by decide +kernel
theorem dX11_again_92 : decode cX11_again 92 = .ok (.getfield 47, 3) := by decide +kernel
theorem dX11_again_95 : decode cX11_again 95 = .ok (.iload_n 3, 1) := by decide +kernel
theorem dX11_again_96 : decode cX11_again 96 = .ok (.baload, 1) := by decide +kernel
theorem dX11_again_97 : decode cX11_again 97 = .ok (.ifCond .ne 22, 3) := by decide +kernel
theorem dX11_again_100 : decode cX11_again 100 = .ok (.aload_n 0, 1) := by decide +kernel
theorem dX11_again_101 : decode cX11_again 101 = .ok (.getfield 50, 3) := by decide +kernel
theorem dX11_again_104 : decode cX11_again 104 = .ok (.iload_n 3, 1) := by decide +kernel
theorem dX11_again_105 : decode cX11_again 105 = .ok (.iaload, 1) := by decide +kernel
theorem dX11_again_106 : decode cX11_again 106 = .ok (.aload_n 0, 1) := by decide +kernel
theorem dX11_again_107 : decode cX11_again 107 = .ok (.getfield 135, 3) := by decide +kernel
theorem dX11_again_110 : decode cX11_again 110 = .ok (.iload_n 1, 1) := by decide +kernel
theorem dX11_again_111 : decode cX11_again 111 = .ok (.iaload, 1) := by decide +kernel
theorem dX11_again_112 : decode cX11_again 112 = .ok (.if_icmp .ne 7, 3) := by decide +kernel
theorem dX11_again_115 : decode cX11_again 115 = .ok (.iconst 1, 1) := by decide +kernel
theorem dX11_again_116 : decode cX11_again 116 = .ok (.goto 4, 3) := by decide +kernel
theorem dX11_again_119 : decode cX11_again 119 = .ok (.iconst 0, 1) := by decide +kernel
theorem dX11_again_120 : decode cX11_again 120 = .ok (.istore 4, 2) := by decide +kernel
theorem dX11_again_122 : decode cX11_again 122 = .ok (.iload 4, 2) := by decide +kernel
theorem dX11_again_124 : decode cX11_again 124 = .ok (.ifCond .eq 13, 3) := by decide +kernel
theorem dX11_again_127 : decode cX11_again 127 = .ok (.aload_n 2, 1) := by decide +kernel
theorem dX11_again_128 : decode cX11_again 128 = .ok (.iload_n 3, 1) := by decide +kernel
theorem dX11_again_129 : decode cX11_again 129 = .ok (.baload, 1) := by decide +kernel
theorem dX11_again_130 : decode cX11_again 130 = .ok (.ifCond .eq 7, 3) := by decide +kernel
theorem dX11_again_133 : decode cX11_again 133 = .ok (.iconst 1, 1) := by decide +kernel
theorem dX11_again_134 : decode cX11_again 134 = .ok (.goto 4, 3) := by decide +kernel
theorem dX11_again_137 : decode cX11_again 137 = .ok (.iconst 0, 1) := by decide +kernel
theorem dX11_again_138 : decode cX11_again 138 = .ok (.istore 5, 2) := by decide +kernel
theorem dX11_again_140 : decode cX11_again 140 = .ok (.iload_n 3, 1) := by decide +kernel
theorem dX11_again_141 : decode cX11_again 141 = .ok (.iload 4, 2) := by decide +kernel
theorem dX11_again_143 : decode cX11_again 143 = .ok (.ifCond .eq 7, 3) := by decide +kernel
theorem dX11_again_146 : decode cX11_again 146 = .ok (.iconst 1, 1) := by decide +kernel
theorem dX11_again_147 : decode cX11_again 147 = .ok (.goto 4, 3) := by decide +kernel
theorem dX11_again_150 : decode cX11_again 150 = .ok (.iconst 0, 1) := by decide +kernel
theorem dX11_again_151 : decode cX11_again 151 = .ok (.iadd, 1) := by decide +kernel
theorem dX11_again_152 : decode cX11_again 152 = .ok (.istore_n 3, 1) := by decide +kernel
theorem dX11_again_153 : decode cX11_again 153 = .ok (.aload_n 0, 1) := by decide +kernel
theorem dX11_again_154 : decode cX11_again 154 = .ok (.iload_n 1, 1) := by decide +kernel
theorem dX11_again_155 : decode cX11_again 155 = .ok (.iload 5, 2) := by decide +kernel
theorem dX11_again_157 : decode cX11_again 157 = .ok (.invokevirtual 248, 3) := by decide +kernel
theorem dX11_again_160 : decode cX11_again 160 = .ok (.goto (-153), 3) := by decide +kernel
theorem dX11_again_163 : decode cX11_again 163 = .ok (.iload_n 3, 1) := by decide +kernel
theorem dX11_again_164 : decode cX11_again 164 = .ok (.aload_n 0, 1) := by decide +kernel
theorem dX11_again_165 : decode cX11_again 165 = .ok (.getfield 231, 3) := by decide +kernel
theorem dX11_again_168 : decode cX11_again 168 = .ok (.if_icmp .ge 32, 3) := by decide +kernel
theorem dX11_again_171 : decode cX11_again 171 = .ok (.aload_n 2, 1) := by decide +kernel
theorem dX11_again_172 : decode cX11_again 172 = .ok (.iload_n 3, 1) := by decide +kernel
theorem dX11_again_173 : decode cX11_again 173 = .ok (.baload, 1) := by decide +kernel
theorem dX11_again_174 : decode cX11_again 174 = .ok (.ifCond .eq 20, 3) := by decide +kernel
theorem dX11_again_177 : decode cX11_again 177 = .ok (.aload_n 0, 1) := by decide +kernel
theorem dX11_again_178 : decode cX11_again 178 = .ok (.iload_n 1, 1) := by decide +kernel
theorem dX11_again_179 : decode cX11_again 179 = .ok (.aload_n 0, 1) := by decide +kernel
theorem dX11_again_180 : decode cX11_again 180 = .ok (.getfield 44, 3) := by decide +kernel
theorem dX11_again_183 : decode cX11_again 183 = .ok (.iload_n 3, 1) := by decide +kernel
theorem dX11_again_184 : decode cX11_again 184 = .ok (.iaload, 1) := by decide +kernel
theorem dX11_again_185 : decode cX11_again 185 = .ok (.aload_n 0, 1) := by decide +kernel
theorem dX11_again_186 : decode cX11_again 186 = .ok (.getfield 53, 3) := by decide +kernel
theorem dX11_again_189 : decode cX11_again 189 = .ok (.iload_n 3, 1) := by decide +kernel
theorem dX11_again_190 : decode cX11_again 190 = .ok (.iaload, 1) := by decide +kernel
theorem dX11_again_191 : decode cX11_again 191 = .ok (.invokevirtual 238, 3) := by decide +kernel
theorem dX11_again_194 : decode cX11_again 194 = .ok (.iinc 3 1, 3) := by decide +kernel
theorem dX11_again_197 : decode cX11_again 197 = .ok (.goto (-34), 3) := by decide +kernel
theorem dX11_again_200 : decode cX11_again 200 = .ok (.return_, 1) := by decide +kernel
theorem dX11_purge_0 : decode cX11_purge 0 = .ok (.aload_n 0, 1) := by decide +kernel
theorem dX11_purge_1 : decode cX11_purge 1 = .ok (.getfield 180, 3) := by decide +kernel
theorem dX11_purge_4 : decode cX11_purge 4 = .ok (.ifCond .eq 11, 3) := by decide +kernel
theorem dX11_purge_7 : decode cX11_purge 7 = .ok (.aload_n 0, 1) := by decide +kernel
theorem dX11_purge_8 : decode cX11_purge 8 = .ok (.iload_n 1, 1) := by decide +kernel
theorem dX11_purge_9 : decode cX11_purge 9 = .ok (.invokevirtual 176, 3) := by decide +kernel
theorem dX11_purge_12 : decode cX11_purge 12 = .ok (.ifCond .ne 5, 3) := by decide +kernel
theorem dX11_purge_15 : decode cX11_purge 15 = .ok (.iconst (-1), 1) := by decide +kernel
theorem dX11_purge_16 : decode cX11_purge 16 = .ok (.ireturn, 1) := by decide +kernel
theorem dX11_purge_17 : decode cX11_purge 17 = .ok (.aload_n 0, 1) := by decide +kernel
theorem dX11_purge_18 : decode cX11_purge 18 = .ok (.iload_n 1, 1) := by decide +kernel
theorem dX11_purge_19 : decode cX11_purge 19 = .ok (.aload_n 0, 1) := by decide +kernel
theorem dX11_purge_20 : decode cX11_purge 20 = .ok (.getfield 156, 3) := by decide +kernel
theorem dX11_purge_23 : decode cX11_purge 23 = .ok (.invokevirtual 252, 3) := by decide +kernel
theorem dX11_purge_26 : decode cX11_purge 26 = .ok (.istore_n 2, 1) := by decide +kernel
theorem dX11_purge_27 : decode cX11_purge 27 = .ok (.aload_n 0, 1) := by decide +kernel
theorem dX11_purge_28 : decode cX11_purge 28 = .ok (.iconst 1, 1) := by decide +kernel
theorem dX11_purge_29 : decode cX11_purge 29 = .ok (.aload_n 0, 1) := by decide +kernel
theorem dX11_purge_30 : decode cX11_purge 30 = .ok (.getfield 156, 3) := by decide +kernel
theorem dX11_purge_33 : decode cX11_purge 33 = .ok (.invokevirtual 256, 3) := by decide +kernel
theorem dX11_purge_36 : decode cX11_purge 36 = .ok (.aload_n 0, 1) := by decide +kernel
theorem dX11_purge_37 : decode cX11_purge 37 = .ok (.aload_n 0, 1) := by decide +kernel
theorem dX11_purge_38 : decode cX11_purge 38 = .ok (.getfield 231, 3) := by decide +kernel
theorem dX11_purge_41 : decode cX11_purge 41 = .ok (.putfield 169, 3) := by decide +kernel
theorem dX11_purge_44 : decode cX11_purge 44 = .ok (.iload_n 2, 1) := by decide +kernel
theorem dX11_purge_45 : decode cX11_purge 45 = .ok (.ireturn, 1) := by decide +kernel
theorem dX11_kept_0 : decode cX11_kept 0 = .ok (.iload_n 1, 1) := by decide +kernel
theorem dX11_kept_1 : decode cX11_kept 1 = .ok (.ifCond .lt 11, 3) := by decide +kernel
theorem dX11_kept_4 : decode cX11_kept 4 = .ok (.iload_n 1, 1) := by decide +kernel
theorem dX11_kept_5 : decode cX11_kept 5 = .ok (.aload_n 0, 1) := by decide +kernel
theorem dX11_kept_6 : decode cX11_kept 6 = .ok (.getfield 169, 3) := by decide +kernel
theorem dX11_kept_9 : decode cX11_kept 9 = .ok (.if_icmp .lt 7, 3) := by decide +kernel
theorem dX11_kept_12 : decode cX11_kept 12 = .ok (.iconst (-1), 1) := by decide +kernel
theorem dX11_kept_13 : decode cX11_kept 13 = .ok (.goto 17, 3) := by decide +kernel
theorem dX11_kept_16 : decode cX11_kept 16 = .ok (.aload_n 0, 1) := by decide +kernel
theorem dX11_kept_17 : decode cX11_kept 17 = .ok (.getfield 156, 3) := by decide +kernel
theorem dX11_kept_20 : decode cX11_kept 20 = .ok (.iload_n 1, 1) := by decide +kernel
theorem dX11_kept_21 : decode cX11_kept 21 = .ok (.baload, 1) := by decide +kernel
theorem dX11_kept_22 : decode cX11_kept 22 = .ok (.ifCond .eq 7, 3) := by decide +kernel
theorem dX11_kept_25 : decode cX11_kept 25 = .ok (.iconst 1, 1) := by decide +kernel
theorem dX11_kept_26 : decode cX11_kept 26 = .ok (.goto 4, 3) := by decide +kernel
theorem dX11_kept_29 : decode cX11_kept 29 = .ok (.iconst 0, 1) := by decide +kernel
theorem dX11_kept_30 : decode cX11_kept 30 = .ok (.ireturn, 1) := by decide +kernel
theorem dX11_purged_0 : decode cX11_purged 0 = .ok (.aload_n 0, 1) := by decide +kernel
theorem dX11_purged_1 : decode cX11_purged 1 = .ok (.getfield 169, 3) := by decide +kernel
theorem dX11_purged_4 : decode cX11_purged 4 = .ok (.ifCond .lt 11, 3) := by decide +kernel
theorem dX11_purged_7 : decode cX11_purged 7 = .ok (.aload_n 0, 1) := by decide +kernel
theorem dX11_purged_8 : decode cX11_purged 8 = .ok (.iload_n 1, 1) := by decide +kernel
theorem dX11_purged_9 : decode cX11_purged 9 = .ok (.invokevirtual 176, 3) := by decide +kernel
theorem dX11_purged_12 : decode cX11_purged 12 = .ok (.ifCond .ne 5, 3) := by decide +kernel
theorem dX11_purged_15 : decode cX11_purged 15 = .ok (.iconst 0, 1) := by decide +kernel
theorem dX11_purged_16 : decode cX11_purged 16 = .ok (.ireturn, 1) := by decide +kernel
theorem dX11_purged_17 : decode cX11_purged 17 = .ok (.bipush 6, 2) := by decide +kernel
theorem dX11_purged_19 : decode cX11_purged 19 = .ok (.iload_n 1, 1) := by decide +kernel
theorem dX11_purged_20 : decode cX11_purged 20 = .ok (.iadd, 1) := by decide +kernel
theorem dX11_purged_21 : decode cX11_purged 21 = .ok (.istore 4, 2) := by decide +kernel
theorem dX11_purged_23 : decode cX11_purged 23 = .ok (.iload_n 2, 1) := by decide +kernel
theorem dX11_purged_24 : decode cX11_purged 24 = .ok (.tableswitch 175 0 7 #[48, 75, 102, 135, 143, 151, 159, 167], 48) := by decide +kernel
theorem dX11_purged_72 : decode cX11_purged 72 = .ok (.iload_n 3, 1) := by decide +kernel
theorem dX11_purged_73 : decode cX11_purged 73 = .ok (.ifCond .lt 24, 3) := by decide +kernel
theorem dX11_purged_76 : decode cX11_purged 76 = .ok (.iload_n 3, 1) := by decide +kernel
theorem dX11_purged_77 : decode cX11_purged 77 = .ok (.bipush 8, 2) := by decide +kernel
theorem dX11_purged_79 : decode cX11_purged 79 = .ok (.if_icmp .ge 18, 3) := by decide +kernel
theorem dX11_purged_82 : decode cX11_purged 82 = .ok (.aload_n 0, 1) := by decide +kernel
theorem dX11_purged_83 : decode cX11_purged 83 = .ok (.getfield 56, 3) := by decide +kernel
theorem dX11_purged_86 : decode cX11_purged 86 = .ok (.bipush 8, 2) := by decide +kernel
theorem dX11_purged_88 : decode cX11_purged 88 = .ok (.iload 4, 2) := by decide +kernel
theorem dX11_purged_90 : decode cX11_purged 90 = .ok (.imul, 1) := by decide +kernel
theorem dX11_purged_91 : decode cX11_purged 91 = .ok (.iload_n 3, 1) := by decide +kernel
theorem dX11_purged_92 : decode cX11_purged 92 = .ok (.iadd, 1) := by decide +kernel
theorem dX11_purged_93 : decode cX11_purged 93 = .ok (.iaload, 1) := by decide +kernel
theorem dX11_purged_94 : decode cX11_purged 94 = .ok (.goto 4, 3) := by decide +kernel
theorem dX11_purged_97 : decode cX11_purged 97 = .ok (.iconst 0, 1) := by decide +kernel
theorem dX11_purged_98 : decode cX11_purged 98 = .ok (.ireturn, 1) := by decide +kernel
theorem dX11_purged_99 : decode cX11_purged 99 = .ok (.iload_n 3, 1) := by decide +kernel
theorem dX11_purged_100 : decode cX11_purged 100 = .ok (.ifCond .lt 24, 3) := by decide +kernel
theorem dX11_purged_103 : decode cX11_purged 103 = .ok (.iload_n 3, 1) := by decide +kernel
theorem dX11_purged_104 : decode cX11_purged 104 = .ok (.bipush 32, 2) := by decide +kernel
theorem dX11_purged_106 : decode cX11_purged 106 = .ok (.if_icmp .ge 18, 3) := by decide +kernel
theorem dX11_purged_109 : decode cX11_purged 109 = .ok (.aload_n 0, 1) := by decide +kernel
theorem dX11_purged_110 : decode cX11_purged 110 = .ok (.getfield 59, 3) := by decide +kernel
theorem dX11_purged_113 : decode cX11_purged 113 = .ok (.bipush 32, 2) := by decide +kernel
theorem dX11_purged_115 : decode cX11_purged 115 = .ok (.iload 4, 2) := by decide +kernel
theorem dX11_purged_117 : decode cX11_purged 117 = .ok (.imul, 1) := by decide +kernel
theorem dX11_purged_118 : decode cX11_purged 118 = .ok (.iload_n 3, 1) := by decide +kernel
theorem dX11_purged_119 : decode cX11_purged 119 = .ok (.iadd, 1) := by decide +kernel
theorem dX11_purged_120 : decode cX11_purged 120 = .ok (.iaload, 1) := by decide +kernel
theorem dX11_purged_121 : decode cX11_purged 121 = .ok (.goto 4, 3) := by decide +kernel
theorem dX11_purged_124 : decode cX11_purged 124 = .ok (.iconst 0, 1) := by decide +kernel
theorem dX11_purged_125 : decode cX11_purged 125 = .ok (.ireturn, 1) := by decide +kernel
theorem dX11_purged_126 : decode cX11_purged 126 = .ok (.iload_n 3, 1) := by decide +kernel
theorem dX11_purged_127 : decode cX11_purged 127 = .ok (.ifCond .lt 30, 3) := by decide +kernel
theorem dX11_purged_130 : decode cX11_purged 130 = .ok (.iload_n 3, 1) := by decide +kernel
theorem dX11_purged_131 : decode cX11_purged 131 = .ok (.aload_n 0, 1) := by decide +kernel
theorem dX11_purged_132 : decode cX11_purged 132 = .ok (.getfield 77, 3) := by decide +kernel
theorem dX11_purged_135 : decode cX11_purged 135 = .ok (.iload 4, 2) := by decide +kernel
theorem dX11_purged_137 : decode cX11_purged 137 = .ok (.iaload, 1) := by decide +kernel
theorem dX11_purged_138 : decode cX11_purged 138 = .ok (.if_icmp .ge 19, 3) := by decide +kernel
theorem dX11_purged_141 : decode cX11_purged 141 = .ok (.aload_n 0, 1) := by decide +kernel
theorem dX11_purged_142 : decode cX11_purged 142 = .ok (.getfield 74, 3) := by decide +kernel
theorem dX11_purged_145 : decode cX11_purged 145 = .ok (.sipush 200, 3) := by decide +kernel
theorem dX11_purged_148 : decode cX11_purged 148 = .ok (.iload 4, 2) := by decide +kernel
theorem dX11_purged_150 : decode cX11_purged 150 = .ok (.imul, 1) := by decide +kernel
theorem dX11_purged_151 : decode cX11_purged 151 = .ok (.iload_n 3, 1) := by decide +kernel
theorem dX11_purged_152 : decode cX11_purged 152 = .ok (.iadd, 1) := by decide +kernel
theorem dX11_purged_153 : decode cX11_purged 153 = .ok (.iaload, 1) := by decide +kernel
theorem dX11_purged_154 : decode cX11_purged 154 = .ok (.goto 4, 3) := by decide +kernel
theorem dX11_purged_157 : decode cX11_purged 157 = .ok (.iconst 0, 1) := by decide +kernel
theorem dX11_purged_158 : decode cX11_purged 158 = .ok (.ireturn, 1) := by decide +kernel
theorem dX11_purged_159 : decode cX11_purged 159 = .ok (.aload_n 0, 1) := by decide +kernel
theorem dX11_purged_160 : decode cX11_purged 160 = .ok (.getfield 62, 3) := by decide +kernel
theorem dX11_purged_163 : decode cX11_purged 163 = .ok (.iload 4, 2) := by decide +kernel
theorem dX11_purged_165 : decode cX11_purged 165 = .ok (.iaload, 1) := by decide +kernel
theorem dX11_purged_166 : decode cX11_purged 166 = .ok (.ireturn, 1) := by decide +kernel
theorem dX11_purged_167 : decode cX11_purged 167 = .ok (.aload_n 0, 1) := by decide +kernel
theorem dX11_purged_168 : decode cX11_purged 168 = .ok (.getfield 65, 3) := by decide +kernel
theorem dX11_purged_171 : decode cX11_purged 171 = .ok (.iload 4, 2) := by decide +kernel
theorem dX11_purged_173 : decode cX11_purged 173 = .ok (.iaload, 1) := by decide +kernel
theorem dX11_purged_174 : decode cX11_purged 174 = .ok (.ireturn, 1) := by decide +kernel
theorem dX11_purged_175 : decode cX11_purged 175 = .ok (.aload_n 0, 1) := by decide +kernel
theorem dX11_purged_176 : decode cX11_purged 176 = .ok (.getfield 77, 3) := by decide +kernel
theorem dX11_purged_179 : decode cX11_purged 179 = .ok (.iload 4, 2) := by decide +kernel
theorem dX11_purged_181 : decode cX11_purged 181 = .ok (.iaload, 1) := by decide +kernel
theorem dX11_purged_182 : decode cX11_purged 182 = .ok (.ireturn, 1) := by decide +kernel
theorem dX11_purged_183 : decode cX11_purged 183 = .ok (.aload_n 0, 1) := by decide +kernel
theorem dX11_purged_184 : decode cX11_purged 184 = .ok (.getfield 80, 3) := by decide +kernel
theorem dX11_purged_187 : decode cX11_purged 187 = .ok (.iload 4, 2) := by decide +kernel
theorem dX11_purged_189 : decode cX11_purged 189 = .ok (.iaload, 1) := by decide +kernel
theorem dX11_purged_190 : decode cX11_purged 190 = .ok (.ireturn, 1) := by decide +kernel
theorem dX11_purged_191 : decode cX11_purged 191 = .ok (.aload_n 0, 1) := by decide +kernel
theorem dX11_purged_192 : decode cX11_purged 192 = .ok (.getfield 83, 3) := by decide +kernel
theorem dX11_purged_195 : decode cX11_purged 195 = .ok (.iload 4, 2) := by decide +kernel
theorem dX11_purged_197 : decode cX11_purged 197 = .ok (.iaload, 1) := by decide +kernel
theorem dX11_purged_198 : decode cX11_purged 198 = .ok (.ireturn, 1) := by decide +kernel
theorem dX11_purged_199 : decode cX11_purged 199 = .ok (.iconst 0, 1) := by decide +kernel
theorem dX11_purged_200 : decode cX11_purged 200 = .ok (.ireturn, 1) := by decide +kernel
theorem dX11_areAlike_0 : decode cX11_areAlike 0 = .ok (.iload_n 1, 1) := by decide +kernel
theorem dX11_areAlike_1 : decode cX11_areAlike 1 = .ok (.istore 4, 2) := by decide +kernel
theorem dX11_areAlike_3 : decode cX11_areAlike 3 = .ok (.iload_n 2, 1) := by decide +kernel
theorem dX11_areAlike_4 : decode cX11_areAlike 4 = .ok (.istore 5, 2) := by decide +kernel
theorem dX11_areAlike_6 : decode cX11_areAlike 6 = .ok (.iconst 1, 1) := by decide +kernel
theorem dX11_areAlike_7 : decode cX11_areAlike 7 = .ok (.istore 6, 2) := by decide +kernel
theorem dX11_areAlike_9 : decode cX11_areAlike 9 = .ok (.iconst 0, 1) := by decide +kernel
theorem dX11_areAlike_10 : decode cX11_areAlike 10 = .ok (.istore 7, 2) := by decide +kernel
theorem dX11_areAlike_12 : decode cX11_areAlike 12 = .ok (.iload 7, 2) := by decide +kernel
theorem dX11_areAlike_14 : decode cX11_areAlike 14 = .ok (.iload_n 3, 1) := by decide +kernel
theorem dX11_areAlike_15 : decode cX11_areAlike 15 = .ok (.if_icmp .ge 116, 3) := by decide +kernel
theorem dX11_areAlike_18 : decode cX11_areAlike 18 = .ok (.iload 6, 2) := by decide +kernel
theorem dX11_areAlike_20 : decode cX11_areAlike 20 = .ok (.ifCond .eq 111, 3) := by decide +kernel
theorem dX11_areAlike_23 : decode cX11_areAlike 23 = .ok (.aload_n 0, 1) := by decide +kernel
theorem dX11_areAlike_24 : decode cX11_areAlike 24 = .ok (.getfield 125, 3) := by decide +kernel
theorem dX11_areAlike_27 : decode cX11_areAlike 27 = .ok (.iload 4, 2) := by decide +kernel
theorem dX11_areAlike_29 : decode cX11_areAlike 29 = .ok (.iaload, 1) := by decide +kernel
theorem dX11_areAlike_30 : decode cX11_areAlike 30 = .ok (.aload_n 0, 1) := by decide +kernel
theorem dX11_areAlike_31 : decode cX11_areAlike 31 = .ok (.getfield 125, 3) := by decide +kernel
theorem dX11_areAlike_34 : decode cX11_areAlike 34 = .ok (.iload 5, 2) := by decide +kernel
theorem dX11_areAlike_36 : decode cX11_areAlike 36 = .ok (.iaload, 1) := by decide +kernel
theorem dX11_areAlike_37 : decode cX11_areAlike 37 = .ok (.if_icmp .ne 7, 3) := by decide +kernel
theorem dX11_areAlike_40 : decode cX11_areAlike 40 = .ok (.iconst 1, 1) := by decide +kernel
theorem dX11_areAlike_41 : decode cX11_areAlike 41 = .ok (.goto 4, 3) := by decide +kernel
theorem dX11_areAlike_44 : decode cX11_areAlike 44 = .ok (.iconst 0, 1) := by decide +kernel
theorem dX11_areAlike_45 : decode cX11_areAlike 45 = .ok (.istore 6, 2) := by decide +kernel
theorem dX11_areAlike_47 : decode cX11_areAlike 47 = .ok (.iconst 0, 1) := by decide +kernel
theorem dX11_areAlike_48 : decode cX11_areAlike 48 = .ok (.istore 8, 2) := by decide +kernel
theorem dX11_areAlike_50 : decode cX11_areAlike 50 = .ok (.iload 8, 2) := by decide +kernel
theorem dX11_areAlike_52 : decode cX11_areAlike 52 = .ok (.aload_n 0, 1) := by decide +kernel
theorem dX11_areAlike_53 : decode cX11_areAlike 53 = .ok (.getfield 125, 3) := by decide +kernel
theorem dX11_areAlike_56 : decode cX11_areAlike 56 = .ok (.iload 4, 2) := by decide +kernel
theorem dX11_areAlike_58 : decode cX11_areAlike 58 = .ok (.iaload, 1) := by decide +kernel
theorem dX11_areAlike_59 : decode cX11_areAlike 59 = .ok (.if_icmp .ge 48, 3) := by decide +kernel
theorem dX11_areAlike_62 : decode cX11_areAlike 62 = .ok (.iload 6, 2) := by decide +kernel
theorem dX11_areAlike_64 : decode cX11_areAlike 64 = .ok (.ifCond .eq 34, 3) := by decide +kernel
theorem dX11_areAlike_67 : decode cX11_areAlike 67 = .ok (.aload_n 0, 1) := by decide +kernel
theorem dX11_areAlike_68 : decode cX11_areAlike 68 = .ok (.getfield 129, 3) := by decide +kernel
theorem dX11_areAlike_71 : decode cX11_areAlike 71 = .ok (.iconst 4, 1) := by decide +kernel
theorem dX11_areAlike_72 : decode cX11_areAlike 72 = .ok (.iload 4, 2) := by decide +kernel
theorem dX11_areAlike_74 : decode cX11_areAlike 74 = .ok (.imul, 1) := by decide +kernel
theorem dX11_areAlike_75 : decode cX11_areAlike 75 = .ok (.iload 8, 2) := by decide +kernel
theorem dX11_areAlike_77 : decode cX11_areAlike 77 = .ok (.iadd, 1) := by decide +kernel
theorem dX11_areAlike_78 : decode cX11_areAlike 78 = .ok (.iaload, 1) := by decide +kernel
theorem dX11_areAlike_79 : decode cX11_areAlike 79 = .ok (.aload_n 0, 1) := by decide +kernel
theorem dX11_areAlike_80 : decode cX11_areAlike 80 = .ok (.getfield 129, 3) := by decide +kernel
theorem dX11_areAlike_83 : decode cX11_areAlike 83 = .ok (.iconst 4, 1) := by decide +kernel
theorem dX11_areAlike_84 : decode cX11_areAlike 84 = .ok (.iload 5, 2) := by decide +kernel
theorem dX11_areAlike_86 : decode cX11_areAlike 86 = .ok (.imul, 1) := by decide +kernel
theorem dX11_areAlike_87 : decode cX11_areAlike 87 = .ok (.iload 8, 2) := by decide +kernel
theorem dX11_areAlike_89 : decode cX11_areAlike 89 = .ok (.iadd, 1) := by decide +kernel
theorem dX11_areAlike_90 : decode cX11_areAlike 90 = .ok (.iaload, 1) := by decide +kernel
theorem dX11_areAlike_91 : decode cX11_areAlike 91 = .ok (.if_icmp .ne 7, 3) := by decide +kernel
theorem dX11_areAlike_94 : decode cX11_areAlike 94 = .ok (.iconst 1, 1) := by decide +kernel
theorem dX11_areAlike_95 : decode cX11_areAlike 95 = .ok (.goto 4, 3) := by decide +kernel
theorem dX11_areAlike_98 : decode cX11_areAlike 98 = .ok (.iconst 0, 1) := by decide +kernel
theorem dX11_areAlike_99 : decode cX11_areAlike 99 = .ok (.istore 6, 2) := by decide +kernel
theorem dX11_areAlike_101 : decode cX11_areAlike 101 = .ok (.iinc 8 1, 3) := by decide +kernel
theorem dX11_areAlike_104 : decode cX11_areAlike 104 = .ok (.goto (-54), 3) := by decide +kernel
theorem dX11_areAlike_107 : decode cX11_areAlike 107 = .ok (.aload_n 0, 1) := by decide +kernel
theorem dX11_areAlike_108 : decode cX11_areAlike 108 = .ok (.getfield 122, 3) := by decide +kernel
theorem dX11_areAlike_111 : decode cX11_areAlike 111 = .ok (.iload 4, 2) := by decide +kernel
theorem dX11_areAlike_113 : decode cX11_areAlike 113 = .ok (.iaload, 1) := by decide +kernel
theorem dX11_areAlike_114 : decode cX11_areAlike 114 = .ok (.istore 4, 2) := by decide +kernel
theorem dX11_areAlike_116 : decode cX11_areAlike 116 = .ok (.aload_n 0, 1) := by decide +kernel
theorem dX11_areAlike_117 : decode cX11_areAlike 117 = .ok (.getfield 122, 3) := by decide +kernel
theorem dX11_areAlike_120 : decode cX11_areAlike 120 = .ok (.iload 5, 2) := by decide +kernel
theorem dX11_areAlike_122 : decode cX11_areAlike 122 = .ok (.iaload, 1) := by decide +kernel
theorem dX11_areAlike_123 : decode cX11_areAlike 123 = .ok (.istore 5, 2) := by decide +kernel
theorem dX11_areAlike_125 : decode cX11_areAlike 125 = .ok (.iinc 7 1, 3) := by decide +kernel
theorem dX11_areAlike_128 : decode cX11_areAlike 128 = .ok (.goto (-116), 3) := by decide +kernel
theorem dX11_areAlike_131 : decode cX11_areAlike 131 = .ok (.iload 6, 2) := by decide +kernel
theorem dX11_areAlike_133 : decode cX11_areAlike 133 = .ok (.ireturn, 1) := by decide +kernel
theorem dX11_undisturbed_0 : decode cX11_undisturbed 0 = .ok (.aload_n 0, 1) := by decide +kernel
theorem dX11_undisturbed_1 : decode cX11_undisturbed 1 = .ok (.getfield 180, 3) := by decide +kernel
theorem dX11_undisturbed_4 : decode cX11_undisturbed 4 = .ok (.ifCond .eq 11, 3) := by decide +kernel
theorem dX11_undisturbed_7 : decode cX11_undisturbed 7 = .ok (.aload_n 0, 1) := by decide +kernel
theorem dX11_undisturbed_8 : decode cX11_undisturbed 8 = .ok (.iload_n 1, 1) := by decide +kernel
theorem dX11_undisturbed_9 : decode cX11_undisturbed 9 = .ok (.invokevirtual 176, 3) := by decide +kernel
theorem dX11_undisturbed_12 : decode cX11_undisturbed 12 = .ok (.ifCond .ne 5, 3) := by decide +kernel
theorem dX11_undisturbed_15 : decode cX11_undisturbed 15 = .ok (.iconst (-1), 1) := by decide +kernel
theorem dX11_undisturbed_16 : decode cX11_undisturbed 16 = .ok (.ireturn, 1) := by decide +kernel
theorem dX11_undisturbed_17 : decode cX11_undisturbed 17 = .ok (.aload_n 0, 1) := by decide +kernel
theorem dX11_undisturbed_18 : decode cX11_undisturbed 18 = .ok (.iload_n 1, 1) := by decide +kernel
theorem dX11_undisturbed_19 : decode cX11_undisturbed 19 = .ok (.aload_n 0, 1) := by decide +kernel
theorem dX11_undisturbed_20 : decode cX11_undisturbed 20 = .ok (.getfield 159, 3) := by decide +kernel
theorem dX11_undisturbed_23 : decode cX11_undisturbed 23 = .ok (.invokevirtual 252, 3) := by decide +kernel
theorem dX11_undisturbed_26 : decode cX11_undisturbed 26 = .ok (.istore_n 2, 1) := by decide +kernel
theorem dX11_undisturbed_27 : decode cX11_undisturbed 27 = .ok (.aload_n 0, 1) := by decide +kernel
theorem dX11_undisturbed_28 : decode cX11_undisturbed 28 = .ok (.iconst 2, 1) := by decide +kernel
theorem dX11_undisturbed_29 : decode cX11_undisturbed 29 = .ok (.aload_n 0, 1) := by decide +kernel
theorem dX11_undisturbed_30 : decode cX11_undisturbed 30 = .ok (.getfield 159, 3) := by decide +kernel
theorem dX11_undisturbed_33 : decode cX11_undisturbed 33 = .ok (.invokevirtual 256, 3) := by decide +kernel
theorem dX11_undisturbed_36 : decode cX11_undisturbed 36 = .ok (.iload_n 1, 1) := by decide +kernel
theorem dX11_undisturbed_37 : decode cX11_undisturbed 37 = .ok (.istore_n 3, 1) := by decide +kernel
theorem dX11_undisturbed_38 : decode cX11_undisturbed 38 = .ok (.bipush 12, 2) := by decide +kernel
theorem dX11_undisturbed_40 : decode cX11_undisturbed 40 = .ok (.iload_n 1, 1) := by decide +kernel
theorem dX11_undisturbed_41 : decode cX11_undisturbed 41 = .ok (.iadd, 1) := by decide +kernel
theorem dX11_undisturbed_42 : decode cX11_undisturbed 42 = .ok (.istore 4, 2) := by decide +kernel
theorem dX11_undisturbed_44 : decode cX11_undisturbed 44 = .ok (.aload_n 0, 1) := by decide +kernel
theorem dX11_undisturbed_45 : decode cX11_undisturbed 45 = .ok (.getfield 62, 3) := by decide +kernel
theorem dX11_undisturbed_48 : decode cX11_undisturbed 48 = .ok (.iload_n 3, 1) := by decide +kernel
theorem dX11_undisturbed_49 : decode cX11_undisturbed 49 = .ok (.iaload, 1) := by decide +kernel
theorem dX11_undisturbed_50 : decode cX11_undisturbed 50 = .ok (.aload_n 0, 1) := by decide +kernel
theorem dX11_undisturbed_51 : decode cX11_undisturbed 51 = .ok (.getfield 62, 3) := by decide +kernel
theorem dX11_undisturbed_54 : decode cX11_undisturbed 54 = .ok (.iload 4, 2) := by decide +kernel
theorem dX11_undisturbed_56 : decode cX11_undisturbed 56 = .ok (.iaload, 1) := by decide +kernel
theorem dX11_undisturbed_57 : decode cX11_undisturbed 57 = .ok (.if_icmp .ne 71, 3) := by decide +kernel
theorem dX11_undisturbed_60 : decode cX11_undisturbed 60 = .ok (.aload_n 0, 1) := by decide +kernel
theorem dX11_undisturbed_61 : decode cX11_undisturbed 61 = .ok (.getfield 65, 3) := by decide +kernel
theorem dX11_undisturbed_64 : decode cX11_undisturbed 64 = .ok (.iload_n 3, 1) := by decide +kernel
theorem dX11_undisturbed_65 : decode cX11_undisturbed 65 = .ok (.iaload, 1) := by decide +kernel
theorem dX11_undisturbed_66 : decode cX11_undisturbed 66 = .ok (.aload_n 0, 1) := by decide +kernel
theorem dX11_undisturbed_67 : decode cX11_undisturbed 67 = .ok (.getfield 65, 3) := by decide +kernel
theorem dX11_undisturbed_70 : decode cX11_undisturbed 70 = .ok (.iload 4, 2) := by decide +kernel
theorem dX11_undisturbed_72 : decode cX11_undisturbed 72 = .ok (.iaload, 1) := by decide +kernel
theorem dX11_undisturbed_73 : decode cX11_undisturbed 73 = .ok (.if_icmp .ne 55, 3) := by decide +kernel
theorem dX11_undisturbed_76 : decode cX11_undisturbed 76 = .ok (.aload_n 0, 1) := by decide +kernel
theorem dX11_undisturbed_77 : decode cX11_undisturbed 77 = .ok (.getfield 71, 3) := by decide +kernel
theorem dX11_undisturbed_80 : decode cX11_undisturbed 80 = .ok (.iload_n 3, 1) := by decide +kernel
theorem dX11_undisturbed_81 : decode cX11_undisturbed 81 = .ok (.iaload, 1) := by decide +kernel
theorem dX11_undisturbed_82 : decode cX11_undisturbed 82 = .ok (.aload_n 0, 1) := by decide +kernel
theorem dX11_undisturbed_83 : decode cX11_undisturbed 83 = .ok (.getfield 71, 3) := by decide +kernel
theorem dX11_undisturbed_86 : decode cX11_undisturbed 86 = .ok (.iload 4, 2) := by decide +kernel
theorem dX11_undisturbed_88 : decode cX11_undisturbed 88 = .ok (.iaload, 1) := by decide +kernel
theorem dX11_undisturbed_89 : decode cX11_undisturbed 89 = .ok (.if_icmp .ne 39, 3) := by decide +kernel
theorem dX11_undisturbed_92 : decode cX11_undisturbed 92 = .ok (.aload_n 0, 1) := by decide +kernel
theorem dX11_undisturbed_93 : decode cX11_undisturbed 93 = .ok (.getfield 77, 3) := by decide +kernel
theorem dX11_undisturbed_96 : decode cX11_undisturbed 96 = .ok (.iload_n 3, 1) := by decide +kernel
theorem dX11_undisturbed_97 : decode cX11_undisturbed 97 = .ok (.iaload, 1) := by decide +kernel
theorem dX11_undisturbed_98 : decode cX11_undisturbed 98 = .ok (.aload_n 0, 1) := by decide +kernel
theorem dX11_undisturbed_99 : decode cX11_undisturbed 99 = .ok (.getfield 77, 3) := by decide +kernel
theorem dX11_undisturbed_102 : decode cX11_undisturbed 102 = .ok (.iload 4, 2) := by decide +kernel
theorem dX11_undisturbed_104 : decode cX11_undisturbed 104 = .ok (.iaload, 1) := by decide +kernel
theorem dX11_undisturbed_105 : decode cX11_undisturbed 105 = .ok (.if_icmp .ne 23, 3) := by decide +kernel
theorem dX11_undisturbed_108 : decode cX11_undisturbed 108 = .ok (.aload_n 0, 1) := by decide +kernel
theorem dX11_undisturbed_109 : decode cX11_undisturbed 109 = .ok (.getfield 80, 3) := by decide +kernel
theorem dX11_undisturbed_112 : decode cX11_undisturbed 112 = .ok (.iload_n 3, 1) := by decide +kernel
theorem dX11_undisturbed_113 : decode cX11_undisturbed 113 = .ok (.iaload, 1) := by decide +kernel
theorem dX11_undisturbed_114 : decode cX11_undisturbed 114 = .ok (.aload_n 0, 1) := by decide +kernel
theorem dX11_undisturbed_115 : decode cX11_undisturbed 115 = .ok (.getfield 80, 3) := by decide +kernel
theorem dX11_undisturbed_118 : decode cX11_undisturbed 118 = .ok (.iload 4, 2) := by decide +kernel
theorem dX11_undisturbed_120 : decode cX11_undisturbed 120 = .ok (.iaload, 1) := by decide +kernel
theorem dX11_undisturbed_121 : decode cX11_undisturbed 121 = .ok (.if_icmp .ne 7, 3) := by decide +kernel
theorem dX11_undisturbed_124 : decode cX11_undisturbed 124 = .ok (.iconst 1, 1) := by decide +kernel
theorem dX11_undisturbed_125 : decode cX11_undisturbed 125 = .ok (.goto 4, 3) := by decide +kernel
theorem dX11_undisturbed_128 : decode cX11_undisturbed 128 = .ok (.iconst 0, 1) := by decide +kernel
theorem dX11_undisturbed_129 : decode cX11_undisturbed 129 = .ok (.istore 5, 2) := by decide +kernel
theorem dX11_undisturbed_131 : decode cX11_undisturbed 131 = .ok (.iconst 0, 1) := by decide +kernel
theorem dX11_undisturbed_132 : decode cX11_undisturbed 132 = .ok (.istore 6, 2) := by decide +kernel
theorem dX11_undisturbed_134 : decode cX11_undisturbed 134 = .ok (.iload 6, 2) := by decide +kernel
theorem dX11_undisturbed_136 : decode cX11_undisturbed 136 = .ok (.bipush 8, 2) := by decide +kernel
theorem dX11_undisturbed_138 : decode cX11_undisturbed 138 = .ok (.if_icmp .ge 88, 3) := by decide +kernel
theorem dX11_undisturbed_141 : decode cX11_undisturbed 141 = .ok (.iload 5, 2) := by decide +kernel
theorem dX11_undisturbed_143 : decode cX11_undisturbed 143 = .ok (.ifCond .eq 74, 3) := by decide +kernel
theorem dX11_undisturbed_146 : decode cX11_undisturbed 146 = .ok (.aload_n 0, 1) := by decide +kernel
theorem dX11_undisturbed_147 : decode cX11_undisturbed 147 = .ok (.getfield 56, 3) := by decide +kernel
theorem dX11_undisturbed_150 : decode cX11_undisturbed 150 = .ok (.bipush 8, 2) := by decide +kernel
theorem dX11_undisturbed_152 : decode cX11_undisturbed 152 = .ok (.iload_n 3, 1) := by decide +kernel
theorem dX11_undisturbed_153 : decode cX11_undisturbed 153 = .ok (.imul, 1) := by decide +kernel
theorem dX11_undisturbed_154 : decode cX11_undisturbed 154 = .ok (.iload 6, 2) := by decide +kernel
theorem dX11_undisturbed_156 : decode cX11_undisturbed 156 = .ok (.iadd, 1) := by decide +kernel
theorem dX11_undisturbed_157 : decode cX11_undisturbed 157 = .ok (.iaload, 1) := by decide +kernel
theorem dX11_undisturbed_158 : decode cX11_undisturbed 158 = .ok (.aload_n 0, 1) := by decide +kernel
theorem dX11_undisturbed_159 : decode cX11_undisturbed 159 = .ok (.getfield 56, 3) := by decide +kernel
theorem dX11_undisturbed_162 : decode cX11_undisturbed 162 = .ok (.bipush 8, 2) := by decide +kernel
theorem dX11_undisturbed_164 : decode cX11_undisturbed 164 = .ok (.iload 4, 2) := by decide +kernel
theorem dX11_undisturbed_166 : decode cX11_undisturbed 166 = .ok (.imul, 1) := by decide +kernel
theorem dX11_undisturbed_167 : decode cX11_undisturbed 167 = .ok (.iload 6, 2) := by decide +kernel
theorem dX11_undisturbed_169 : decode cX11_undisturbed 169 = .ok (.iadd, 1) := by decide +kernel
theorem dX11_undisturbed_170 : decode cX11_undisturbed 170 = .ok (.iaload, 1) := by decide +kernel
theorem dX11_undisturbed_171 : decode cX11_undisturbed 171 = .ok (.if_icmp .ne 46, 3) := by decide +kernel
theorem dX11_undisturbed_174 : decode cX11_undisturbed 174 = .ok (.iload 6, 2) := by decide +kernel
theorem dX11_undisturbed_176 : decode cX11_undisturbed 176 = .ok (.aload_n 0, 1) := by decide +kernel
theorem dX11_undisturbed_177 : decode cX11_undisturbed 177 = .ok (.getfield 71, 3) := by decide +kernel
theorem dX11_undisturbed_180 : decode cX11_undisturbed 180 = .ok (.iload_n 3, 1) := by decide +kernel
theorem dX11_undisturbed_181 : decode cX11_undisturbed 181 = .ok (.iaload, 1) := by decide +kernel
theorem dX11_undisturbed_182 : decode cX11_undisturbed 182 = .ok (.if_icmp .ge 31, 3) := by decide +kernel
theorem dX11_undisturbed_185 : decode cX11_undisturbed 185 = .ok (.aload_n 0, 1) := by decide +kernel
theorem dX11_undisturbed_186 : decode cX11_undisturbed 186 = .ok (.getfield 68, 3) := by decide +kernel
theorem dX11_undisturbed_189 : decode cX11_undisturbed 189 = .ok (.bipush 8, 2) := by decide +kernel
theorem dX11_undisturbed_191 : decode cX11_undisturbed 191 = .ok (.iload_n 3, 1) := by decide +kernel
theorem dX11_undisturbed_192 : decode cX11_undisturbed 192 = .ok (.imul, 1) := by decide +kernel
theorem dX11_undisturbed_193 : decode cX11_undisturbed 193 = .ok (.iload 6, 2) := by decide +kernel
theorem dX11_undisturbed_195 : decode cX11_undisturbed 195 = .ok (.iadd, 1) := by decide +kernel
theorem dX11_undisturbed_196 : decode cX11_undisturbed 196 = .ok (.iaload, 1) := by decide +kernel
theorem dX11_undisturbed_197 : decode cX11_undisturbed 197 = .ok (.aload_n 0, 1) := by decide +kernel
theorem dX11_undisturbed_198 : decode cX11_undisturbed 198 = .ok (.getfield 68, 3) := by decide +kernel
theorem dX11_undisturbed_201 : decode cX11_undisturbed 201 = .ok (.bipush 8, 2) := by decide +kernel
theorem dX11_undisturbed_203 : decode cX11_undisturbed 203 = .ok (.iload 4, 2) := by decide +kernel
theorem dX11_undisturbed_205 : decode cX11_undisturbed 205 = .ok (.imul, 1) := by decide +kernel
theorem dX11_undisturbed_206 : decode cX11_undisturbed 206 = .ok (.iload 6, 2) := by decide +kernel
theorem dX11_undisturbed_208 : decode cX11_undisturbed 208 = .ok (.iadd, 1) := by decide +kernel
theorem dX11_undisturbed_209 : decode cX11_undisturbed 209 = .ok (.iaload, 1) := by decide +kernel
theorem dX11_undisturbed_210 : decode cX11_undisturbed 210 = .ok (.if_icmp .ne 7, 3) := by decide +kernel
theorem dX11_undisturbed_213 : decode cX11_undisturbed 213 = .ok (.iconst 1, 1) := by decide +kernel
theorem dX11_undisturbed_214 : decode cX11_undisturbed 214 = .ok (.goto 4, 3) := by decide +kernel
theorem dX11_undisturbed_217 : decode cX11_undisturbed 217 = .ok (.iconst 0, 1) := by decide +kernel
theorem dX11_undisturbed_218 : decode cX11_undisturbed 218 = .ok (.istore 5, 2) := by decide +kernel
theorem dX11_undisturbed_220 : decode cX11_undisturbed 220 = .ok (.iinc 6 1, 3) := by decide +kernel
theorem dX11_undisturbed_223 : decode cX11_undisturbed 223 = .ok (.goto (-89), 3) := by decide +kernel
theorem dX11_undisturbed_226 : decode cX11_undisturbed 226 = .ok (.iconst 0, 1) := by decide +kernel
theorem dX11_undisturbed_227 : decode cX11_undisturbed 227 = .ok (.istore 6, 2) := by decide +kernel
theorem dX11_undisturbed_229 : decode cX11_undisturbed 229 = .ok (.iload 6, 2) := by decide +kernel
theorem dX11_undisturbed_231 : decode cX11_undisturbed 231 = .ok (.bipush 32, 2) := by decide +kernel
theorem dX11_undisturbed_233 : decode cX11_undisturbed 233 = .ok (.if_icmp .ge 49, 3) := by decide +kernel
theorem dX11_undisturbed_236 : decode cX11_undisturbed 236 = .ok (.iload 5, 2) := by decide +kernel
theorem dX11_undisturbed_238 : decode cX11_undisturbed 238 = .ok (.ifCond .eq 35, 3) := by decide +kernel
theorem dX11_undisturbed_241 : decode cX11_undisturbed 241 = .ok (.aload_n 0, 1) := by decide +kernel
theorem dX11_undisturbed_242 : decode cX11_undisturbed 242 = .ok (.getfield 59, 3) := by decide +kernel
theorem dX11_undisturbed_245 : decode cX11_undisturbed 245 = .ok (.bipush 32, 2) := by decide +kernel
theorem dX11_undisturbed_247 : decode cX11_undisturbed 247 = .ok (.iload_n 3, 1) := by decide +kernel
theorem dX11_undisturbed_248 : decode cX11_undisturbed 248 = .ok (.imul, 1) := by decide +kernel
theorem dX11_undisturbed_249 : decode cX11_undisturbed 249 = .ok (.iload 6, 2) := by decide +kernel
theorem dX11_undisturbed_251 : decode cX11_undisturbed 251 = .ok (.iadd, 1) := by decide +kernel
theorem dX11_undisturbed_252 : decode cX11_undisturbed 252 = .ok (.iaload, 1) := by decide +kernel
theorem dX11_undisturbed_253 : decode cX11_undisturbed 253 = .ok (.aload_n 0, 1) := by decide +kernel
theorem dX11_undisturbed_254 : decode cX11_undisturbed 254 = .ok (.getfield 59, 3) := by decide +kernel
theorem dX11_undisturbed_257 : decode cX11_undisturbed 257 = .ok (.bipush 32, 2) := by decide +kernel
theorem dX11_undisturbed_259 : decode cX11_undisturbed 259 = .ok (.iload 4, 2) := by decide +kernel
theorem dX11_undisturbed_261 : decode cX11_undisturbed 261 = .ok (.imul, 1) := by decide +kernel
theorem dX11_undisturbed_262 : decode cX11_undisturbed 262 = .ok (.iload 6, 2) := by decide +kernel
theorem dX11_undisturbed_264 : decode cX11_undisturbed 264 = .ok (.iadd, 1) := by decide +kernel
theorem dX11_undisturbed_265 : decode cX11_undisturbed 265 = .ok (.iaload, 1) := by decide +kernel
theorem dX11_undisturbed_266 : decode cX11_undisturbed 266 = .ok (.if_icmp .ne 7, 3) := by decide +kernel
theorem dX11_undisturbed_269 : decode cX11_undisturbed 269 = .ok (.iconst 1, 1) := by decide +kernel
theorem dX11_undisturbed_270 : decode cX11_undisturbed 270 = .ok (.goto 4, 3) := by decide +kernel
theorem dX11_undisturbed_273 : decode cX11_undisturbed 273 = .ok (.iconst 0, 1) := by decide +kernel
theorem dX11_undisturbed_274 : decode cX11_undisturbed 274 = .ok (.istore 5, 2) := by decide +kernel
theorem dX11_undisturbed_276 : decode cX11_undisturbed 276 = .ok (.iinc 6 1, 3) := by decide +kernel
theorem dX11_undisturbed_279 : decode cX11_undisturbed 279 = .ok (.goto (-50), 3) := by decide +kernel
theorem dX11_undisturbed_282 : decode cX11_undisturbed 282 = .ok (.iconst 0, 1) := by decide +kernel
theorem dX11_undisturbed_283 : decode cX11_undisturbed 283 = .ok (.istore 6, 2) := by decide +kernel
theorem dX11_undisturbed_285 : decode cX11_undisturbed 285 = .ok (.iload 6, 2) := by decide +kernel
theorem dX11_undisturbed_287 : decode cX11_undisturbed 287 = .ok (.aload_n 0, 1) := by decide +kernel
theorem dX11_undisturbed_288 : decode cX11_undisturbed 288 = .ok (.getfield 77, 3) := by decide +kernel
theorem dX11_undisturbed_291 : decode cX11_undisturbed 291 = .ok (.iload_n 3, 1) := by decide +kernel
theorem dX11_undisturbed_292 : decode cX11_undisturbed 292 = .ok (.iaload, 1) := by decide +kernel
theorem dX11_undisturbed_293 : decode cX11_undisturbed 293 = .ok (.if_icmp .ge 51, 3) := by decide +kernel
theorem dX11_undisturbed_296 : decode cX11_undisturbed 296 = .ok (.iload 5, 2) := by decide +kernel
theorem dX11_undisturbed_298 : decode cX11_undisturbed 298 = .ok (.ifCond .eq 37, 3) := by decide +kernel
theorem dX11_undisturbed_301 : decode cX11_undisturbed 301 = .ok (.aload_n 0, 1) := by decide +kernel
theorem dX11_undisturbed_302 : decode cX11_undisturbed 302 = .ok (.getfield 74, 3) := by decide +kernel
theorem dX11_undisturbed_305 : decode cX11_undisturbed 305 = .ok (.sipush 200, 3) := by decide +kernel
theorem dX11_undisturbed_308 : decode cX11_undisturbed 308 = .ok (.iload_n 3, 1) := by decide +kernel
theorem dX11_undisturbed_309 : decode cX11_undisturbed 309 = .ok (.imul, 1) := by decide +kernel
theorem dX11_undisturbed_310 : decode cX11_undisturbed 310 = .ok (.iload 6, 2) := by decide +kernel
theorem dX11_undisturbed_312 : decode cX11_undisturbed 312 = .ok (.iadd, 1) := by decide +kernel
theorem dX11_undisturbed_313 : decode cX11_undisturbed 313 = .ok (.iaload, 1) := by decide +kernel
theorem dX11_undisturbed_314 : decode cX11_undisturbed 314 = .ok (.aload_n 0, 1) := by decide +kernel
theorem dX11_undisturbed_315 : decode cX11_undisturbed 315 = .ok (.getfield 74, 3) := by decide +kernel
theorem dX11_undisturbed_318 : decode cX11_undisturbed 318 = .ok (.sipush 200, 3) := by decide +kernel
theorem dX11_undisturbed_321 : decode cX11_undisturbed 321 = .ok (.iload 4, 2) := by decide +kernel
theorem dX11_undisturbed_323 : decode cX11_undisturbed 323 = .ok (.imul, 1) := by decide +kernel
theorem dX11_undisturbed_324 : decode cX11_undisturbed 324 = .ok (.iload 6, 2) := by decide +kernel
theorem dX11_undisturbed_326 : decode cX11_undisturbed 326 = .ok (.iadd, 1) := by decide +kernel
theorem dX11_undisturbed_327 : decode cX11_undisturbed 327 = .ok (.iaload, 1) := by decide +kernel
theorem dX11_undisturbed_328 : decode cX11_undisturbed 328 = .ok (.if_icmp .ne 7, 3) := by decide +kernel
theorem dX11_undisturbed_331 : decode cX11_undisturbed 331 = .ok (.iconst 1, 1) := by decide +kernel
theorem dX11_undisturbed_332 : decode cX11_undisturbed 332 = .ok (.goto 4, 3) := by decide +kernel
theorem dX11_undisturbed_335 : decode cX11_undisturbed 335 = .ok (.iconst 0, 1) := by decide +kernel
theorem dX11_undisturbed_336 : decode cX11_undisturbed 336 = .ok (.istore 5, 2) := by decide +kernel
theorem dX11_undisturbed_338 : decode cX11_undisturbed 338 = .ok (.iinc 6 1, 3) := by decide +kernel
theorem dX11_undisturbed_341 : decode cX11_undisturbed 341 = .ok (.goto (-56), 3) := by decide +kernel
theorem dX11_undisturbed_344 : decode cX11_undisturbed 344 = .ok (.iconst 0, 1) := by decide +kernel
theorem dX11_undisturbed_345 : decode cX11_undisturbed 345 = .ok (.istore 6, 2) := by decide +kernel
theorem dX11_undisturbed_347 : decode cX11_undisturbed 347 = .ok (.iload 6, 2) := by decide +kernel
theorem dX11_undisturbed_349 : decode cX11_undisturbed 349 = .ok (.aload_n 0, 1) := by decide +kernel
theorem dX11_undisturbed_350 : decode cX11_undisturbed 350 = .ok (.getfield 184, 3) := by decide +kernel
theorem dX11_undisturbed_353 : decode cX11_undisturbed 353 = .ok (.if_icmp .ge 204, 3) := by decide +kernel
theorem dX11_undisturbed_356 : decode cX11_undisturbed 356 = .ok (.iload 5, 2) := by decide +kernel
theorem dX11_undisturbed_358 : decode cX11_undisturbed 358 = .ok (.ifCond .eq 199, 3) := by decide +kernel
theorem dX11_undisturbed_361 : decode cX11_undisturbed 361 = .ok (.iload 6, 2) := by decide +kernel
theorem dX11_undisturbed_363 : decode cX11_undisturbed 363 = .ok (.istore 7, 2) := by decide +kernel
theorem dX11_undisturbed_365 : decode cX11_undisturbed 365 = .ok (.bipush 24, 2) := by decide +kernel
theorem dX11_undisturbed_367 : decode cX11_undisturbed 367 = .ok (.iload 6, 2) := by decide +kernel
theorem dX11_undisturbed_369 : decode cX11_undisturbed 369 = .ok (.iadd, 1) := by decide +kernel
theorem dX11_undisturbed_370 : decode cX11_undisturbed 370 = .ok (.istore 8, 2) := by decide +kernel
theorem dX11_undisturbed_372 : decode cX11_undisturbed 372 = .ok (.aload_n 0, 1) := by decide +kernel
theorem dX11_undisturbed_373 : decode cX11_undisturbed 373 = .ok (.getfield 17, 3) := by decide +kernel
theorem dX11_undisturbed_376 : decode cX11_undisturbed 376 = .ok (.iload 6, 2) := by decide +kernel
theorem dX11_undisturbed_378 : decode cX11_undisturbed 378 = .ok (.iaload, 1) := by decide +kernel
theorem dX11_undisturbed_379 : decode cX11_undisturbed 379 = .ok (.iload_n 1, 1) := by decide +kernel
theorem dX11_undisturbed_380 : decode cX11_undisturbed 380 = .ok (.if_icmp .ne 171, 3) := by decide +kernel
theorem dX11_undisturbed_383 : decode cX11_undisturbed 383 = .ok (.aload_n 0, 1) := by decide +kernel
theorem dX11_undisturbed_384 : decode cX11_undisturbed 384 = .ok (.getfield 95, 3) := by decide +kernel
theorem dX11_undisturbed_387 : decode cX11_undisturbed 387 = .ok (.iload 7, 2) := by decide +kernel
theorem dX11_undisturbed_389 : decode cX11_undisturbed 389 = .ok (.iaload, 1) := by decide +kernel
theorem dX11_undisturbed_390 : decode cX11_undisturbed 390 = .ok (.aload_n 0, 1) := by decide +kernel
theorem dX11_undisturbed_391 : decode cX11_undisturbed 391 = .ok (.getfield 95, 3) := by decide +kernel
theorem dX11_undisturbed_394 : decode cX11_undisturbed 394 = .ok (.iload 8, 2) := by decide +kernel
theorem dX11_undisturbed_396 : decode cX11_undisturbed 396 = .ok (.iaload, 1) := by decide +kernel
theorem dX11_undisturbed_397 : decode cX11_undisturbed 397 = .ok (.if_icmp .ne 97, 3) := by decide +kernel
theorem dX11_undisturbed_400 : decode cX11_undisturbed 400 = .ok (.aload_n 0, 1) := by decide +kernel
theorem dX11_undisturbed_401 : decode cX11_undisturbed 401 = .ok (.getfield 104, 3) := by decide +kernel
theorem dX11_undisturbed_404 : decode cX11_undisturbed 404 = .ok (.iload 7, 2) := by decide +kernel
theorem dX11_undisturbed_406 : decode cX11_undisturbed 406 = .ok (.iaload, 1) := by decide +kernel
theorem dX11_undisturbed_407 : decode cX11_undisturbed 407 = .ok (.aload_n 0, 1) := by decide +kernel
theorem dX11_undisturbed_408 : decode cX11_undisturbed 408 = .ok (.getfield 104, 3) := by decide +kernel
theorem dX11_undisturbed_411 : decode cX11_undisturbed 411 = .ok (.iload 8, 2) := by decide +kernel
theorem dX11_undisturbed_413 : decode cX11_undisturbed 413 = .ok (.iaload, 1) := by decide +kernel
theorem dX11_undisturbed_414 : decode cX11_undisturbed 414 = .ok (.if_icmp .ne 80, 3) := by decide +kernel
theorem dX11_undisturbed_417 : decode cX11_undisturbed 417 = .ok (.aload_n 0, 1) := by decide +kernel
theorem dX11_undisturbed_418 : decode cX11_undisturbed 418 = .ok (.aload_n 0, 1) := by decide +kernel
theorem dX11_undisturbed_419 : decode cX11_undisturbed 419 = .ok (.getfield 89, 3) := by decide +kernel
theorem dX11_undisturbed_422 : decode cX11_undisturbed 422 = .ok (.iload 7, 2) := by decide +kernel
theorem dX11_undisturbed_424 : decode cX11_undisturbed 424 = .ok (.iaload, 1) := by decide +kernel
theorem dX11_undisturbed_425 : decode cX11_undisturbed 425 = .ok (.aload_n 0, 1) := by decide +kernel
theorem dX11_undisturbed_426 : decode cX11_undisturbed 426 = .ok (.getfield 89, 3) := by decide +kernel
theorem dX11_undisturbed_429 : decode cX11_undisturbed 429 = .ok (.iload 8, 2) := by decide +kernel
theorem dX11_undisturbed_431 : decode cX11_undisturbed 431 = .ok (.iaload, 1) := by decide +kernel
theorem dX11_undisturbed_432 : decode cX11_undisturbed 432 = .ok (.aload_n 0, 1) := by decide +kernel
theorem dX11_undisturbed_433 : decode cX11_undisturbed 433 = .ok (.getfield 95, 3) := by decide +kernel
theorem dX11_undisturbed_436 : decode cX11_undisturbed 436 = .ok (.iload 7, 2) := by decide +kernel
theorem dX11_undisturbed_438 : decode cX11_undisturbed 438 = .ok (.iaload, 1) := by decide +kernel
theorem dX11_undisturbed_439 : decode cX11_undisturbed 439 = .ok (.invokevirtual 260, 3) := by decide +kernel
theorem dX11_undisturbed_442 : decode cX11_undisturbed 442 = .ok (.ifCond .eq 52, 3) := by decide +kernel
theorem dX11_undisturbed_445 : decode cX11_undisturbed 445 = .ok (.aload_n 0, 1) := by decide +kernel
theorem dX11_undisturbed_446 : decode cX11_undisturbed 446 = .ok (.aload_n 0, 1) := by decide +kernel
theorem dX11_undisturbed_447 : decode cX11_undisturbed 447 = .ok (.getfield 98, 3) := by decide +kernel
theorem dX11_undisturbed_450 : decode cX11_undisturbed 450 = .ok (.iload 7, 2) := by decide +kernel
theorem dX11_undisturbed_452 : decode cX11_undisturbed 452 = .ok (.iaload, 1) := by decide +kernel
theorem dX11_undisturbed_453 : decode cX11_undisturbed 453 = .ok (.aload_n 0, 1) := by decide +kernel
theorem dX11_undisturbed_454 : decode cX11_undisturbed 454 = .ok (.getfield 98, 3) := by decide +kernel
theorem dX11_undisturbed_457 : decode cX11_undisturbed 457 = .ok (.iload 8, 2) := by decide +kernel
theorem dX11_undisturbed_459 : decode cX11_undisturbed 459 = .ok (.iaload, 1) := by decide +kernel
theorem dX11_undisturbed_460 : decode cX11_undisturbed 460 = .ok (.aload_n 0, 1) := by decide +kernel
theorem dX11_undisturbed_461 : decode cX11_undisturbed 461 = .ok (.getfield 104, 3) := by decide +kernel
theorem dX11_undisturbed_464 : decode cX11_undisturbed 464 = .ok (.iload 7, 2) := by decide +kernel
theorem dX11_undisturbed_466 : decode cX11_undisturbed 466 = .ok (.iaload, 1) := by decide +kernel
theorem dX11_undisturbed_467 : decode cX11_undisturbed 467 = .ok (.invokevirtual 260, 3) := by decide +kernel
theorem dX11_undisturbed_470 : decode cX11_undisturbed 470 = .ok (.ifCond .eq 24, 3) := by decide +kernel
theorem dX11_undisturbed_473 : decode cX11_undisturbed 473 = .ok (.aload_n 0, 1) := by decide +kernel
theorem dX11_undisturbed_474 : decode cX11_undisturbed 474 = .ok (.iconst 0, 1) := by decide +kernel
theorem dX11_undisturbed_475 : decode cX11_undisturbed 475 = .ok (.iload 7, 2) := by decide +kernel
theorem dX11_undisturbed_477 : decode cX11_undisturbed 477 = .ok (.invokevirtual 227, 3) := by decide +kernel
theorem dX11_undisturbed_480 : decode cX11_undisturbed 480 = .ok (.aload_n 0, 1) := by decide +kernel
theorem dX11_undisturbed_481 : decode cX11_undisturbed 481 = .ok (.iconst 2, 1) := by decide +kernel
theorem dX11_undisturbed_482 : decode cX11_undisturbed 482 = .ok (.iload 8, 2) := by decide +kernel
theorem dX11_undisturbed_484 : decode cX11_undisturbed 484 = .ok (.invokevirtual 227, 3) := by decide +kernel
theorem dX11_undisturbed_487 : decode cX11_undisturbed 487 = .ok (.if_icmp .ne 7, 3) := by decide +kernel
theorem dX11_undisturbed_490 : decode cX11_undisturbed 490 = .ok (.iconst 1, 1) := by decide +kernel
theorem dX11_undisturbed_491 : decode cX11_undisturbed 491 = .ok (.goto 4, 3) := by decide +kernel
theorem dX11_undisturbed_494 : decode cX11_undisturbed 494 = .ok (.iconst 0, 1) := by decide +kernel
theorem dX11_undisturbed_495 : decode cX11_undisturbed 495 = .ok (.istore 5, 2) := by decide +kernel
theorem dX11_undisturbed_497 : decode cX11_undisturbed 497 = .ok (.iconst 0, 1) := by decide +kernel
theorem dX11_undisturbed_498 : decode cX11_undisturbed 498 = .ok (.istore 9, 2) := by decide +kernel
theorem dX11_undisturbed_500 : decode cX11_undisturbed 500 = .ok (.iload 9, 2) := by decide +kernel
theorem dX11_undisturbed_502 : decode cX11_undisturbed 502 = .ok (.iconst 4, 1) := by decide +kernel
theorem dX11_undisturbed_503 : decode cX11_undisturbed 503 = .ok (.if_icmp .ge 48, 3) := by decide +kernel
theorem dX11_undisturbed_506 : decode cX11_undisturbed 506 = .ok (.iload 5, 2) := by decide +kernel
theorem dX11_undisturbed_508 : decode cX11_undisturbed 508 = .ok (.ifCond .eq 34, 3) := by decide +kernel
theorem dX11_undisturbed_511 : decode cX11_undisturbed 511 = .ok (.aload_n 0, 1) := by decide +kernel
theorem dX11_undisturbed_512 : decode cX11_undisturbed 512 = .ok (.getfield 113, 3) := by decide +kernel
theorem dX11_undisturbed_515 : decode cX11_undisturbed 515 = .ok (.iconst 4, 1) := by decide +kernel
theorem dX11_undisturbed_516 : decode cX11_undisturbed 516 = .ok (.iload 7, 2) := by decide +kernel
theorem dX11_undisturbed_518 : decode cX11_undisturbed 518 = .ok (.imul, 1) := by decide +kernel
theorem dX11_undisturbed_519 : decode cX11_undisturbed 519 = .ok (.iload 9, 2) := by decide +kernel
theorem dX11_undisturbed_521 : decode cX11_undisturbed 521 = .ok (.iadd, 1) := by decide +kernel
theorem dX11_undisturbed_522 : decode cX11_undisturbed 522 = .ok (.iaload, 1) := by decide +kernel
theorem dX11_undisturbed_523 : decode cX11_undisturbed 523 = .ok (.aload_n 0, 1) := by decide +kernel
theorem dX11_undisturbed_524 : decode cX11_undisturbed 524 = .ok (.getfield 113, 3) := by decide +kernel
theorem dX11_undisturbed_527 : decode cX11_undisturbed 527 = .ok (.iconst 4, 1) := by decide +kernel
theorem dX11_undisturbed_528 : decode cX11_undisturbed 528 = .ok (.iload 8, 2) := by decide +kernel
theorem dX11_undisturbed_530 : decode cX11_undisturbed 530 = .ok (.imul, 1) := by decide +kernel
theorem dX11_undisturbed_531 : decode cX11_undisturbed 531 = .ok (.iload 9, 2) := by decide +kernel
theorem dX11_undisturbed_533 : decode cX11_undisturbed 533 = .ok (.iadd, 1) := by decide +kernel
theorem dX11_undisturbed_534 : decode cX11_undisturbed 534 = .ok (.iaload, 1) := by decide +kernel
theorem dX11_undisturbed_535 : decode cX11_undisturbed 535 = .ok (.if_icmp .ne 7, 3) := by decide +kernel
theorem dX11_undisturbed_538 : decode cX11_undisturbed 538 = .ok (.iconst 1, 1) := by decide +kernel
theorem dX11_undisturbed_539 : decode cX11_undisturbed 539 = .ok (.goto 4, 3) := by decide +kernel
theorem dX11_undisturbed_542 : decode cX11_undisturbed 542 = .ok (.iconst 0, 1) := by decide +kernel
theorem dX11_undisturbed_543 : decode cX11_undisturbed 543 = .ok (.istore 5, 2) := by decide +kernel
theorem dX11_undisturbed_545 : decode cX11_undisturbed 545 = .ok (.iinc 9 1, 3) := by decide +kernel
theorem dX11_undisturbed_548 : decode cX11_undisturbed 548 = .ok (.goto (-48), 3) := by decide +kernel
theorem dX11_undisturbed_551 : decode cX11_undisturbed 551 = .ok (.iinc 6 1, 3) := by decide +kernel
theorem dX11_undisturbed_554 : decode cX11_undisturbed 554 = .ok (.goto (-207), 3) := by decide +kernel
theorem dX11_undisturbed_557 : decode cX11_undisturbed 557 = .ok (.iload 5, 2) := by decide +kernel
