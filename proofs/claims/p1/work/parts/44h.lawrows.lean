theorem dl_706 : decode code 706 = .ok (.i2l, 1) := by decide +kernel
theorem dl_707 : decode code 707 = .ok (.lcmp, 1) := by decide +kernel
theorem dl_708 : decode code 708 = .ok (.ifCond .eq 5, 3) := by decide +kernel
theorem dl_711 : decode code 711 = .ok (.iconst 0, 1) := by decide +kernel
theorem dl_712 : decode code 712 = .ok (.ireturn, 1) := by decide +kernel
theorem dl_713 : decode code 713 = .ok (.goto 127, 3) := by decide +kernel
theorem dl_716 : decode code 716 = .ok (.aload_n 1, 1) := by decide +kernel
theorem dl_717 : decode code 717 = .ok (.aload_n 0, 1) := by decide +kernel
theorem dl_718 : decode code 718 = .ok (.iload 4, 2) := by decide +kernel
theorem dl_720 : decode code 720 = .ok (.iconst 1, 1) := by decide +kernel
theorem dl_721 : decode code 721 = .ok (.iadd, 1) := by decide +kernel
theorem dl_722 : decode code 722 = .ok (.iaload, 1) := by decide +kernel
theorem dl_723 : decode code 723 = .ok (.aload_n 3, 1) := by decide +kernel
theorem dl_724 : decode code 724 = .ok (.invokestatic 128, 3) := by decide +kernel
theorem dl_727 : decode code 727 = .ok (.istore 5, 2) := by decide +kernel
theorem dl_729 : decode code 729 = .ok (.aload_n 2, 1) := by decide +kernel
theorem dl_730 : decode code 730 = .ok (.aload_n 0, 1) := by decide +kernel
theorem dl_731 : decode code 731 = .ok (.iload 4, 2) := by decide +kernel
theorem dl_733 : decode code 733 = .ok (.iconst 1, 1) := by decide +kernel
theorem dl_734 : decode code 734 = .ok (.iadd, 1) := by decide +kernel
theorem dl_735 : decode code 735 = .ok (.iaload, 1) := by decide +kernel
theorem dl_736 : decode code 736 = .ok (.invokevirtual 130, 3) := by decide +kernel
theorem dl_739 : decode code 739 = .ok (.istore 6, 2) := by decide +kernel
theorem dl_741 : decode code 741 = .ok (.aload_n 2, 1) := by decide +kernel
theorem dl_742 : decode code 742 = .ok (.invokevirtual 59, 3) := by decide +kernel
theorem dl_745 : decode code 745 = .ok (.iload 5, 2) := by decide +kernel
theorem dl_747 : decode code 747 = .ok (.if_icmp .eq 5, 3) := by decide +kernel
theorem dl_750 : decode code 750 = .ok (.iconst 0, 1) := by decide +kernel
theorem dl_751 : decode code 751 = .ok (.ireturn, 1) := by decide +kernel
theorem dl_752 : decode code 752 = .ok (.iload 5, 2) := by decide +kernel
theorem dl_754 : decode code 754 = .ok (.ifCond .ne 15, 3) := by decide +kernel
theorem dl_757 : decode code 757 = .ok (.aload_n 3, 1) := by decide +kernel
theorem dl_758 : decode code 758 = .ok (.iconst 0, 1) := by decide +kernel
theorem dl_759 : decode code 759 = .ok (.laload, 1) := by decide +kernel
theorem dl_760 : decode code 760 = .ok (.iload 6, 2) := by decide +kernel
theorem dl_762 : decode code 762 = .ok (.i2l, 1) := by decide +kernel
theorem dl_763 : decode code 763 = .ok (.lcmp, 1) := by decide +kernel
theorem dl_764 : decode code 764 = .ok (.ifCond .eq 5, 3) := by decide +kernel
theorem dl_767 : decode code 767 = .ok (.iconst 0, 1) := by decide +kernel
theorem dl_768 : decode code 768 = .ok (.ireturn, 1) := by decide +kernel
theorem dl_769 : decode code 769 = .ok (.goto 71, 3) := by decide +kernel
theorem dl_772 : decode code 772 = .ok (.aload_n 1, 1) := by decide +kernel
theorem dl_773 : decode code 773 = .ok (.aload_n 0, 1) := by decide +kernel
theorem dl_774 : decode code 774 = .ok (.iload 4, 2) := by decide +kernel
theorem dl_776 : decode code 776 = .ok (.iconst 1, 1) := by decide +kernel
theorem dl_777 : decode code 777 = .ok (.iadd, 1) := by decide +kernel
theorem dl_778 : decode code 778 = .ok (.iaload, 1) := by decide +kernel
theorem dl_779 : decode code 779 = .ok (.aload_n 0, 1) := by decide +kernel
theorem dl_780 : decode code 780 = .ok (.iload 4, 2) := by decide +kernel
theorem dl_782 : decode code 782 = .ok (.iconst 2, 1) := by decide +kernel
theorem dl_783 : decode code 783 = .ok (.iadd, 1) := by decide +kernel
theorem dl_784 : decode code 784 = .ok (.iaload, 1) := by decide +kernel
theorem dl_785 : decode code 785 = .ok (.aload_n 3, 1) := by decide +kernel
theorem dl_786 : decode code 786 = .ok (.invokestatic 131, 3) := by decide +kernel
theorem dl_789 : decode code 789 = .ok (.istore 5, 2) := by decide +kernel
