theorem dl_791 : decode code 791 = .ok (.aload_n 2, 1) := by decide +kernel
theorem dl_792 : decode code 792 = .ok (.aload_n 0, 1) := by decide +kernel
theorem dl_793 : decode code 793 = .ok (.iload 4, 2) := by decide +kernel
theorem dl_795 : decode code 795 = .ok (.iconst 1, 1) := by decide +kernel
theorem dl_796 : decode code 796 = .ok (.iadd, 1) := by decide +kernel
theorem dl_797 : decode code 797 = .ok (.iaload, 1) := by decide +kernel
theorem dl_798 : decode code 798 = .ok (.aload_n 0, 1) := by decide +kernel
theorem dl_799 : decode code 799 = .ok (.iload 4, 2) := by decide +kernel
theorem dl_801 : decode code 801 = .ok (.iconst 2, 1) := by decide +kernel
theorem dl_802 : decode code 802 = .ok (.iadd, 1) := by decide +kernel
theorem dl_803 : decode code 803 = .ok (.iaload, 1) := by decide +kernel
theorem dl_804 : decode code 804 = .ok (.invokevirtual 134, 3) := by decide +kernel
theorem dl_807 : decode code 807 = .ok (.istore 6, 2) := by decide +kernel
theorem dl_809 : decode code 809 = .ok (.aload_n 2, 1) := by decide +kernel
theorem dl_810 : decode code 810 = .ok (.invokevirtual 59, 3) := by decide +kernel
theorem dl_813 : decode code 813 = .ok (.iload 5, 2) := by decide +kernel
theorem dl_815 : decode code 815 = .ok (.if_icmp .eq 5, 3) := by decide +kernel
theorem dl_818 : decode code 818 = .ok (.iconst 0, 1) := by decide +kernel
theorem dl_819 : decode code 819 = .ok (.ireturn, 1) := by decide +kernel
theorem dl_820 : decode code 820 = .ok (.iload 5, 2) := by decide +kernel
theorem dl_822 : decode code 822 = .ok (.ifCond .ne 15, 3) := by decide +kernel
theorem dl_825 : decode code 825 = .ok (.aload_n 3, 1) := by decide +kernel
theorem dl_826 : decode code 826 = .ok (.iconst 0, 1) := by decide +kernel
theorem dl_827 : decode code 827 = .ok (.laload, 1) := by decide +kernel
theorem dl_828 : decode code 828 = .ok (.iload 6, 2) := by decide +kernel
theorem dl_830 : decode code 830 = .ok (.i2l, 1) := by decide +kernel
theorem dl_831 : decode code 831 = .ok (.lcmp, 1) := by decide +kernel
theorem dl_832 : decode code 832 = .ok (.ifCond .eq 5, 3) := by decide +kernel
theorem dl_835 : decode code 835 = .ok (.iconst 0, 1) := by decide +kernel
theorem dl_836 : decode code 836 = .ok (.ireturn, 1) := by decide +kernel
theorem dl_837 : decode code 837 = .ok (.goto 3, 3) := by decide +kernel
theorem dl_840 : decode code 840 = .ok (.iinc 4 3, 3) := by decide +kernel
theorem dl_843 : decode code 843 = .ok (.goto (-820), 3) := by decide +kernel
theorem dl_846 : decode code 846 = .ok (.iconst 1, 1) := by decide +kernel
theorem dl_847 : decode code 847 = .ok (.ireturn, 1) := by decide +kernel
