theorem dl_616 : decode code 616 = .ok (.invokevirtual 120, 3) := by decide +kernel
theorem dl_619 : decode code 619 = .ok (.if_icmp .eq 221, 3) := by decide +kernel
theorem dl_622 : decode code 622 = .ok (.iconst 0, 1) := by decide +kernel
theorem dl_623 : decode code 623 = .ok (.ireturn, 1) := by decide +kernel
theorem dl_624 : decode code 624 = .ok (.aload_n 1, 1) := by decide +kernel
theorem dl_625 : decode code 625 = .ok (.aload_n 0, 1) := by decide +kernel
theorem dl_626 : decode code 626 = .ok (.iload 4, 2) := by decide +kernel
theorem dl_628 : decode code 628 = .ok (.iconst 1, 1) := by decide +kernel
theorem dl_629 : decode code 629 = .ok (.iadd, 1) := by decide +kernel
theorem dl_630 : decode code 630 = .ok (.iaload, 1) := by decide +kernel
theorem dl_631 : decode code 631 = .ok (.invokestatic 121, 3) := by decide +kernel
theorem dl_634 : decode code 634 = .ok (.istore 5, 2) := by decide +kernel
theorem dl_636 : decode code 636 = .ok (.aload_n 2, 1) := by decide +kernel
theorem dl_637 : decode code 637 = .ok (.aload_n 0, 1) := by decide +kernel
theorem dl_638 : decode code 638 = .ok (.iload 4, 2) := by decide +kernel
theorem dl_640 : decode code 640 = .ok (.iconst 1, 1) := by decide +kernel
theorem dl_641 : decode code 641 = .ok (.iadd, 1) := by decide +kernel
theorem dl_642 : decode code 642 = .ok (.iaload, 1) := by decide +kernel
theorem dl_643 : decode code 643 = .ok (.invokevirtual 124, 3) := by decide +kernel
theorem dl_646 : decode code 646 = .ok (.aload_n 2, 1) := by decide +kernel
theorem dl_647 : decode code 647 = .ok (.invokevirtual 59, 3) := by decide +kernel
theorem dl_650 : decode code 650 = .ok (.iload 5, 2) := by decide +kernel
theorem dl_652 : decode code 652 = .ok (.if_icmp .eq 5, 3) := by decide +kernel
theorem dl_655 : decode code 655 = .ok (.iconst 0, 1) := by decide +kernel
theorem dl_656 : decode code 656 = .ok (.ireturn, 1) := by decide +kernel
theorem dl_657 : decode code 657 = .ok (.goto 183, 3) := by decide +kernel
theorem dl_660 : decode code 660 = .ok (.aload_n 1, 1) := by decide +kernel
theorem dl_661 : decode code 661 = .ok (.aload_n 0, 1) := by decide +kernel
theorem dl_662 : decode code 662 = .ok (.iload 4, 2) := by decide +kernel
theorem dl_664 : decode code 664 = .ok (.iconst 1, 1) := by decide +kernel
theorem dl_665 : decode code 665 = .ok (.iadd, 1) := by decide +kernel
theorem dl_666 : decode code 666 = .ok (.iaload, 1) := by decide +kernel
theorem dl_667 : decode code 667 = .ok (.aload_n 3, 1) := by decide +kernel
theorem dl_668 : decode code 668 = .ok (.invokestatic 125, 3) := by decide +kernel
theorem dl_671 : decode code 671 = .ok (.istore 5, 2) := by decide +kernel
theorem dl_673 : decode code 673 = .ok (.aload_n 2, 1) := by decide +kernel
theorem dl_674 : decode code 674 = .ok (.aload_n 0, 1) := by decide +kernel
theorem dl_675 : decode code 675 = .ok (.iload 4, 2) := by decide +kernel
theorem dl_677 : decode code 677 = .ok (.iconst 1, 1) := by decide +kernel
theorem dl_678 : decode code 678 = .ok (.iadd, 1) := by decide +kernel
theorem dl_679 : decode code 679 = .ok (.iaload, 1) := by decide +kernel
theorem dl_680 : decode code 680 = .ok (.invokevirtual 127, 3) := by decide +kernel
theorem dl_683 : decode code 683 = .ok (.istore 6, 2) := by decide +kernel
theorem dl_685 : decode code 685 = .ok (.aload_n 2, 1) := by decide +kernel
theorem dl_686 : decode code 686 = .ok (.invokevirtual 59, 3) := by decide +kernel
theorem dl_689 : decode code 689 = .ok (.iload 5, 2) := by decide +kernel
theorem dl_691 : decode code 691 = .ok (.if_icmp .eq 5, 3) := by decide +kernel
theorem dl_694 : decode code 694 = .ok (.iconst 0, 1) := by decide +kernel
theorem dl_695 : decode code 695 = .ok (.ireturn, 1) := by decide +kernel
theorem dl_696 : decode code 696 = .ok (.iload 5, 2) := by decide +kernel
theorem dl_698 : decode code 698 = .ok (.ifCond .ne 15, 3) := by decide +kernel
theorem dl_701 : decode code 701 = .ok (.aload_n 3, 1) := by decide +kernel
theorem dl_702 : decode code 702 = .ok (.iconst 0, 1) := by decide +kernel
theorem dl_703 : decode code 703 = .ok (.laload, 1) := by decide +kernel
theorem dl_704 : decode code 704 = .ok (.iload 6, 2) := by decide +kernel
