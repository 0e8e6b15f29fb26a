theorem dl_609 : decode code 609 = .ok (.iconst 1, 1) := by decide +kernel
theorem dl_610 : decode code 610 = .ok (.iadd, 1) := by decide +kernel
theorem dl_611 : decode code 611 = .ok (.iaload, 1) := by decide +kernel
theorem dl_612 : decode code 612 = .ok (.aload_n 3, 1) := by decide +kernel
theorem dl_613 : decode code 613 = .ok (.invokestatic 125, 3) := by decide +kernel
theorem dl_616 : decode code 616 = .ok (.istore 5, 2) := by decide +kernel
theorem dl_618 : decode code 618 = .ok (.aload_n 2, 1) := by decide +kernel
theorem dl_619 : decode code 619 = .ok (.aload_n 0, 1) := by decide +kernel
theorem dl_620 : decode code 620 = .ok (.iload 4, 2) := by decide +kernel
theorem dl_622 : decode code 622 = .ok (.iconst 1, 1) := by decide +kernel
theorem dl_623 : decode code 623 = .ok (.iadd, 1) := by decide +kernel
theorem dl_624 : decode code 624 = .ok (.iaload, 1) := by decide +kernel
theorem dl_625 : decode code 625 = .ok (.invokevirtual 127, 3) := by decide +kernel
theorem dl_628 : decode code 628 = .ok (.istore 6, 2) := by decide +kernel
theorem dl_630 : decode code 630 = .ok (.goto 43, 3) := by decide +kernel
theorem dl_633 : decode code 633 = .ok (.aload_n 1, 1) := by decide +kernel
theorem dl_634 : decode code 634 = .ok (.aload_n 0, 1) := by decide +kernel
theorem dl_635 : decode code 635 = .ok (.iload 4, 2) := by decide +kernel
theorem dl_637 : decode code 637 = .ok (.iconst 1, 1) := by decide +kernel
theorem dl_638 : decode code 638 = .ok (.iadd, 1) := by decide +kernel
theorem dl_639 : decode code 639 = .ok (.iaload, 1) := by decide +kernel
theorem dl_640 : decode code 640 = .ok (.aload_n 0, 1) := by decide +kernel
theorem dl_641 : decode code 641 = .ok (.iload 4, 2) := by decide +kernel
theorem dl_643 : decode code 643 = .ok (.iconst 2, 1) := by decide +kernel
theorem dl_644 : decode code 644 = .ok (.iadd, 1) := by decide +kernel
theorem dl_645 : decode code 645 = .ok (.iaload, 1) := by decide +kernel
theorem dl_646 : decode code 646 = .ok (.aload_n 3, 1) := by decide +kernel
theorem dl_647 : decode code 647 = .ok (.invokestatic 128, 3) := by decide +kernel
theorem dl_650 : decode code 650 = .ok (.istore 5, 2) := by decide +kernel
theorem dl_652 : decode code 652 = .ok (.aload_n 2, 1) := by decide +kernel
theorem dl_653 : decode code 653 = .ok (.aload_n 0, 1) := by decide +kernel
theorem dl_654 : decode code 654 = .ok (.iload 4, 2) := by decide +kernel
theorem dl_656 : decode code 656 = .ok (.iconst 1, 1) := by decide +kernel
theorem dl_657 : decode code 657 = .ok (.iadd, 1) := by decide +kernel
theorem dl_658 : decode code 658 = .ok (.iaload, 1) := by decide +kernel
theorem dl_659 : decode code 659 = .ok (.aload_n 0, 1) := by decide +kernel
theorem dl_660 : decode code 660 = .ok (.iload 4, 2) := by decide +kernel
theorem dl_662 : decode code 662 = .ok (.iconst 2, 1) := by decide +kernel
theorem dl_663 : decode code 663 = .ok (.iadd, 1) := by decide +kernel
theorem dl_664 : decode code 664 = .ok (.iaload, 1) := by decide +kernel
theorem dl_665 : decode code 665 = .ok (.invokevirtual 131, 3) := by decide +kernel
theorem dl_668 : decode code 668 = .ok (.istore 6, 2) := by decide +kernel
theorem dl_670 : decode code 670 = .ok (.goto 3, 3) := by decide +kernel
theorem dl_673 : decode code 673 = .ok (.iinc 4 3, 3) := by decide +kernel
theorem dl_676 : decode code 676 = .ok (.goto (-653), 3) := by decide +kernel
theorem dl_679 : decode code 679 = .ok (.iconst 1, 1) := by decide +kernel
theorem dl_680 : decode code 680 = .ok (.ireturn, 1) := by decide +kernel
