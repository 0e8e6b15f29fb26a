theorem dl_528 : decode code 528 = .ok (.aload_n 0, 1) := by decide +kernel
theorem dl_529 : decode code 529 = .ok (.iload 4, 2) := by decide +kernel
theorem dl_531 : decode code 531 = .ok (.iconst 1, 1) := by decide +kernel
theorem dl_532 : decode code 532 = .ok (.iadd, 1) := by decide +kernel
theorem dl_533 : decode code 533 = .ok (.iaload, 1) := by decide +kernel
theorem dl_534 : decode code 534 = .ok (.ifCond .eq 7, 3) := by decide +kernel
theorem dl_537 : decode code 537 = .ok (.iconst 1, 1) := by decide +kernel
theorem dl_538 : decode code 538 = .ok (.goto 4, 3) := by decide +kernel
theorem dl_541 : decode code 541 = .ok (.iconst 0, 1) := by decide +kernel
theorem dl_542 : decode code 542 = .ok (.invokevirtual 103, 3) := by decide +kernel
theorem dl_545 : decode code 545 = .ok (.goto 295, 3) := by decide +kernel
theorem dl_548 : decode code 548 = .ok (.aload_n 1, 1) := by decide +kernel
theorem dl_549 : decode code 549 = .ok (.aload_n 0, 1) := by decide +kernel
theorem dl_550 : decode code 550 = .ok (.iload 4, 2) := by decide +kernel
theorem dl_552 : decode code 552 = .ok (.iconst 1, 1) := by decide +kernel
theorem dl_553 : decode code 553 = .ok (.iadd, 1) := by decide +kernel
theorem dl_554 : decode code 554 = .ok (.iaload, 1) := by decide +kernel
theorem dl_555 : decode code 555 = .ok (.invokevirtual 104, 3) := by decide +kernel
theorem dl_558 : decode code 558 = .ok (.aload_n 2, 1) := by decide +kernel
theorem dl_559 : decode code 559 = .ok (.aload_n 0, 1) := by decide +kernel
theorem dl_560 : decode code 560 = .ok (.iload 4, 2) := by decide +kernel
theorem dl_562 : decode code 562 = .ok (.iconst 1, 1) := by decide +kernel
theorem dl_563 : decode code 563 = .ok (.iadd, 1) := by decide +kernel
theorem dl_564 : decode code 564 = .ok (.iaload, 1) := by decide +kernel
theorem dl_565 : decode code 565 = .ok (.invokevirtual 107, 3) := by decide +kernel
theorem dl_568 : decode code 568 = .ok (.if_icmp .eq 272, 3) := by decide +kernel
theorem dl_571 : decode code 571 = .ok (.iconst 0, 1) := by decide +kernel
theorem dl_572 : decode code 572 = .ok (.ireturn, 1) := by decide +kernel
theorem dl_573 : decode code 573 = .ok (.aload_n 1, 1) := by decide +kernel
theorem dl_574 : decode code 574 = .ok (.aload_n 0, 1) := by decide +kernel
theorem dl_575 : decode code 575 = .ok (.iload 4, 2) := by decide +kernel
theorem dl_577 : decode code 577 = .ok (.iconst 1, 1) := by decide +kernel
theorem dl_578 : decode code 578 = .ok (.iadd, 1) := by decide +kernel
theorem dl_579 : decode code 579 = .ok (.iaload, 1) := by decide +kernel
theorem dl_580 : decode code 580 = .ok (.invokevirtual 108, 3) := by decide +kernel
theorem dl_583 : decode code 583 = .ok (.aload_n 2, 1) := by decide +kernel
theorem dl_584 : decode code 584 = .ok (.aload_n 0, 1) := by decide +kernel
theorem dl_585 : decode code 585 = .ok (.iload 4, 2) := by decide +kernel
theorem dl_587 : decode code 587 = .ok (.iconst 1, 1) := by decide +kernel
theorem dl_588 : decode code 588 = .ok (.iadd, 1) := by decide +kernel
theorem dl_589 : decode code 589 = .ok (.iaload, 1) := by decide +kernel
theorem dl_590 : decode code 590 = .ok (.invokevirtual 111, 3) := by decide +kernel
theorem dl_593 : decode code 593 = .ok (.if_icmp .eq 247, 3) := by decide +kernel
theorem dl_596 : decode code 596 = .ok (.iconst 0, 1) := by decide +kernel
theorem dl_597 : decode code 597 = .ok (.ireturn, 1) := by decide +kernel
theorem dl_598 : decode code 598 = .ok (.aload_n 1, 1) := by decide +kernel
theorem dl_599 : decode code 599 = .ok (.invokevirtual 112, 3) := by decide +kernel
theorem dl_602 : decode code 602 = .ok (.aload_n 2, 1) := by decide +kernel
theorem dl_603 : decode code 603 = .ok (.invokevirtual 116, 3) := by decide +kernel
theorem dl_606 : decode code 606 = .ok (.if_icmp .eq 234, 3) := by decide +kernel
theorem dl_609 : decode code 609 = .ok (.iconst 0, 1) := by decide +kernel
theorem dl_610 : decode code 610 = .ok (.ireturn, 1) := by decide +kernel
theorem dl_611 : decode code 611 = .ok (.aload_n 1, 1) := by decide +kernel
theorem dl_612 : decode code 612 = .ok (.invokevirtual 117, 3) := by decide +kernel
theorem dl_615 : decode code 615 = .ok (.aload_n 2, 1) := by decide +kernel
