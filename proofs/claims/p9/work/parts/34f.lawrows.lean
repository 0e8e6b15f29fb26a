theorem dl_518 : decode code 518 = .ok (.iaload, 1) := by decide +kernel
theorem dl_519 : decode code 519 = .ok (.invokevirtual 107, 3) := by decide +kernel
theorem dl_522 : decode code 522 = .ok (.pop, 1) := by decide +kernel
theorem dl_523 : decode code 523 = .ok (.goto 150, 3) := by decide +kernel
theorem dl_526 : decode code 526 = .ok (.aload_n 1, 1) := by decide +kernel
theorem dl_527 : decode code 527 = .ok (.invokevirtual 108, 3) := by decide +kernel
theorem dl_530 : decode code 530 = .ok (.pop, 1) := by decide +kernel
theorem dl_531 : decode code 531 = .ok (.aload_n 2, 1) := by decide +kernel
theorem dl_532 : decode code 532 = .ok (.invokevirtual 112, 3) := by decide +kernel
theorem dl_535 : decode code 535 = .ok (.pop, 1) := by decide +kernel
theorem dl_536 : decode code 536 = .ok (.goto 137, 3) := by decide +kernel
theorem dl_539 : decode code 539 = .ok (.aload_n 1, 1) := by decide +kernel
theorem dl_540 : decode code 540 = .ok (.invokevirtual 113, 3) := by decide +kernel
theorem dl_543 : decode code 543 = .ok (.pop, 1) := by decide +kernel
theorem dl_544 : decode code 544 = .ok (.aload_n 2, 1) := by decide +kernel
theorem dl_545 : decode code 545 = .ok (.invokevirtual 117, 3) := by decide +kernel
theorem dl_548 : decode code 548 = .ok (.pop, 1) := by decide +kernel
theorem dl_549 : decode code 549 = .ok (.goto 124, 3) := by decide +kernel
theorem dl_552 : decode code 552 = .ok (.aload_n 1, 1) := by decide +kernel
theorem dl_553 : decode code 553 = .ok (.aload_n 0, 1) := by decide +kernel
theorem dl_554 : decode code 554 = .ok (.iload 4, 2) := by decide +kernel
theorem dl_556 : decode code 556 = .ok (.iconst 1, 1) := by decide +kernel
theorem dl_557 : decode code 557 = .ok (.iadd, 1) := by decide +kernel
theorem dl_558 : decode code 558 = .ok (.iaload, 1) := by decide +kernel
theorem dl_559 : decode code 559 = .ok (.invokestatic 118, 3) := by decide +kernel
theorem dl_562 : decode code 562 = .ok (.istore 5, 2) := by decide +kernel
theorem dl_564 : decode code 564 = .ok (.aload_n 2, 1) := by decide +kernel
theorem dl_565 : decode code 565 = .ok (.aload_n 0, 1) := by decide +kernel
theorem dl_566 : decode code 566 = .ok (.iload 4, 2) := by decide +kernel
theorem dl_568 : decode code 568 = .ok (.iconst 1, 1) := by decide +kernel
theorem dl_569 : decode code 569 = .ok (.iadd, 1) := by decide +kernel
theorem dl_570 : decode code 570 = .ok (.iaload, 1) := by decide +kernel
theorem dl_571 : decode code 571 = .ok (.invokevirtual 121, 3) := by decide +kernel
theorem dl_574 : decode code 574 = .ok (.goto 99, 3) := by decide +kernel
theorem dl_577 : decode code 577 = .ok (.aload_n 1, 1) := by decide +kernel
theorem dl_578 : decode code 578 = .ok (.aload_n 0, 1) := by decide +kernel
theorem dl_579 : decode code 579 = .ok (.iload 4, 2) := by decide +kernel
theorem dl_581 : decode code 581 = .ok (.iconst 1, 1) := by decide +kernel
theorem dl_582 : decode code 582 = .ok (.iadd, 1) := by decide +kernel
theorem dl_583 : decode code 583 = .ok (.iaload, 1) := by decide +kernel
theorem dl_584 : decode code 584 = .ok (.aload_n 3, 1) := by decide +kernel
theorem dl_585 : decode code 585 = .ok (.invokestatic 122, 3) := by decide +kernel
theorem dl_588 : decode code 588 = .ok (.istore 5, 2) := by decide +kernel
theorem dl_590 : decode code 590 = .ok (.aload_n 2, 1) := by decide +kernel
theorem dl_591 : decode code 591 = .ok (.aload_n 0, 1) := by decide +kernel
theorem dl_592 : decode code 592 = .ok (.iload 4, 2) := by decide +kernel
theorem dl_594 : decode code 594 = .ok (.iconst 1, 1) := by decide +kernel
theorem dl_595 : decode code 595 = .ok (.iadd, 1) := by decide +kernel
theorem dl_596 : decode code 596 = .ok (.iaload, 1) := by decide +kernel
theorem dl_597 : decode code 597 = .ok (.invokevirtual 124, 3) := by decide +kernel
theorem dl_600 : decode code 600 = .ok (.istore 6, 2) := by decide +kernel
theorem dl_602 : decode code 602 = .ok (.goto 71, 3) := by decide +kernel
theorem dl_605 : decode code 605 = .ok (.aload_n 1, 1) := by decide +kernel
theorem dl_606 : decode code 606 = .ok (.aload_n 0, 1) := by decide +kernel
theorem dl_607 : decode code 607 = .ok (.iload 4, 2) := by decide +kernel
