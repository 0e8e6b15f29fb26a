theorem dl_435 : decode code 435 = .ok (.iconst 1, 1) := by decide +kernel
theorem dl_436 : decode code 436 = .ok (.iadd, 1) := by decide +kernel
theorem dl_437 : decode code 437 = .ok (.iaload, 1) := by decide +kernel
theorem dl_438 : decode code 438 = .ok (.ifCond .eq 7, 3) := by decide +kernel
theorem dl_441 : decode code 441 = .ok (.iconst 1, 1) := by decide +kernel
theorem dl_442 : decode code 442 = .ok (.goto 4, 3) := by decide +kernel
theorem dl_445 : decode code 445 = .ok (.iconst 0, 1) := by decide +kernel
theorem dl_446 : decode code 446 = .ok (.invokevirtual 92, 3) := by decide +kernel
theorem dl_449 : decode code 449 = .ok (.aload_n 2, 1) := by decide +kernel
theorem dl_450 : decode code 450 = .ok (.aload_n 0, 1) := by decide +kernel
theorem dl_451 : decode code 451 = .ok (.iload 4, 2) := by decide +kernel
theorem dl_453 : decode code 453 = .ok (.iconst 1, 1) := by decide +kernel
theorem dl_454 : decode code 454 = .ok (.iadd, 1) := by decide +kernel
theorem dl_455 : decode code 455 = .ok (.iaload, 1) := by decide +kernel
theorem dl_456 : decode code 456 = .ok (.ifCond .eq 7, 3) := by decide +kernel
theorem dl_459 : decode code 459 = .ok (.iconst 1, 1) := by decide +kernel
theorem dl_460 : decode code 460 = .ok (.goto 4, 3) := by decide +kernel
theorem dl_463 : decode code 463 = .ok (.iconst 0, 1) := by decide +kernel
theorem dl_464 : decode code 464 = .ok (.invokevirtual 95, 3) := by decide +kernel
theorem dl_467 : decode code 467 = .ok (.goto 373, 3) := by decide +kernel
theorem dl_470 : decode code 470 = .ok (.aload_n 1, 1) := by decide +kernel
theorem dl_471 : decode code 471 = .ok (.aload_n 0, 1) := by decide +kernel
theorem dl_472 : decode code 472 = .ok (.iload 4, 2) := by decide +kernel
theorem dl_474 : decode code 474 = .ok (.iconst 1, 1) := by decide +kernel
theorem dl_475 : decode code 475 = .ok (.iadd, 1) := by decide +kernel
theorem dl_476 : decode code 476 = .ok (.iaload, 1) := by decide +kernel
theorem dl_477 : decode code 477 = .ok (.ifCond .eq 7, 3) := by decide +kernel
theorem dl_480 : decode code 480 = .ok (.iconst 1, 1) := by decide +kernel
theorem dl_481 : decode code 481 = .ok (.goto 4, 3) := by decide +kernel
theorem dl_484 : decode code 484 = .ok (.iconst 0, 1) := by decide +kernel
theorem dl_485 : decode code 485 = .ok (.invokevirtual 96, 3) := by decide +kernel
theorem dl_488 : decode code 488 = .ok (.aload_n 2, 1) := by decide +kernel
theorem dl_489 : decode code 489 = .ok (.aload_n 0, 1) := by decide +kernel
theorem dl_490 : decode code 490 = .ok (.iload 4, 2) := by decide +kernel
theorem dl_492 : decode code 492 = .ok (.iconst 1, 1) := by decide +kernel
theorem dl_493 : decode code 493 = .ok (.iadd, 1) := by decide +kernel
theorem dl_494 : decode code 494 = .ok (.iaload, 1) := by decide +kernel
theorem dl_495 : decode code 495 = .ok (.ifCond .eq 7, 3) := by decide +kernel
theorem dl_498 : decode code 498 = .ok (.iconst 1, 1) := by decide +kernel
theorem dl_499 : decode code 499 = .ok (.goto 4, 3) := by decide +kernel
theorem dl_502 : decode code 502 = .ok (.iconst 0, 1) := by decide +kernel
theorem dl_503 : decode code 503 = .ok (.invokevirtual 99, 3) := by decide +kernel
theorem dl_506 : decode code 506 = .ok (.goto 334, 3) := by decide +kernel
theorem dl_509 : decode code 509 = .ok (.aload_n 1, 1) := by decide +kernel
theorem dl_510 : decode code 510 = .ok (.aload_n 0, 1) := by decide +kernel
theorem dl_511 : decode code 511 = .ok (.iload 4, 2) := by decide +kernel
theorem dl_513 : decode code 513 = .ok (.iconst 1, 1) := by decide +kernel
theorem dl_514 : decode code 514 = .ok (.iadd, 1) := by decide +kernel
theorem dl_515 : decode code 515 = .ok (.iaload, 1) := by decide +kernel
theorem dl_516 : decode code 516 = .ok (.ifCond .eq 7, 3) := by decide +kernel
theorem dl_519 : decode code 519 = .ok (.iconst 1, 1) := by decide +kernel
theorem dl_520 : decode code 520 = .ok (.goto 4, 3) := by decide +kernel
theorem dl_523 : decode code 523 = .ok (.iconst 0, 1) := by decide +kernel
theorem dl_524 : decode code 524 = .ok (.invokevirtual 100, 3) := by decide +kernel
theorem dl_527 : decode code 527 = .ok (.aload_n 2, 1) := by decide +kernel
