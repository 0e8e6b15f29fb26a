theorem dl_431 : decode code 431 = .ok (.invokevirtual 95, 3) := by decide +kernel
theorem dl_434 : decode code 434 = .ok (.goto 239, 3) := by decide +kernel
theorem dl_437 : decode code 437 = .ok (.aload_n 1, 1) := by decide +kernel
theorem dl_438 : decode code 438 = .ok (.aload_n 0, 1) := by decide +kernel
theorem dl_439 : decode code 439 = .ok (.iload 4, 2) := by decide +kernel
theorem dl_441 : decode code 441 = .ok (.iconst 1, 1) := by decide +kernel
theorem dl_442 : decode code 442 = .ok (.iadd, 1) := by decide +kernel
theorem dl_443 : decode code 443 = .ok (.iaload, 1) := by decide +kernel
theorem dl_444 : decode code 444 = .ok (.ifCond .eq 7, 3) := by decide +kernel
theorem dl_447 : decode code 447 = .ok (.iconst 1, 1) := by decide +kernel
theorem dl_448 : decode code 448 = .ok (.goto 4, 3) := by decide +kernel
theorem dl_451 : decode code 451 = .ok (.iconst 0, 1) := by decide +kernel
theorem dl_452 : decode code 452 = .ok (.invokevirtual 96, 3) := by decide +kernel
theorem dl_455 : decode code 455 = .ok (.aload_n 2, 1) := by decide +kernel
theorem dl_456 : decode code 456 = .ok (.aload_n 0, 1) := by decide +kernel
theorem dl_457 : decode code 457 = .ok (.iload 4, 2) := by decide +kernel
theorem dl_459 : decode code 459 = .ok (.iconst 1, 1) := by decide +kernel
theorem dl_460 : decode code 460 = .ok (.iadd, 1) := by decide +kernel
theorem dl_461 : decode code 461 = .ok (.iaload, 1) := by decide +kernel
theorem dl_462 : decode code 462 = .ok (.ifCond .eq 7, 3) := by decide +kernel
theorem dl_465 : decode code 465 = .ok (.iconst 1, 1) := by decide +kernel
theorem dl_466 : decode code 466 = .ok (.goto 4, 3) := by decide +kernel
theorem dl_469 : decode code 469 = .ok (.iconst 0, 1) := by decide +kernel
theorem dl_470 : decode code 470 = .ok (.invokevirtual 99, 3) := by decide +kernel
theorem dl_473 : decode code 473 = .ok (.goto 200, 3) := by decide +kernel
theorem dl_476 : decode code 476 = .ok (.aload_n 1, 1) := by decide +kernel
theorem dl_477 : decode code 477 = .ok (.aload_n 0, 1) := by decide +kernel
theorem dl_478 : decode code 478 = .ok (.iload 4, 2) := by decide +kernel
theorem dl_480 : decode code 480 = .ok (.iconst 1, 1) := by decide +kernel
theorem dl_481 : decode code 481 = .ok (.iadd, 1) := by decide +kernel
theorem dl_482 : decode code 482 = .ok (.iaload, 1) := by decide +kernel
theorem dl_483 : decode code 483 = .ok (.invokevirtual 100, 3) := by decide +kernel
theorem dl_486 : decode code 486 = .ok (.pop, 1) := by decide +kernel
theorem dl_487 : decode code 487 = .ok (.aload_n 2, 1) := by decide +kernel
theorem dl_488 : decode code 488 = .ok (.aload_n 0, 1) := by decide +kernel
theorem dl_489 : decode code 489 = .ok (.iload 4, 2) := by decide +kernel
theorem dl_491 : decode code 491 = .ok (.iconst 1, 1) := by decide +kernel
theorem dl_492 : decode code 492 = .ok (.iadd, 1) := by decide +kernel
theorem dl_493 : decode code 493 = .ok (.iaload, 1) := by decide +kernel
theorem dl_494 : decode code 494 = .ok (.invokevirtual 103, 3) := by decide +kernel
theorem dl_497 : decode code 497 = .ok (.pop, 1) := by decide +kernel
theorem dl_498 : decode code 498 = .ok (.goto 175, 3) := by decide +kernel
theorem dl_501 : decode code 501 = .ok (.aload_n 1, 1) := by decide +kernel
theorem dl_502 : decode code 502 = .ok (.aload_n 0, 1) := by decide +kernel
theorem dl_503 : decode code 503 = .ok (.iload 4, 2) := by decide +kernel
theorem dl_505 : decode code 505 = .ok (.iconst 1, 1) := by decide +kernel
theorem dl_506 : decode code 506 = .ok (.iadd, 1) := by decide +kernel
theorem dl_507 : decode code 507 = .ok (.iaload, 1) := by decide +kernel
theorem dl_508 : decode code 508 = .ok (.invokevirtual 104, 3) := by decide +kernel
theorem dl_511 : decode code 511 = .ok (.pop, 1) := by decide +kernel
theorem dl_512 : decode code 512 = .ok (.aload_n 2, 1) := by decide +kernel
theorem dl_513 : decode code 513 = .ok (.aload_n 0, 1) := by decide +kernel
theorem dl_514 : decode code 514 = .ok (.iload 4, 2) := by decide +kernel
theorem dl_516 : decode code 516 = .ok (.iconst 1, 1) := by decide +kernel
theorem dl_517 : decode code 517 = .ok (.iadd, 1) := by decide +kernel
