theorem dl_356 : decode code 356 = .ok (.iload 4, 2) := by decide +kernel
theorem dl_358 : decode code 358 = .ok (.iconst 2, 1) := by decide +kernel
theorem dl_359 : decode code 359 = .ok (.iadd, 1) := by decide +kernel
theorem dl_360 : decode code 360 = .ok (.iaload, 1) := by decide +kernel
theorem dl_361 : decode code 361 = .ok (.invokevirtual 82, 3) := by decide +kernel
theorem dl_364 : decode code 364 = .ok (.if_icmp .eq 476, 3) := by decide +kernel
theorem dl_367 : decode code 367 = .ok (.iconst 0, 1) := by decide +kernel
theorem dl_368 : decode code 368 = .ok (.ireturn, 1) := by decide +kernel
theorem dl_369 : decode code 369 = .ok (.aload_n 1, 1) := by decide +kernel
theorem dl_370 : decode code 370 = .ok (.aload_n 0, 1) := by decide +kernel
theorem dl_371 : decode code 371 = .ok (.iload 4, 2) := by decide +kernel
theorem dl_373 : decode code 373 = .ok (.iconst 1, 1) := by decide +kernel
theorem dl_374 : decode code 374 = .ok (.iadd, 1) := by decide +kernel
theorem dl_375 : decode code 375 = .ok (.iaload, 1) := by decide +kernel
theorem dl_376 : decode code 376 = .ok (.invokevirtual 83, 3) := by decide +kernel
theorem dl_379 : decode code 379 = .ok (.aload_n 2, 1) := by decide +kernel
theorem dl_380 : decode code 380 = .ok (.aload_n 0, 1) := by decide +kernel
theorem dl_381 : decode code 381 = .ok (.iload 4, 2) := by decide +kernel
theorem dl_383 : decode code 383 = .ok (.iconst 1, 1) := by decide +kernel
theorem dl_384 : decode code 384 = .ok (.iadd, 1) := by decide +kernel
theorem dl_385 : decode code 385 = .ok (.iaload, 1) := by decide +kernel
theorem dl_386 : decode code 386 = .ok (.invokevirtual 87, 3) := by decide +kernel
theorem dl_389 : decode code 389 = .ok (.if_icmp .eq 451, 3) := by decide +kernel
theorem dl_392 : decode code 392 = .ok (.iconst 0, 1) := by decide +kernel
theorem dl_393 : decode code 393 = .ok (.ireturn, 1) := by decide +kernel
theorem dl_394 : decode code 394 = .ok (.aload_n 1, 1) := by decide +kernel
theorem dl_395 : decode code 395 = .ok (.aload_n 0, 1) := by decide +kernel
theorem dl_396 : decode code 396 = .ok (.iload 4, 2) := by decide +kernel
theorem dl_398 : decode code 398 = .ok (.iconst 1, 1) := by decide +kernel
theorem dl_399 : decode code 399 = .ok (.iadd, 1) := by decide +kernel
theorem dl_400 : decode code 400 = .ok (.iaload, 1) := by decide +kernel
theorem dl_401 : decode code 401 = .ok (.aload_n 0, 1) := by decide +kernel
theorem dl_402 : decode code 402 = .ok (.iload 4, 2) := by decide +kernel
theorem dl_404 : decode code 404 = .ok (.iconst 2, 1) := by decide +kernel
theorem dl_405 : decode code 405 = .ok (.iadd, 1) := by decide +kernel
theorem dl_406 : decode code 406 = .ok (.iaload, 1) := by decide +kernel
theorem dl_407 : decode code 407 = .ok (.invokevirtual 88, 3) := by decide +kernel
theorem dl_410 : decode code 410 = .ok (.aload_n 2, 1) := by decide +kernel
theorem dl_411 : decode code 411 = .ok (.aload_n 0, 1) := by decide +kernel
theorem dl_412 : decode code 412 = .ok (.iload 4, 2) := by decide +kernel
theorem dl_414 : decode code 414 = .ok (.iconst 1, 1) := by decide +kernel
theorem dl_415 : decode code 415 = .ok (.iadd, 1) := by decide +kernel
theorem dl_416 : decode code 416 = .ok (.iaload, 1) := by decide +kernel
theorem dl_417 : decode code 417 = .ok (.aload_n 0, 1) := by decide +kernel
theorem dl_418 : decode code 418 = .ok (.iload 4, 2) := by decide +kernel
theorem dl_420 : decode code 420 = .ok (.iconst 2, 1) := by decide +kernel
theorem dl_421 : decode code 421 = .ok (.iadd, 1) := by decide +kernel
theorem dl_422 : decode code 422 = .ok (.iaload, 1) := by decide +kernel
theorem dl_423 : decode code 423 = .ok (.invokevirtual 91, 3) := by decide +kernel
theorem dl_426 : decode code 426 = .ok (.if_icmp .eq 414, 3) := by decide +kernel
theorem dl_429 : decode code 429 = .ok (.iconst 0, 1) := by decide +kernel
theorem dl_430 : decode code 430 = .ok (.ireturn, 1) := by decide +kernel
theorem dl_431 : decode code 431 = .ok (.aload_n 1, 1) := by decide +kernel
theorem dl_432 : decode code 432 = .ok (.aload_n 0, 1) := by decide +kernel
theorem dl_433 : decode code 433 = .ok (.iload 4, 2) := by decide +kernel
