theorem dl_343 : decode code 343 = .ok (.iadd, 1) := by decide +kernel
theorem dl_344 : decode code 344 = .ok (.iaload, 1) := by decide +kernel
theorem dl_345 : decode code 345 = .ok (.aload_n 0, 1) := by decide +kernel
theorem dl_346 : decode code 346 = .ok (.iload 4, 2) := by decide +kernel
theorem dl_348 : decode code 348 = .ok (.iconst 2, 1) := by decide +kernel
theorem dl_349 : decode code 349 = .ok (.iadd, 1) := by decide +kernel
theorem dl_350 : decode code 350 = .ok (.iaload, 1) := by decide +kernel
theorem dl_351 : decode code 351 = .ok (.invokevirtual 87, 3) := by decide +kernel
theorem dl_354 : decode code 354 = .ok (.if_icmp .eq 319, 3) := by decide +kernel
theorem dl_357 : decode code 357 = .ok (.iconst 0, 1) := by decide +kernel
theorem dl_358 : decode code 358 = .ok (.ireturn, 1) := by decide +kernel
theorem dl_359 : decode code 359 = .ok (.aload_n 1, 1) := by decide +kernel
theorem dl_360 : decode code 360 = .ok (.aload_n 0, 1) := by decide +kernel
theorem dl_361 : decode code 361 = .ok (.iload 4, 2) := by decide +kernel
theorem dl_363 : decode code 363 = .ok (.iconst 1, 1) := by decide +kernel
theorem dl_364 : decode code 364 = .ok (.iadd, 1) := by decide +kernel
theorem dl_365 : decode code 365 = .ok (.iaload, 1) := by decide +kernel
theorem dl_366 : decode code 366 = .ok (.ifCond .eq 7, 3) := by decide +kernel
theorem dl_369 : decode code 369 = .ok (.iconst 1, 1) := by decide +kernel
theorem dl_370 : decode code 370 = .ok (.goto 4, 3) := by decide +kernel
theorem dl_373 : decode code 373 = .ok (.iconst 0, 1) := by decide +kernel
theorem dl_374 : decode code 374 = .ok (.invokevirtual 88, 3) := by decide +kernel
theorem dl_377 : decode code 377 = .ok (.aload_n 2, 1) := by decide +kernel
theorem dl_378 : decode code 378 = .ok (.aload_n 0, 1) := by decide +kernel
theorem dl_379 : decode code 379 = .ok (.iload 4, 2) := by decide +kernel
theorem dl_381 : decode code 381 = .ok (.iconst 1, 1) := by decide +kernel
theorem dl_382 : decode code 382 = .ok (.iadd, 1) := by decide +kernel
theorem dl_383 : decode code 383 = .ok (.iaload, 1) := by decide +kernel
theorem dl_384 : decode code 384 = .ok (.ifCond .eq 7, 3) := by decide +kernel
theorem dl_387 : decode code 387 = .ok (.iconst 1, 1) := by decide +kernel
theorem dl_388 : decode code 388 = .ok (.goto 4, 3) := by decide +kernel
theorem dl_391 : decode code 391 = .ok (.iconst 0, 1) := by decide +kernel
theorem dl_392 : decode code 392 = .ok (.invokevirtual 91, 3) := by decide +kernel
theorem dl_395 : decode code 395 = .ok (.goto 278, 3) := by decide +kernel
theorem dl_398 : decode code 398 = .ok (.aload_n 1, 1) := by decide +kernel
theorem dl_399 : decode code 399 = .ok (.aload_n 0, 1) := by decide +kernel
theorem dl_400 : decode code 400 = .ok (.iload 4, 2) := by decide +kernel
theorem dl_402 : decode code 402 = .ok (.iconst 1, 1) := by decide +kernel
theorem dl_403 : decode code 403 = .ok (.iadd, 1) := by decide +kernel
theorem dl_404 : decode code 404 = .ok (.iaload, 1) := by decide +kernel
theorem dl_405 : decode code 405 = .ok (.ifCond .eq 7, 3) := by decide +kernel
theorem dl_408 : decode code 408 = .ok (.iconst 1, 1) := by decide +kernel
theorem dl_409 : decode code 409 = .ok (.goto 4, 3) := by decide +kernel
theorem dl_412 : decode code 412 = .ok (.iconst 0, 1) := by decide +kernel
theorem dl_413 : decode code 413 = .ok (.invokevirtual 92, 3) := by decide +kernel
theorem dl_416 : decode code 416 = .ok (.aload_n 2, 1) := by decide +kernel
theorem dl_417 : decode code 417 = .ok (.aload_n 0, 1) := by decide +kernel
theorem dl_418 : decode code 418 = .ok (.iload 4, 2) := by decide +kernel
theorem dl_420 : decode code 420 = .ok (.iconst 1, 1) := by decide +kernel
theorem dl_421 : decode code 421 = .ok (.iadd, 1) := by decide +kernel
theorem dl_422 : decode code 422 = .ok (.iaload, 1) := by decide +kernel
theorem dl_423 : decode code 423 = .ok (.ifCond .eq 7, 3) := by decide +kernel
theorem dl_426 : decode code 426 = .ok (.iconst 1, 1) := by decide +kernel
theorem dl_427 : decode code 427 = .ok (.goto 4, 3) := by decide +kernel
theorem dl_430 : decode code 430 = .ok (.iconst 0, 1) := by decide +kernel
