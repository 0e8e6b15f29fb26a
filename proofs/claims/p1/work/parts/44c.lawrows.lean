theorem dl_273 : decode code 273 = .ok (.goto 567, 3) := by decide +kernel
theorem dl_276 : decode code 276 = .ok (.aload_n 1, 1) := by decide +kernel
theorem dl_277 : decode code 277 = .ok (.aload_n 0, 1) := by decide +kernel
theorem dl_278 : decode code 278 = .ok (.iload 4, 2) := by decide +kernel
theorem dl_280 : decode code 280 = .ok (.iconst 1, 1) := by decide +kernel
theorem dl_281 : decode code 281 = .ok (.iadd, 1) := by decide +kernel
theorem dl_282 : decode code 282 = .ok (.iaload, 1) := by decide +kernel
theorem dl_283 : decode code 283 = .ok (.aload_n 3, 1) := by decide +kernel
theorem dl_284 : decode code 284 = .ok (.invokestatic 74, 3) := by decide +kernel
theorem dl_287 : decode code 287 = .ok (.istore 5, 2) := by decide +kernel
theorem dl_289 : decode code 289 = .ok (.aload_n 2, 1) := by decide +kernel
theorem dl_290 : decode code 290 = .ok (.aload_n 0, 1) := by decide +kernel
theorem dl_291 : decode code 291 = .ok (.iload 4, 2) := by decide +kernel
theorem dl_293 : decode code 293 = .ok (.iconst 1, 1) := by decide +kernel
theorem dl_294 : decode code 294 = .ok (.iadd, 1) := by decide +kernel
theorem dl_295 : decode code 295 = .ok (.iaload, 1) := by decide +kernel
theorem dl_296 : decode code 296 = .ok (.invokevirtual 77, 3) := by decide +kernel
theorem dl_299 : decode code 299 = .ok (.istore 6, 2) := by decide +kernel
theorem dl_301 : decode code 301 = .ok (.aload_n 2, 1) := by decide +kernel
theorem dl_302 : decode code 302 = .ok (.invokevirtual 59, 3) := by decide +kernel
theorem dl_305 : decode code 305 = .ok (.iload 5, 2) := by decide +kernel
theorem dl_307 : decode code 307 = .ok (.if_icmp .eq 5, 3) := by decide +kernel
theorem dl_310 : decode code 310 = .ok (.iconst 0, 1) := by decide +kernel
theorem dl_311 : decode code 311 = .ok (.ireturn, 1) := by decide +kernel
theorem dl_312 : decode code 312 = .ok (.iload 5, 2) := by decide +kernel
theorem dl_314 : decode code 314 = .ok (.ifCond .ne 15, 3) := by decide +kernel
theorem dl_317 : decode code 317 = .ok (.aload_n 3, 1) := by decide +kernel
theorem dl_318 : decode code 318 = .ok (.iconst 0, 1) := by decide +kernel
theorem dl_319 : decode code 319 = .ok (.laload, 1) := by decide +kernel
theorem dl_320 : decode code 320 = .ok (.iload 6, 2) := by decide +kernel
theorem dl_322 : decode code 322 = .ok (.i2l, 1) := by decide +kernel
theorem dl_323 : decode code 323 = .ok (.lcmp, 1) := by decide +kernel
theorem dl_324 : decode code 324 = .ok (.ifCond .eq 5, 3) := by decide +kernel
theorem dl_327 : decode code 327 = .ok (.iconst 0, 1) := by decide +kernel
theorem dl_328 : decode code 328 = .ok (.ireturn, 1) := by decide +kernel
theorem dl_329 : decode code 329 = .ok (.goto 511, 3) := by decide +kernel
theorem dl_332 : decode code 332 = .ok (.aload_n 1, 1) := by decide +kernel
theorem dl_333 : decode code 333 = .ok (.aload_n 0, 1) := by decide +kernel
theorem dl_334 : decode code 334 = .ok (.iload 4, 2) := by decide +kernel
theorem dl_336 : decode code 336 = .ok (.iconst 1, 1) := by decide +kernel
theorem dl_337 : decode code 337 = .ok (.iadd, 1) := by decide +kernel
theorem dl_338 : decode code 338 = .ok (.iaload, 1) := by decide +kernel
theorem dl_339 : decode code 339 = .ok (.aload_n 0, 1) := by decide +kernel
theorem dl_340 : decode code 340 = .ok (.iload 4, 2) := by decide +kernel
theorem dl_342 : decode code 342 = .ok (.iconst 2, 1) := by decide +kernel
theorem dl_343 : decode code 343 = .ok (.iadd, 1) := by decide +kernel
theorem dl_344 : decode code 344 = .ok (.iaload, 1) := by decide +kernel
theorem dl_345 : decode code 345 = .ok (.invokevirtual 78, 3) := by decide +kernel
theorem dl_348 : decode code 348 = .ok (.aload_n 2, 1) := by decide +kernel
theorem dl_349 : decode code 349 = .ok (.aload_n 0, 1) := by decide +kernel
theorem dl_350 : decode code 350 = .ok (.iload 4, 2) := by decide +kernel
theorem dl_352 : decode code 352 = .ok (.iconst 1, 1) := by decide +kernel
theorem dl_353 : decode code 353 = .ok (.iadd, 1) := by decide +kernel
theorem dl_354 : decode code 354 = .ok (.iaload, 1) := by decide +kernel
theorem dl_355 : decode code 355 = .ok (.aload_n 0, 1) := by decide +kernel
