theorem dl_266 : decode code 266 = .ok (.iaload, 1) := by decide +kernel
theorem dl_267 : decode code 267 = .ok (.aload_n 0, 1) := by decide +kernel
theorem dl_268 : decode code 268 = .ok (.iload 4, 2) := by decide +kernel
theorem dl_270 : decode code 270 = .ok (.iconst 2, 1) := by decide +kernel
theorem dl_271 : decode code 271 = .ok (.iadd, 1) := by decide +kernel
theorem dl_272 : decode code 272 = .ok (.iaload, 1) := by decide +kernel
theorem dl_273 : decode code 273 = .ok (.invokevirtual 74, 3) := by decide +kernel
theorem dl_276 : decode code 276 = .ok (.pop, 1) := by decide +kernel
theorem dl_277 : decode code 277 = .ok (.aload_n 2, 1) := by decide +kernel
theorem dl_278 : decode code 278 = .ok (.aload_n 0, 1) := by decide +kernel
theorem dl_279 : decode code 279 = .ok (.iload 4, 2) := by decide +kernel
theorem dl_281 : decode code 281 = .ok (.iconst 1, 1) := by decide +kernel
theorem dl_282 : decode code 282 = .ok (.iadd, 1) := by decide +kernel
theorem dl_283 : decode code 283 = .ok (.iaload, 1) := by decide +kernel
theorem dl_284 : decode code 284 = .ok (.aload_n 0, 1) := by decide +kernel
theorem dl_285 : decode code 285 = .ok (.iload 4, 2) := by decide +kernel
theorem dl_287 : decode code 287 = .ok (.iconst 2, 1) := by decide +kernel
theorem dl_288 : decode code 288 = .ok (.iadd, 1) := by decide +kernel
theorem dl_289 : decode code 289 = .ok (.iaload, 1) := by decide +kernel
theorem dl_290 : decode code 290 = .ok (.invokevirtual 78, 3) := by decide +kernel
theorem dl_293 : decode code 293 = .ok (.pop, 1) := by decide +kernel
theorem dl_294 : decode code 294 = .ok (.goto 379, 3) := by decide +kernel
theorem dl_297 : decode code 297 = .ok (.aload_n 1, 1) := by decide +kernel
theorem dl_298 : decode code 298 = .ok (.aload_n 0, 1) := by decide +kernel
theorem dl_299 : decode code 299 = .ok (.iload 4, 2) := by decide +kernel
theorem dl_301 : decode code 301 = .ok (.iconst 1, 1) := by decide +kernel
theorem dl_302 : decode code 302 = .ok (.iadd, 1) := by decide +kernel
theorem dl_303 : decode code 303 = .ok (.iaload, 1) := by decide +kernel
theorem dl_304 : decode code 304 = .ok (.invokevirtual 79, 3) := by decide +kernel
theorem dl_307 : decode code 307 = .ok (.pop, 1) := by decide +kernel
theorem dl_308 : decode code 308 = .ok (.aload_n 2, 1) := by decide +kernel
theorem dl_309 : decode code 309 = .ok (.aload_n 0, 1) := by decide +kernel
theorem dl_310 : decode code 310 = .ok (.iload 4, 2) := by decide +kernel
theorem dl_312 : decode code 312 = .ok (.iconst 1, 1) := by decide +kernel
theorem dl_313 : decode code 313 = .ok (.iadd, 1) := by decide +kernel
theorem dl_314 : decode code 314 = .ok (.iaload, 1) := by decide +kernel
theorem dl_315 : decode code 315 = .ok (.invokevirtual 83, 3) := by decide +kernel
theorem dl_318 : decode code 318 = .ok (.pop, 1) := by decide +kernel
theorem dl_319 : decode code 319 = .ok (.goto 354, 3) := by decide +kernel
theorem dl_322 : decode code 322 = .ok (.aload_n 1, 1) := by decide +kernel
theorem dl_323 : decode code 323 = .ok (.aload_n 0, 1) := by decide +kernel
theorem dl_324 : decode code 324 = .ok (.iload 4, 2) := by decide +kernel
theorem dl_326 : decode code 326 = .ok (.iconst 1, 1) := by decide +kernel
theorem dl_327 : decode code 327 = .ok (.iadd, 1) := by decide +kernel
theorem dl_328 : decode code 328 = .ok (.iaload, 1) := by decide +kernel
theorem dl_329 : decode code 329 = .ok (.aload_n 0, 1) := by decide +kernel
theorem dl_330 : decode code 330 = .ok (.iload 4, 2) := by decide +kernel
theorem dl_332 : decode code 332 = .ok (.iconst 2, 1) := by decide +kernel
theorem dl_333 : decode code 333 = .ok (.iadd, 1) := by decide +kernel
theorem dl_334 : decode code 334 = .ok (.iaload, 1) := by decide +kernel
theorem dl_335 : decode code 335 = .ok (.invokevirtual 84, 3) := by decide +kernel
theorem dl_338 : decode code 338 = .ok (.aload_n 2, 1) := by decide +kernel
theorem dl_339 : decode code 339 = .ok (.aload_n 0, 1) := by decide +kernel
theorem dl_340 : decode code 340 = .ok (.iload 4, 2) := by decide +kernel
theorem dl_342 : decode code 342 = .ok (.iconst 1, 1) := by decide +kernel
