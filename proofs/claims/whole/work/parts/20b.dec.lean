/-! decode rows of the law -/
theorem dl_264 : decode code 264 = .ok (.invokevirtual 117, 3) := by decide +kernel
theorem dl_267 : decode code 267 = .ok (.istore 6, 2) := by decide +kernel
theorem dl_269 : decode code 269 = .ok (.aload_n 2, 1) := by decide +kernel
theorem dl_270 : decode code 270 = .ok (.invokevirtual 118, 3) := by decide +kernel
theorem dl_273 : decode code 273 = .ok (.iload 5, 2) := by decide +kernel
theorem dl_275 : decode code 275 = .ok (.if_icmp .eq 5, 3) := by decide +kernel
theorem dl_280 : decode code 280 = .ok (.iload 5, 2) := by decide +kernel
theorem dl_282 : decode code 282 = .ok (.ifCond .ne 15, 3) := by decide +kernel
theorem dl_285 : decode code 285 = .ok (.aload_n 3, 1) := by decide +kernel
theorem dl_286 : decode code 286 = .ok (.iconst 0, 1) := by decide +kernel
theorem dl_287 : decode code 287 = .ok (.laload, 1) := by decide +kernel
theorem dl_288 : decode code 288 = .ok (.iload 6, 2) := by decide +kernel
theorem dl_290 : decode code 290 = .ok (.i2l, 1) := by decide +kernel
theorem dl_291 : decode code 291 = .ok (.lcmp, 1) := by decide +kernel
theorem dl_292 : decode code 292 = .ok (.ifCond .eq 5, 3) := by decide +kernel
theorem dl_297 : decode code 297 = .ok (.goto 1603, 3) := by decide +kernel
theorem dl_300 : decode code 300 = .ok (.aload_n 1, 1) := by decide +kernel
theorem dl_301 : decode code 301 = .ok (.invokevirtual 121, 3) := by decide +kernel
theorem dl_304 : decode code 304 = .ok (.aload_n 2, 1) := by decide +kernel
theorem dl_305 : decode code 305 = .ok (.invokevirtual 124, 3) := by decide +kernel
theorem dl_308 : decode code 308 = .ok (.if_icmp .eq 1592, 3) := by decide +kernel
theorem dl_313 : decode code 313 = .ok (.aload_n 1, 1) := by decide +kernel
theorem dl_314 : decode code 314 = .ok (.aload_n 0, 1) := by decide +kernel
theorem dl_315 : decode code 315 = .ok (.iload 4, 2) := by decide +kernel
theorem dl_317 : decode code 317 = .ok (.iconst 1, 1) := by decide +kernel
theorem dl_318 : decode code 318 = .ok (.iadd, 1) := by decide +kernel
theorem dl_319 : decode code 319 = .ok (.iaload, 1) := by decide +kernel
theorem dl_320 : decode code 320 = .ok (.aload_n 0, 1) := by decide +kernel
theorem dl_321 : decode code 321 = .ok (.iload 4, 2) := by decide +kernel
theorem dl_323 : decode code 323 = .ok (.iconst 2, 1) := by decide +kernel
theorem dl_324 : decode code 324 = .ok (.iadd, 1) := by decide +kernel
theorem dl_325 : decode code 325 = .ok (.iaload, 1) := by decide +kernel
theorem dl_326 : decode code 326 = .ok (.aload_n 3, 1) := by decide +kernel
theorem dl_327 : decode code 327 = .ok (.invokestatic 125, 3) := by decide +kernel
theorem dl_330 : decode code 330 = .ok (.istore 5, 2) := by decide +kernel
theorem dl_332 : decode code 332 = .ok (.aload_n 2, 1) := by decide +kernel
theorem dl_333 : decode code 333 = .ok (.aload_n 0, 1) := by decide +kernel
theorem dl_334 : decode code 334 = .ok (.iload 4, 2) := by decide +kernel
theorem dl_336 : decode code 336 = .ok (.iconst 1, 1) := by decide +kernel
theorem dl_337 : decode code 337 = .ok (.iadd, 1) := by decide +kernel
theorem dl_338 : decode code 338 = .ok (.iaload, 1) := by decide +kernel
theorem dl_339 : decode code 339 = .ok (.aload_n 0, 1) := by decide +kernel
theorem dl_340 : decode code 340 = .ok (.iload 4, 2) := by decide +kernel
theorem dl_342 : decode code 342 = .ok (.iconst 2, 1) := by decide +kernel
theorem dl_343 : decode code 343 = .ok (.iadd, 1) := by decide +kernel
theorem dl_344 : decode code 344 = .ok (.iaload, 1) := by decide +kernel
theorem dl_345 : decode code 345 = .ok (.invokevirtual 128, 3) := by decide +kernel
theorem dl_348 : decode code 348 = .ok (.istore 6, 2) := by decide +kernel
theorem dl_350 : decode code 350 = .ok (.aload_n 2, 1) := by decide +kernel
theorem dl_351 : decode code 351 = .ok (.invokevirtual 118, 3) := by decide +kernel
theorem dl_354 : decode code 354 = .ok (.iload 5, 2) := by decide +kernel
theorem dl_356 : decode code 356 = .ok (.if_icmp .eq 5, 3) := by decide +kernel
theorem dl_361 : decode code 361 = .ok (.iload 5, 2) := by decide +kernel
theorem dl_363 : decode code 363 = .ok (.ifCond .ne 15, 3) := by decide +kernel
theorem dl_366 : decode code 366 = .ok (.aload_n 3, 1) := by decide +kernel
theorem dl_367 : decode code 367 = .ok (.iconst 0, 1) := by decide +kernel
theorem dl_368 : decode code 368 = .ok (.laload, 1) := by decide +kernel
theorem dl_369 : decode code 369 = .ok (.iload 6, 2) := by decide +kernel
theorem dl_371 : decode code 371 = .ok (.i2l, 1) := by decide +kernel
theorem dl_372 : decode code 372 = .ok (.lcmp, 1) := by decide +kernel
