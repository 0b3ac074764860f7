/-! decode rows of the law -/
theorem dl_373 : decode code 373 = .ok (.ifCond .eq 5, 3) := by decide +kernel
theorem dl_378 : decode code 378 = .ok (.goto 1522, 3) := by decide +kernel
theorem dl_381 : decode code 381 = .ok (.aload_n 1, 1) := by decide +kernel
theorem dl_382 : decode code 382 = .ok (.aload_n 0, 1) := by decide +kernel
theorem dl_383 : decode code 383 = .ok (.iload 4, 2) := by decide +kernel
theorem dl_385 : decode code 385 = .ok (.iconst 1, 1) := by decide +kernel
theorem dl_386 : decode code 386 = .ok (.iadd, 1) := by decide +kernel
theorem dl_387 : decode code 387 = .ok (.iaload, 1) := by decide +kernel
theorem dl_388 : decode code 388 = .ok (.aload_n 3, 1) := by decide +kernel
theorem dl_389 : decode code 389 = .ok (.invokestatic 129, 3) := by decide +kernel
theorem dl_392 : decode code 392 = .ok (.istore 5, 2) := by decide +kernel
theorem dl_394 : decode code 394 = .ok (.aload_n 2, 1) := by decide +kernel
theorem dl_395 : decode code 395 = .ok (.aload_n 0, 1) := by decide +kernel
theorem dl_396 : decode code 396 = .ok (.iload 4, 2) := by decide +kernel
theorem dl_398 : decode code 398 = .ok (.iconst 1, 1) := by decide +kernel
theorem dl_399 : decode code 399 = .ok (.iadd, 1) := by decide +kernel
theorem dl_400 : decode code 400 = .ok (.iaload, 1) := by decide +kernel
theorem dl_401 : decode code 401 = .ok (.invokevirtual 132, 3) := by decide +kernel
theorem dl_404 : decode code 404 = .ok (.istore 6, 2) := by decide +kernel
theorem dl_406 : decode code 406 = .ok (.aload_n 2, 1) := by decide +kernel
theorem dl_407 : decode code 407 = .ok (.invokevirtual 118, 3) := by decide +kernel
theorem dl_410 : decode code 410 = .ok (.iload 5, 2) := by decide +kernel
theorem dl_412 : decode code 412 = .ok (.if_icmp .eq 5, 3) := by decide +kernel
theorem dl_417 : decode code 417 = .ok (.iload 5, 2) := by decide +kernel
theorem dl_419 : decode code 419 = .ok (.ifCond .ne 15, 3) := by decide +kernel
theorem dl_422 : decode code 422 = .ok (.aload_n 3, 1) := by decide +kernel
theorem dl_423 : decode code 423 = .ok (.iconst 0, 1) := by decide +kernel
theorem dl_424 : decode code 424 = .ok (.laload, 1) := by decide +kernel
theorem dl_425 : decode code 425 = .ok (.iload 6, 2) := by decide +kernel
theorem dl_427 : decode code 427 = .ok (.i2l, 1) := by decide +kernel
theorem dl_428 : decode code 428 = .ok (.lcmp, 1) := by decide +kernel
theorem dl_429 : decode code 429 = .ok (.ifCond .eq 5, 3) := by decide +kernel
theorem dl_434 : decode code 434 = .ok (.goto 1466, 3) := by decide +kernel
theorem dl_437 : decode code 437 = .ok (.aload_n 1, 1) := by decide +kernel
theorem dl_438 : decode code 438 = .ok (.aload_n 0, 1) := by decide +kernel
theorem dl_439 : decode code 439 = .ok (.iload 4, 2) := by decide +kernel
theorem dl_441 : decode code 441 = .ok (.iconst 1, 1) := by decide +kernel
theorem dl_442 : decode code 442 = .ok (.iadd, 1) := by decide +kernel
theorem dl_443 : decode code 443 = .ok (.iaload, 1) := by decide +kernel
theorem dl_444 : decode code 444 = .ok (.aload_n 0, 1) := by decide +kernel
theorem dl_445 : decode code 445 = .ok (.iload 4, 2) := by decide +kernel
theorem dl_447 : decode code 447 = .ok (.iconst 2, 1) := by decide +kernel
theorem dl_448 : decode code 448 = .ok (.iadd, 1) := by decide +kernel
theorem dl_449 : decode code 449 = .ok (.iaload, 1) := by decide +kernel
theorem dl_450 : decode code 450 = .ok (.aload_n 3, 1) := by decide +kernel
theorem dl_451 : decode code 451 = .ok (.invokestatic 133, 3) := by decide +kernel
theorem dl_454 : decode code 454 = .ok (.istore 5, 2) := by decide +kernel
theorem dl_456 : decode code 456 = .ok (.aload_n 2, 1) := by decide +kernel
theorem dl_457 : decode code 457 = .ok (.aload_n 0, 1) := by decide +kernel
theorem dl_458 : decode code 458 = .ok (.iload 4, 2) := by decide +kernel
theorem dl_460 : decode code 460 = .ok (.iconst 1, 1) := by decide +kernel
theorem dl_461 : decode code 461 = .ok (.iadd, 1) := by decide +kernel
theorem dl_462 : decode code 462 = .ok (.iaload, 1) := by decide +kernel
theorem dl_463 : decode code 463 = .ok (.aload_n 0, 1) := by decide +kernel
theorem dl_464 : decode code 464 = .ok (.iload 4, 2) := by decide +kernel
theorem dl_466 : decode code 466 = .ok (.iconst 2, 1) := by decide +kernel
theorem dl_467 : decode code 467 = .ok (.iadd, 1) := by decide +kernel
theorem dl_468 : decode code 468 = .ok (.iaload, 1) := by decide +kernel
theorem dl_469 : decode code 469 = .ok (.invokevirtual 135, 3) := by decide +kernel
theorem dl_472 : decode code 472 = .ok (.istore 6, 2) := by decide +kernel
