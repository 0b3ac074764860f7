/-! decode rows of the law -/
theorem dl_474 : decode code 474 = .ok (.aload_n 2, 1) := by decide +kernel
theorem dl_475 : decode code 475 = .ok (.invokevirtual 118, 3) := by decide +kernel
theorem dl_478 : decode code 478 = .ok (.iload 5, 2) := by decide +kernel
theorem dl_480 : decode code 480 = .ok (.if_icmp .eq 5, 3) := by decide +kernel
theorem dl_485 : decode code 485 = .ok (.iload 5, 2) := by decide +kernel
theorem dl_487 : decode code 487 = .ok (.ifCond .ne 15, 3) := by decide +kernel
theorem dl_490 : decode code 490 = .ok (.aload_n 3, 1) := by decide +kernel
theorem dl_491 : decode code 491 = .ok (.iconst 0, 1) := by decide +kernel
theorem dl_492 : decode code 492 = .ok (.laload, 1) := by decide +kernel
theorem dl_493 : decode code 493 = .ok (.iload 6, 2) := by decide +kernel
theorem dl_495 : decode code 495 = .ok (.i2l, 1) := by decide +kernel
theorem dl_496 : decode code 496 = .ok (.lcmp, 1) := by decide +kernel
theorem dl_497 : decode code 497 = .ok (.ifCond .eq 5, 3) := by decide +kernel
theorem dl_502 : decode code 502 = .ok (.goto 1398, 3) := by decide +kernel
theorem dl_505 : decode code 505 = .ok (.aload_n 1, 1) := by decide +kernel
theorem dl_506 : decode code 506 = .ok (.aload_n 0, 1) := by decide +kernel
theorem dl_507 : decode code 507 = .ok (.iload 4, 2) := by decide +kernel
theorem dl_509 : decode code 509 = .ok (.iconst 1, 1) := by decide +kernel
theorem dl_510 : decode code 510 = .ok (.iadd, 1) := by decide +kernel
theorem dl_511 : decode code 511 = .ok (.iaload, 1) := by decide +kernel
theorem dl_512 : decode code 512 = .ok (.aload_n 3, 1) := by decide +kernel
theorem dl_513 : decode code 513 = .ok (.invokestatic 136, 3) := by decide +kernel
theorem dl_516 : decode code 516 = .ok (.istore 5, 2) := by decide +kernel
theorem dl_518 : decode code 518 = .ok (.aload_n 2, 1) := by decide +kernel
theorem dl_519 : decode code 519 = .ok (.aload_n 0, 1) := by decide +kernel
theorem dl_520 : decode code 520 = .ok (.iload 4, 2) := by decide +kernel
theorem dl_522 : decode code 522 = .ok (.iconst 1, 1) := by decide +kernel
theorem dl_523 : decode code 523 = .ok (.iadd, 1) := by decide +kernel
theorem dl_524 : decode code 524 = .ok (.iaload, 1) := by decide +kernel
theorem dl_525 : decode code 525 = .ok (.invokevirtual 138, 3) := by decide +kernel
theorem dl_528 : decode code 528 = .ok (.istore 6, 2) := by decide +kernel
theorem dl_530 : decode code 530 = .ok (.aload_n 2, 1) := by decide +kernel
theorem dl_531 : decode code 531 = .ok (.invokevirtual 118, 3) := by decide +kernel
theorem dl_534 : decode code 534 = .ok (.iload 5, 2) := by decide +kernel
theorem dl_536 : decode code 536 = .ok (.if_icmp .eq 5, 3) := by decide +kernel
theorem dl_541 : decode code 541 = .ok (.iload 5, 2) := by decide +kernel
theorem dl_543 : decode code 543 = .ok (.ifCond .ne 15, 3) := by decide +kernel
theorem dl_546 : decode code 546 = .ok (.aload_n 3, 1) := by decide +kernel
theorem dl_547 : decode code 547 = .ok (.iconst 0, 1) := by decide +kernel
theorem dl_548 : decode code 548 = .ok (.laload, 1) := by decide +kernel
theorem dl_549 : decode code 549 = .ok (.iload 6, 2) := by decide +kernel
theorem dl_551 : decode code 551 = .ok (.i2l, 1) := by decide +kernel
theorem dl_552 : decode code 552 = .ok (.lcmp, 1) := by decide +kernel
theorem dl_553 : decode code 553 = .ok (.ifCond .eq 5, 3) := by decide +kernel
theorem dl_558 : decode code 558 = .ok (.goto 1342, 3) := by decide +kernel
theorem dl_561 : decode code 561 = .ok (.aload_n 1, 1) := by decide +kernel
theorem dl_562 : decode code 562 = .ok (.invokevirtual 139, 3) := by decide +kernel
theorem dl_565 : decode code 565 = .ok (.aload_n 2, 1) := by decide +kernel
theorem dl_566 : decode code 566 = .ok (.invokevirtual 142, 3) := by decide +kernel
theorem dl_569 : decode code 569 = .ok (.if_icmp .eq 1331, 3) := by decide +kernel
theorem dl_574 : decode code 574 = .ok (.aload_n 1, 1) := by decide +kernel
theorem dl_575 : decode code 575 = .ok (.invokevirtual 143, 3) := by decide +kernel
theorem dl_578 : decode code 578 = .ok (.aload_n 2, 1) := by decide +kernel
theorem dl_579 : decode code 579 = .ok (.invokevirtual 146, 3) := by decide +kernel
theorem dl_582 : decode code 582 = .ok (.if_icmp .eq 1318, 3) := by decide +kernel
theorem dl_587 : decode code 587 = .ok (.aload_n 1, 1) := by decide +kernel
theorem dl_588 : decode code 588 = .ok (.aload_n 3, 1) := by decide +kernel
theorem dl_589 : decode code 589 = .ok (.invokestatic 147, 3) := by decide +kernel
theorem dl_592 : decode code 592 = .ok (.istore 5, 2) := by decide +kernel
theorem dl_594 : decode code 594 = .ok (.aload_n 2, 1) := by decide +kernel
