/-! decode rows of the law -/
theorem dl_1418 : decode code 1418 = .ok (.ifCond .ne 15, 3) := by decide +kernel
theorem dl_1421 : decode code 1421 = .ok (.aload_n 3, 1) := by decide +kernel
theorem dl_1422 : decode code 1422 = .ok (.iconst 0, 1) := by decide +kernel
theorem dl_1423 : decode code 1423 = .ok (.laload, 1) := by decide +kernel
theorem dl_1424 : decode code 1424 = .ok (.iload 6, 2) := by decide +kernel
theorem dl_1426 : decode code 1426 = .ok (.i2l, 1) := by decide +kernel
theorem dl_1427 : decode code 1427 = .ok (.lcmp, 1) := by decide +kernel
theorem dl_1428 : decode code 1428 = .ok (.ifCond .eq 5, 3) := by decide +kernel
theorem dl_1433 : decode code 1433 = .ok (.goto 467, 3) := by decide +kernel
theorem dl_1436 : decode code 1436 = .ok (.aload_n 1, 1) := by decide +kernel
theorem dl_1437 : decode code 1437 = .ok (.aload_n 0, 1) := by decide +kernel
theorem dl_1438 : decode code 1438 = .ok (.iload 4, 2) := by decide +kernel
theorem dl_1440 : decode code 1440 = .ok (.iconst 1, 1) := by decide +kernel
theorem dl_1441 : decode code 1441 = .ok (.iadd, 1) := by decide +kernel
theorem dl_1442 : decode code 1442 = .ok (.iaload, 1) := by decide +kernel
theorem dl_1443 : decode code 1443 = .ok (.aload_n 0, 1) := by decide +kernel
theorem dl_1444 : decode code 1444 = .ok (.iload 4, 2) := by decide +kernel
theorem dl_1446 : decode code 1446 = .ok (.iconst 2, 1) := by decide +kernel
theorem dl_1447 : decode code 1447 = .ok (.iadd, 1) := by decide +kernel
theorem dl_1448 : decode code 1448 = .ok (.iaload, 1) := by decide +kernel
theorem dl_1449 : decode code 1449 = .ok (.ifCond .eq 7, 3) := by decide +kernel
theorem dl_1452 : decode code 1452 = .ok (.iconst 1, 1) := by decide +kernel
theorem dl_1453 : decode code 1453 = .ok (.goto 4, 3) := by decide +kernel
theorem dl_1456 : decode code 1456 = .ok (.iconst 0, 1) := by decide +kernel
theorem dl_1457 : decode code 1457 = .ok (.aload_n 3, 1) := by decide +kernel
theorem dl_1458 : decode code 1458 = .ok (.invokestatic 237, 3) := by decide +kernel
theorem dl_1461 : decode code 1461 = .ok (.istore 5, 2) := by decide +kernel
theorem dl_1463 : decode code 1463 = .ok (.aload_n 2, 1) := by decide +kernel
theorem dl_1464 : decode code 1464 = .ok (.aload_n 0, 1) := by decide +kernel
theorem dl_1465 : decode code 1465 = .ok (.iload 4, 2) := by decide +kernel
theorem dl_1467 : decode code 1467 = .ok (.iconst 1, 1) := by decide +kernel
theorem dl_1468 : decode code 1468 = .ok (.iadd, 1) := by decide +kernel
theorem dl_1469 : decode code 1469 = .ok (.iaload, 1) := by decide +kernel
theorem dl_1470 : decode code 1470 = .ok (.aload_n 0, 1) := by decide +kernel
theorem dl_1471 : decode code 1471 = .ok (.iload 4, 2) := by decide +kernel
theorem dl_1473 : decode code 1473 = .ok (.iconst 2, 1) := by decide +kernel
theorem dl_1474 : decode code 1474 = .ok (.iadd, 1) := by decide +kernel
theorem dl_1475 : decode code 1475 = .ok (.iaload, 1) := by decide +kernel
theorem dl_1476 : decode code 1476 = .ok (.ifCond .eq 7, 3) := by decide +kernel
theorem dl_1479 : decode code 1479 = .ok (.iconst 1, 1) := by decide +kernel
theorem dl_1480 : decode code 1480 = .ok (.goto 4, 3) := by decide +kernel
theorem dl_1483 : decode code 1483 = .ok (.iconst 0, 1) := by decide +kernel
theorem dl_1484 : decode code 1484 = .ok (.invokevirtual 240, 3) := by decide +kernel
theorem dl_1487 : decode code 1487 = .ok (.istore 6, 2) := by decide +kernel
theorem dl_1489 : decode code 1489 = .ok (.aload_n 2, 1) := by decide +kernel
theorem dl_1490 : decode code 1490 = .ok (.invokevirtual 118, 3) := by decide +kernel
theorem dl_1493 : decode code 1493 = .ok (.iload 5, 2) := by decide +kernel
theorem dl_1495 : decode code 1495 = .ok (.if_icmp .eq 5, 3) := by decide +kernel
theorem dl_1500 : decode code 1500 = .ok (.iload 5, 2) := by decide +kernel
theorem dl_1502 : decode code 1502 = .ok (.ifCond .ne 15, 3) := by decide +kernel
theorem dl_1505 : decode code 1505 = .ok (.aload_n 3, 1) := by decide +kernel
theorem dl_1506 : decode code 1506 = .ok (.iconst 0, 1) := by decide +kernel
theorem dl_1507 : decode code 1507 = .ok (.laload, 1) := by decide +kernel
theorem dl_1508 : decode code 1508 = .ok (.iload 6, 2) := by decide +kernel
theorem dl_1510 : decode code 1510 = .ok (.i2l, 1) := by decide +kernel
theorem dl_1511 : decode code 1511 = .ok (.lcmp, 1) := by decide +kernel
theorem dl_1512 : decode code 1512 = .ok (.ifCond .eq 5, 3) := by decide +kernel
theorem dl_1517 : decode code 1517 = .ok (.goto 383, 3) := by decide +kernel
theorem dl_1520 : decode code 1520 = .ok (.aload_n 1, 1) := by decide +kernel
theorem dl_1521 : decode code 1521 = .ok (.aload_n 0, 1) := by decide +kernel
