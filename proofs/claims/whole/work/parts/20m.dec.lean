/-! decode rows of the law -/
theorem dl_1522 : decode code 1522 = .ok (.iload 4, 2) := by decide +kernel
theorem dl_1524 : decode code 1524 = .ok (.iconst 1, 1) := by decide +kernel
theorem dl_1525 : decode code 1525 = .ok (.iadd, 1) := by decide +kernel
theorem dl_1526 : decode code 1526 = .ok (.iaload, 1) := by decide +kernel
theorem dl_1527 : decode code 1527 = .ok (.aload_n 3, 1) := by decide +kernel
theorem dl_1528 : decode code 1528 = .ok (.invokestatic 241, 3) := by decide +kernel
theorem dl_1531 : decode code 1531 = .ok (.istore 5, 2) := by decide +kernel
theorem dl_1533 : decode code 1533 = .ok (.aload_n 2, 1) := by decide +kernel
theorem dl_1534 : decode code 1534 = .ok (.aload_n 0, 1) := by decide +kernel
theorem dl_1535 : decode code 1535 = .ok (.iload 4, 2) := by decide +kernel
theorem dl_1537 : decode code 1537 = .ok (.iconst 1, 1) := by decide +kernel
theorem dl_1538 : decode code 1538 = .ok (.iadd, 1) := by decide +kernel
theorem dl_1539 : decode code 1539 = .ok (.iaload, 1) := by decide +kernel
theorem dl_1540 : decode code 1540 = .ok (.invokevirtual 243, 3) := by decide +kernel
theorem dl_1543 : decode code 1543 = .ok (.istore 6, 2) := by decide +kernel
theorem dl_1545 : decode code 1545 = .ok (.aload_n 2, 1) := by decide +kernel
theorem dl_1546 : decode code 1546 = .ok (.invokevirtual 118, 3) := by decide +kernel
theorem dl_1549 : decode code 1549 = .ok (.iload 5, 2) := by decide +kernel
theorem dl_1551 : decode code 1551 = .ok (.if_icmp .eq 5, 3) := by decide +kernel
theorem dl_1556 : decode code 1556 = .ok (.iload 5, 2) := by decide +kernel
theorem dl_1558 : decode code 1558 = .ok (.ifCond .ne 15, 3) := by decide +kernel
theorem dl_1561 : decode code 1561 = .ok (.aload_n 3, 1) := by decide +kernel
theorem dl_1562 : decode code 1562 = .ok (.iconst 0, 1) := by decide +kernel
theorem dl_1563 : decode code 1563 = .ok (.laload, 1) := by decide +kernel
theorem dl_1564 : decode code 1564 = .ok (.iload 6, 2) := by decide +kernel
theorem dl_1566 : decode code 1566 = .ok (.i2l, 1) := by decide +kernel
theorem dl_1567 : decode code 1567 = .ok (.lcmp, 1) := by decide +kernel
theorem dl_1568 : decode code 1568 = .ok (.ifCond .eq 5, 3) := by decide +kernel
theorem dl_1573 : decode code 1573 = .ok (.goto 327, 3) := by decide +kernel
theorem dl_1576 : decode code 1576 = .ok (.aload_n 1, 1) := by decide +kernel
theorem dl_1577 : decode code 1577 = .ok (.aload_n 0, 1) := by decide +kernel
theorem dl_1578 : decode code 1578 = .ok (.iload 4, 2) := by decide +kernel
theorem dl_1580 : decode code 1580 = .ok (.iconst 1, 1) := by decide +kernel
theorem dl_1581 : decode code 1581 = .ok (.iadd, 1) := by decide +kernel
theorem dl_1582 : decode code 1582 = .ok (.iaload, 1) := by decide +kernel
theorem dl_1583 : decode code 1583 = .ok (.aload_n 0, 1) := by decide +kernel
theorem dl_1584 : decode code 1584 = .ok (.iload 4, 2) := by decide +kernel
theorem dl_1586 : decode code 1586 = .ok (.iconst 2, 1) := by decide +kernel
theorem dl_1587 : decode code 1587 = .ok (.iadd, 1) := by decide +kernel
theorem dl_1588 : decode code 1588 = .ok (.iaload, 1) := by decide +kernel
theorem dl_1589 : decode code 1589 = .ok (.aload_n 3, 1) := by decide +kernel
theorem dl_1590 : decode code 1590 = .ok (.invokestatic 244, 3) := by decide +kernel
theorem dl_1593 : decode code 1593 = .ok (.istore 5, 2) := by decide +kernel
theorem dl_1595 : decode code 1595 = .ok (.aload_n 2, 1) := by decide +kernel
theorem dl_1596 : decode code 1596 = .ok (.aload_n 0, 1) := by decide +kernel
theorem dl_1597 : decode code 1597 = .ok (.iload 4, 2) := by decide +kernel
theorem dl_1599 : decode code 1599 = .ok (.iconst 1, 1) := by decide +kernel
theorem dl_1600 : decode code 1600 = .ok (.iadd, 1) := by decide +kernel
theorem dl_1601 : decode code 1601 = .ok (.iaload, 1) := by decide +kernel
theorem dl_1602 : decode code 1602 = .ok (.aload_n 0, 1) := by decide +kernel
theorem dl_1603 : decode code 1603 = .ok (.iload 4, 2) := by decide +kernel
theorem dl_1605 : decode code 1605 = .ok (.iconst 2, 1) := by decide +kernel
theorem dl_1606 : decode code 1606 = .ok (.iadd, 1) := by decide +kernel
theorem dl_1607 : decode code 1607 = .ok (.iaload, 1) := by decide +kernel
theorem dl_1608 : decode code 1608 = .ok (.invokevirtual 246, 3) := by decide +kernel
theorem dl_1611 : decode code 1611 = .ok (.istore 6, 2) := by decide +kernel
theorem dl_1613 : decode code 1613 = .ok (.aload_n 2, 1) := by decide +kernel
theorem dl_1614 : decode code 1614 = .ok (.invokevirtual 118, 3) := by decide +kernel
theorem dl_1617 : decode code 1617 = .ok (.iload 5, 2) := by decide +kernel
theorem dl_1619 : decode code 1619 = .ok (.if_icmp .eq 5, 3) := by decide +kernel
