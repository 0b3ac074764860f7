/-! decode rows of the law -/
theorem dl_1624 : decode code 1624 = .ok (.iload 5, 2) := by decide +kernel
theorem dl_1626 : decode code 1626 = .ok (.ifCond .ne 15, 3) := by decide +kernel
theorem dl_1629 : decode code 1629 = .ok (.aload_n 3, 1) := by decide +kernel
theorem dl_1630 : decode code 1630 = .ok (.iconst 0, 1) := by decide +kernel
theorem dl_1631 : decode code 1631 = .ok (.laload, 1) := by decide +kernel
theorem dl_1632 : decode code 1632 = .ok (.iload 6, 2) := by decide +kernel
theorem dl_1634 : decode code 1634 = .ok (.i2l, 1) := by decide +kernel
theorem dl_1635 : decode code 1635 = .ok (.lcmp, 1) := by decide +kernel
theorem dl_1636 : decode code 1636 = .ok (.ifCond .eq 5, 3) := by decide +kernel
theorem dl_1641 : decode code 1641 = .ok (.goto 259, 3) := by decide +kernel
theorem dl_1644 : decode code 1644 = .ok (.aload_n 1, 1) := by decide +kernel
theorem dl_1645 : decode code 1645 = .ok (.aload_n 0, 1) := by decide +kernel
theorem dl_1646 : decode code 1646 = .ok (.iload 4, 2) := by decide +kernel
theorem dl_1648 : decode code 1648 = .ok (.iconst 1, 1) := by decide +kernel
theorem dl_1649 : decode code 1649 = .ok (.iadd, 1) := by decide +kernel
theorem dl_1650 : decode code 1650 = .ok (.iaload, 1) := by decide +kernel
theorem dl_1651 : decode code 1651 = .ok (.aload_n 3, 1) := by decide +kernel
theorem dl_1652 : decode code 1652 = .ok (.invokestatic 247, 3) := by decide +kernel
theorem dl_1655 : decode code 1655 = .ok (.istore 5, 2) := by decide +kernel
theorem dl_1657 : decode code 1657 = .ok (.aload_n 2, 1) := by decide +kernel
theorem dl_1658 : decode code 1658 = .ok (.aload_n 0, 1) := by decide +kernel
theorem dl_1659 : decode code 1659 = .ok (.iload 4, 2) := by decide +kernel
theorem dl_1661 : decode code 1661 = .ok (.iconst 1, 1) := by decide +kernel
theorem dl_1662 : decode code 1662 = .ok (.iadd, 1) := by decide +kernel
theorem dl_1663 : decode code 1663 = .ok (.iaload, 1) := by decide +kernel
theorem dl_1664 : decode code 1664 = .ok (.invokevirtual 249, 3) := by decide +kernel
theorem dl_1667 : decode code 1667 = .ok (.istore 6, 2) := by decide +kernel
theorem dl_1669 : decode code 1669 = .ok (.aload_n 2, 1) := by decide +kernel
theorem dl_1670 : decode code 1670 = .ok (.invokevirtual 118, 3) := by decide +kernel
theorem dl_1673 : decode code 1673 = .ok (.iload 5, 2) := by decide +kernel
theorem dl_1675 : decode code 1675 = .ok (.if_icmp .eq 5, 3) := by decide +kernel
theorem dl_1680 : decode code 1680 = .ok (.iload 5, 2) := by decide +kernel
theorem dl_1682 : decode code 1682 = .ok (.ifCond .ne 15, 3) := by decide +kernel
theorem dl_1685 : decode code 1685 = .ok (.aload_n 3, 1) := by decide +kernel
theorem dl_1686 : decode code 1686 = .ok (.iconst 0, 1) := by decide +kernel
theorem dl_1687 : decode code 1687 = .ok (.laload, 1) := by decide +kernel
theorem dl_1688 : decode code 1688 = .ok (.iload 6, 2) := by decide +kernel
theorem dl_1690 : decode code 1690 = .ok (.i2l, 1) := by decide +kernel
theorem dl_1691 : decode code 1691 = .ok (.lcmp, 1) := by decide +kernel
theorem dl_1692 : decode code 1692 = .ok (.ifCond .eq 5, 3) := by decide +kernel
theorem dl_1697 : decode code 1697 = .ok (.goto 203, 3) := by decide +kernel
theorem dl_1700 : decode code 1700 = .ok (.aload_n 1, 1) := by decide +kernel
theorem dl_1701 : decode code 1701 = .ok (.aload_n 3, 1) := by decide +kernel
theorem dl_1702 : decode code 1702 = .ok (.invokestatic 250, 3) := by decide +kernel
theorem dl_1705 : decode code 1705 = .ok (.istore 5, 2) := by decide +kernel
theorem dl_1707 : decode code 1707 = .ok (.aload_n 2, 1) := by decide +kernel
theorem dl_1708 : decode code 1708 = .ok (.invokevirtual 252, 3) := by decide +kernel
theorem dl_1711 : decode code 1711 = .ok (.lstore 6, 2) := by decide +kernel
theorem dl_1713 : decode code 1713 = .ok (.aload_n 2, 1) := by decide +kernel
theorem dl_1714 : decode code 1714 = .ok (.invokevirtual 118, 3) := by decide +kernel
theorem dl_1717 : decode code 1717 = .ok (.iload 5, 2) := by decide +kernel
theorem dl_1719 : decode code 1719 = .ok (.if_icmp .eq 5, 3) := by decide +kernel
theorem dl_1724 : decode code 1724 = .ok (.iload 5, 2) := by decide +kernel
theorem dl_1726 : decode code 1726 = .ok (.ifCond .ne 14, 3) := by decide +kernel
theorem dl_1729 : decode code 1729 = .ok (.aload_n 3, 1) := by decide +kernel
theorem dl_1730 : decode code 1730 = .ok (.iconst 0, 1) := by decide +kernel
theorem dl_1731 : decode code 1731 = .ok (.laload, 1) := by decide +kernel
theorem dl_1732 : decode code 1732 = .ok (.lload 6, 2) := by decide +kernel
theorem dl_1734 : decode code 1734 = .ok (.lcmp, 1) := by decide +kernel
theorem dl_1735 : decode code 1735 = .ok (.ifCond .eq 5, 3) := by decide +kernel
