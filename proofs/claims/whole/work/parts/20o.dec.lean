/-! decode rows of the law -/
theorem dl_1740 : decode code 1740 = .ok (.goto 160, 3) := by decide +kernel
theorem dl_1743 : decode code 1743 = .ok (.aload_n 1, 1) := by decide +kernel
theorem dl_1744 : decode code 1744 = .ok (.aload_n 0, 1) := by decide +kernel
theorem dl_1745 : decode code 1745 = .ok (.iload 4, 2) := by decide +kernel
theorem dl_1747 : decode code 1747 = .ok (.iconst 1, 1) := by decide +kernel
theorem dl_1748 : decode code 1748 = .ok (.iadd, 1) := by decide +kernel
theorem dl_1749 : decode code 1749 = .ok (.iaload, 1) := by decide +kernel
theorem dl_1750 : decode code 1750 = .ok (.aload_n 3, 1) := by decide +kernel
theorem dl_1751 : decode code 1751 = .ok (.invokestatic 253, 3) := by decide +kernel
theorem dl_1754 : decode code 1754 = .ok (.istore 5, 2) := by decide +kernel
theorem dl_1756 : decode code 1756 = .ok (.aload_n 2, 1) := by decide +kernel
theorem dl_1757 : decode code 1757 = .ok (.aload_n 0, 1) := by decide +kernel
theorem dl_1758 : decode code 1758 = .ok (.iload 4, 2) := by decide +kernel
theorem dl_1760 : decode code 1760 = .ok (.iconst 1, 1) := by decide +kernel
theorem dl_1761 : decode code 1761 = .ok (.iadd, 1) := by decide +kernel
theorem dl_1762 : decode code 1762 = .ok (.iaload, 1) := by decide +kernel
theorem dl_1763 : decode code 1763 = .ok (.invokevirtual 255, 3) := by decide +kernel
theorem dl_1766 : decode code 1766 = .ok (.istore 6, 2) := by decide +kernel
theorem dl_1768 : decode code 1768 = .ok (.aload_n 2, 1) := by decide +kernel
theorem dl_1769 : decode code 1769 = .ok (.invokevirtual 118, 3) := by decide +kernel
theorem dl_1772 : decode code 1772 = .ok (.iload 5, 2) := by decide +kernel
theorem dl_1774 : decode code 1774 = .ok (.if_icmp .eq 5, 3) := by decide +kernel
theorem dl_1779 : decode code 1779 = .ok (.iload 5, 2) := by decide +kernel
theorem dl_1781 : decode code 1781 = .ok (.ifCond .ne 15, 3) := by decide +kernel
theorem dl_1784 : decode code 1784 = .ok (.aload_n 3, 1) := by decide +kernel
theorem dl_1785 : decode code 1785 = .ok (.iconst 0, 1) := by decide +kernel
theorem dl_1786 : decode code 1786 = .ok (.laload, 1) := by decide +kernel
theorem dl_1787 : decode code 1787 = .ok (.iload 6, 2) := by decide +kernel
theorem dl_1789 : decode code 1789 = .ok (.i2l, 1) := by decide +kernel
theorem dl_1790 : decode code 1790 = .ok (.lcmp, 1) := by decide +kernel
theorem dl_1791 : decode code 1791 = .ok (.ifCond .eq 5, 3) := by decide +kernel
theorem dl_1796 : decode code 1796 = .ok (.goto 104, 3) := by decide +kernel
theorem dl_1799 : decode code 1799 = .ok (.aload_n 1, 1) := by decide +kernel
theorem dl_1800 : decode code 1800 = .ok (.aload_n 3, 1) := by decide +kernel
theorem dl_1801 : decode code 1801 = .ok (.invokestatic 256, 3) := by decide +kernel
theorem dl_1804 : decode code 1804 = .ok (.istore 5, 2) := by decide +kernel
theorem dl_1806 : decode code 1806 = .ok (.aload_n 2, 1) := by decide +kernel
theorem dl_1807 : decode code 1807 = .ok (.invokevirtual 258, 3) := by decide +kernel
theorem dl_1810 : decode code 1810 = .ok (.istore 6, 2) := by decide +kernel
theorem dl_1812 : decode code 1812 = .ok (.aload_n 2, 1) := by decide +kernel
theorem dl_1813 : decode code 1813 = .ok (.invokevirtual 118, 3) := by decide +kernel
theorem dl_1816 : decode code 1816 = .ok (.iload 5, 2) := by decide +kernel
theorem dl_1818 : decode code 1818 = .ok (.if_icmp .eq 5, 3) := by decide +kernel
theorem dl_1823 : decode code 1823 = .ok (.iload 5, 2) := by decide +kernel
theorem dl_1825 : decode code 1825 = .ok (.ifCond .ne 15, 3) := by decide +kernel
theorem dl_1828 : decode code 1828 = .ok (.aload_n 3, 1) := by decide +kernel
theorem dl_1829 : decode code 1829 = .ok (.iconst 0, 1) := by decide +kernel
theorem dl_1830 : decode code 1830 = .ok (.laload, 1) := by decide +kernel
theorem dl_1831 : decode code 1831 = .ok (.iload 6, 2) := by decide +kernel
theorem dl_1833 : decode code 1833 = .ok (.i2l, 1) := by decide +kernel
theorem dl_1834 : decode code 1834 = .ok (.lcmp, 1) := by decide +kernel
theorem dl_1835 : decode code 1835 = .ok (.ifCond .eq 5, 3) := by decide +kernel
theorem dl_1840 : decode code 1840 = .ok (.goto 60, 3) := by decide +kernel
theorem dl_1843 : decode code 1843 = .ok (.aload_n 1, 1) := by decide +kernel
theorem dl_1844 : decode code 1844 = .ok (.invokevirtual 259, 3) := by decide +kernel
theorem dl_1847 : decode code 1847 = .ok (.aload_n 2, 1) := by decide +kernel
theorem dl_1848 : decode code 1848 = .ok (.invokevirtual 262, 3) := by decide +kernel
theorem dl_1851 : decode code 1851 = .ok (.if_icmp .eq 49, 3) := by decide +kernel
theorem dl_1856 : decode code 1856 = .ok (.aload_n 1, 1) := by decide +kernel
theorem dl_1857 : decode code 1857 = .ok (.aload_n 3, 1) := by decide +kernel
