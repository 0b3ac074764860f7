/-! decode rows of the law -/
theorem dl_1858 : decode code 1858 = .ok (.invokestatic 263, 3) := by decide +kernel
theorem dl_1861 : decode code 1861 = .ok (.istore 5, 2) := by decide +kernel
theorem dl_1863 : decode code 1863 = .ok (.aload_n 2, 1) := by decide +kernel
theorem dl_1864 : decode code 1864 = .ok (.invokevirtual 265, 3) := by decide +kernel
theorem dl_1867 : decode code 1867 = .ok (.istore 6, 2) := by decide +kernel
theorem dl_1869 : decode code 1869 = .ok (.aload_n 2, 1) := by decide +kernel
theorem dl_1870 : decode code 1870 = .ok (.invokevirtual 118, 3) := by decide +kernel
theorem dl_1873 : decode code 1873 = .ok (.iload 5, 2) := by decide +kernel
theorem dl_1875 : decode code 1875 = .ok (.if_icmp .eq 5, 3) := by decide +kernel
theorem dl_1880 : decode code 1880 = .ok (.iload 5, 2) := by decide +kernel
theorem dl_1882 : decode code 1882 = .ok (.ifCond .ne 15, 3) := by decide +kernel
theorem dl_1885 : decode code 1885 = .ok (.aload_n 3, 1) := by decide +kernel
theorem dl_1886 : decode code 1886 = .ok (.iconst 0, 1) := by decide +kernel
theorem dl_1887 : decode code 1887 = .ok (.laload, 1) := by decide +kernel
theorem dl_1888 : decode code 1888 = .ok (.iload 6, 2) := by decide +kernel
theorem dl_1890 : decode code 1890 = .ok (.i2l, 1) := by decide +kernel
theorem dl_1891 : decode code 1891 = .ok (.lcmp, 1) := by decide +kernel
theorem dl_1892 : decode code 1892 = .ok (.ifCond .eq 5, 3) := by decide +kernel
theorem dl_1897 : decode code 1897 = .ok (.goto 3, 3) := by decide +kernel
theorem dl_1900 : decode code 1900 = .ok (.iinc 4 4, 3) := by decide +kernel
theorem dl_1903 : decode code 1903 = .ok (.goto (-1880), 3) := by decide +kernel
theorem dl_1906 : decode code 1906 = .ok (.iconst 1, 1) := by decide +kernel
theorem dl_1907 : decode code 1907 = .ok (.ireturn, 1) := by decide +kernel
