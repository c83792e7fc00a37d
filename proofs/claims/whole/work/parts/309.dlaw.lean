/-! ===== decode rows of the law ===== -/
theorem dL_law_1791 : decode cL_law 1791 = .ok (.if_icmp .eq 30, 3) := by decide +kernel
theorem dL_law_1794 : decode cL_law 1794 = .ok (.iconst 0, 1) := by decide +kernel
theorem dL_law_1795 : decode cL_law 1795 = .ok (.ireturn, 1) := by decide +kernel
theorem dL_law_1796 : decode cL_law 1796 = .ok (.aload_n 1, 1) := by decide +kernel
theorem dL_law_1797 : decode cL_law 1797 = .ok (.aload_n 0, 1) := by decide +kernel
theorem dL_law_1798 : decode cL_law 1798 = .ok (.iload 4, 2) := by decide +kernel
theorem dL_law_1800 : decode cL_law 1800 = .ok (.iconst 1, 1) := by decide +kernel
theorem dL_law_1801 : decode cL_law 1801 = .ok (.iadd, 1) := by decide +kernel
theorem dL_law_1802 : decode cL_law 1802 = .ok (.iaload, 1) := by decide +kernel
theorem dL_law_1803 : decode cL_law 1803 = .ok (.invokevirtual 257, 3) := by decide +kernel
theorem dL_law_1806 : decode cL_law 1806 = .ok (.aload_n 2, 1) := by decide +kernel
theorem dL_law_1807 : decode cL_law 1807 = .ok (.aload_n 0, 1) := by decide +kernel
theorem dL_law_1808 : decode cL_law 1808 = .ok (.iload 4, 2) := by decide +kernel
theorem dL_law_1810 : decode cL_law 1810 = .ok (.iconst 1, 1) := by decide +kernel
theorem dL_law_1811 : decode cL_law 1811 = .ok (.iadd, 1) := by decide +kernel
theorem dL_law_1812 : decode cL_law 1812 = .ok (.iaload, 1) := by decide +kernel
theorem dL_law_1813 : decode cL_law 1813 = .ok (.invokevirtual 260, 3) := by decide +kernel
theorem dL_law_1816 : decode cL_law 1816 = .ok (.if_icmp .eq 5, 3) := by decide +kernel
theorem dL_law_1819 : decode cL_law 1819 = .ok (.iconst 0, 1) := by decide +kernel
theorem dL_law_1820 : decode cL_law 1820 = .ok (.ireturn, 1) := by decide +kernel
theorem dL_law_1821 : decode cL_law 1821 = .ok (.iinc 4 6, 3) := by decide +kernel
theorem dL_law_1824 : decode cL_law 1824 = .ok (.goto (-1801), 3) := by decide +kernel
theorem dL_law_1827 : decode cL_law 1827 = .ok (.iconst 1, 1) := by decide +kernel
theorem dL_law_1828 : decode cL_law 1828 = .ok (.ireturn, 1) := by decide +kernel
