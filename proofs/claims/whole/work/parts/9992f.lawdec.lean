theorem dL_law_1756 : decode code 1756 = .ok (.iaload, 1) := by decide +kernel
theorem dL_law_1757 : decode code 1757 = .ok (.aload_n 3, 1) := by decide +kernel
theorem dL_law_1758 : decode code 1758 = .ok (.invokestatic 204, 3) := by decide +kernel
theorem dL_law_1761 : decode code 1761 = .ok (.istore 5, 2) := by decide +kernel
theorem dL_law_1763 : decode code 1763 = .ok (.aload_n 2, 1) := by decide +kernel
theorem dL_law_1764 : decode code 1764 = .ok (.aload_n 0, 1) := by decide +kernel
theorem dL_law_1765 : decode code 1765 = .ok (.iload 4, 2) := by decide +kernel
theorem dL_law_1767 : decode code 1767 = .ok (.iconst 1, 1) := by decide +kernel
theorem dL_law_1768 : decode code 1768 = .ok (.iadd, 1) := by decide +kernel
theorem dL_law_1769 : decode code 1769 = .ok (.iaload, 1) := by decide +kernel
theorem dL_law_1770 : decode code 1770 = .ok (.invokevirtual 206, 3) := by decide +kernel
theorem dL_law_1773 : decode code 1773 = .ok (.istore 6, 2) := by decide +kernel
theorem dL_law_1775 : decode code 1775 = .ok (.aload_n 2, 1) := by decide +kernel
theorem dL_law_1776 : decode code 1776 = .ok (.invokevirtual 118, 3) := by decide +kernel
theorem dL_law_1779 : decode code 1779 = .ok (.iload 5, 2) := by decide +kernel
theorem dL_law_1781 : decode code 1781 = .ok (.if_icmp .eq 5, 3) := by decide +kernel
theorem dL_law_1784 : decode code 1784 = .ok (.iconst 0, 1) := by decide +kernel
theorem dL_law_1785 : decode code 1785 = .ok (.ireturn, 1) := by decide +kernel
theorem dL_law_1786 : decode code 1786 = .ok (.iload 5, 2) := by decide +kernel
theorem dL_law_1788 : decode code 1788 = .ok (.ifCond .ne 15, 3) := by decide +kernel
theorem dL_law_1791 : decode code 1791 = .ok (.aload_n 3, 1) := by decide +kernel
theorem dL_law_1792 : decode code 1792 = .ok (.iconst 0, 1) := by decide +kernel
theorem dL_law_1793 : decode code 1793 = .ok (.laload, 1) := by decide +kernel
theorem dL_law_1794 : decode code 1794 = .ok (.iload 6, 2) := by decide +kernel
theorem dL_law_1796 : decode code 1796 = .ok (.i2l, 1) := by decide +kernel
theorem dL_law_1797 : decode code 1797 = .ok (.lcmp, 1) := by decide +kernel
theorem dL_law_1798 : decode code 1798 = .ok (.ifCond .eq 5, 3) := by decide +kernel
theorem dL_law_1801 : decode code 1801 = .ok (.iconst 0, 1) := by decide +kernel
theorem dL_law_1802 : decode code 1802 = .ok (.ireturn, 1) := by decide +kernel
theorem dL_law_1803 : decode code 1803 = .ok (.goto 3, 3) := by decide +kernel
theorem dL_law_1806 : decode code 1806 = .ok (.iinc 4 5, 3) := by decide +kernel
theorem dL_law_1809 : decode code 1809 = .ok (.goto (-1776), 3) := by decide +kernel
theorem dL_law_1812 : decode code 1812 = .ok (.iconst 1, 1) := by decide +kernel
theorem dL_law_1813 : decode code 1813 = .ok (.ireturn, 1) := by decide +kernel
