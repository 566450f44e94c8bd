theorem dJI_compare_0 : decode cJI_compare 0 = .ok (.iload_n 0, 1) := by decide +kernel
theorem dJI_compare_1 : decode cJI_compare 1 = .ok (.iload_n 1, 1) := by decide +kernel
theorem dJI_compare_2 : decode cJI_compare 2 = .ok (.if_icmp .ge 7, 3) := by decide +kernel
theorem dJI_compare_5 : decode cJI_compare 5 = .ok (.iconst (-1), 1) := by decide +kernel
theorem dJI_compare_6 : decode cJI_compare 6 = .ok (.goto 13, 3) := by decide +kernel
theorem dJI_compare_9 : decode cJI_compare 9 = .ok (.iload_n 0, 1) := by decide +kernel
theorem dJI_compare_10 : decode cJI_compare 10 = .ok (.iload_n 1, 1) := by decide +kernel
theorem dJI_compare_11 : decode cJI_compare 11 = .ok (.if_icmp .ne 7, 3) := by decide +kernel
theorem dJI_compare_14 : decode cJI_compare 14 = .ok (.iconst 0, 1) := by decide +kernel
theorem dJI_compare_15 : decode cJI_compare 15 = .ok (.goto 4, 3) := by decide +kernel
theorem dJI_compare_18 : decode cJI_compare 18 = .ok (.iconst 1, 1) := by decide +kernel
theorem dJI_compare_19 : decode cJI_compare 19 = .ok (.ireturn, 1) := by decide +kernel
theorem dJL_compare_0 : decode cJL_compare 0 = .ok (.lload_n 0, 1) := by decide +kernel
theorem dJL_compare_1 : decode cJL_compare 1 = .ok (.lload_n 2, 1) := by decide +kernel
theorem dJL_compare_2 : decode cJL_compare 2 = .ok (.lcmp, 1) := by decide +kernel
theorem dJL_compare_3 : decode cJL_compare 3 = .ok (.ifCond .ge 7, 3) := by decide +kernel
theorem dJL_compare_6 : decode cJL_compare 6 = .ok (.iconst (-1), 1) := by decide +kernel
theorem dJL_compare_7 : decode cJL_compare 7 = .ok (.goto 14, 3) := by decide +kernel
theorem dJL_compare_10 : decode cJL_compare 10 = .ok (.lload_n 0, 1) := by decide +kernel
theorem dJL_compare_11 : decode cJL_compare 11 = .ok (.lload_n 2, 1) := by decide +kernel
theorem dJL_compare_12 : decode cJL_compare 12 = .ok (.lcmp, 1) := by decide +kernel
theorem dJL_compare_13 : decode cJL_compare 13 = .ok (.ifCond .ne 7, 3) := by decide +kernel
theorem dJL_compare_16 : decode cJL_compare 16 = .ok (.iconst 0, 1) := by decide +kernel
theorem dJL_compare_17 : decode cJL_compare 17 = .ok (.goto 4, 3) := by decide +kernel
theorem dJL_compare_20 : decode cJL_compare 20 = .ok (.iconst 1, 1) := by decide +kernel
theorem dJL_compare_21 : decode cJL_compare 21 = .ok (.ireturn, 1) := by decide +kernel
theorem dJA_fill_0 : decode cJA_fill 0 = .ok (.aload_n 0, 1) := by decide +kernel
theorem dJA_fill_1 : decode cJA_fill 1 = .ok (.arraylength, 1) := by decide +kernel
theorem dJA_fill_2 : decode cJA_fill 2 = .ok (.iload_n 1, 1) := by decide +kernel
theorem dJA_fill_3 : decode cJA_fill 3 = .ok (.iload_n 2, 1) := by decide +kernel
theorem dJA_fill_4 : decode cJA_fill 4 = .ok (.invokestatic 13, 3) := by decide +kernel
theorem dJA_fill_7 : decode cJA_fill 7 = .ok (.iload_n 1, 1) := by decide +kernel
theorem dJA_fill_8 : decode cJA_fill 8 = .ok (.istore 5, 2) := by decide +kernel
theorem dJA_fill_10 : decode cJA_fill 10 = .ok (.iload 5, 2) := by decide +kernel
theorem dJA_fill_12 : decode cJA_fill 12 = .ok (.iload_n 2, 1) := by decide +kernel
theorem dJA_fill_13 : decode cJA_fill 13 = .ok (.if_icmp .ge 14, 3) := by decide +kernel
theorem dJA_fill_16 : decode cJA_fill 16 = .ok (.aload_n 0, 1) := by decide +kernel
theorem dJA_fill_17 : decode cJA_fill 17 = .ok (.iload 5, 2) := by decide +kernel
theorem dJA_fill_19 : decode cJA_fill 19 = .ok (.lload_n 3, 1) := by decide +kernel
theorem dJA_fill_20 : decode cJA_fill 20 = .ok (.lastore, 1) := by decide +kernel
theorem dJA_fill_21 : decode cJA_fill 21 = .ok (.iinc 5 1, 3) := by decide +kernel
theorem dJA_fill_24 : decode cJA_fill 24 = .ok (.goto (-14), 3) := by decide +kernel
theorem dJA_fill_27 : decode cJA_fill 27 = .ok (.return_, 1) := by decide +kernel
theorem dJA_rangeCheck_0 : decode cJA_rangeCheck 0 = .ok (.iload_n 1, 1) := by decide +kernel
theorem dJA_rangeCheck_1 : decode cJA_rangeCheck 1 = .ok (.iload_n 2, 1) := by decide +kernel
theorem dJA_rangeCheck_2 : decode cJA_rangeCheck 2 = .ok (.if_icmp .le 44, 3) := by decide +kernel
theorem dJA_rangeCheck_46 : decode cJA_rangeCheck 46 = .ok (.iload_n 1, 1) := by decide +kernel
theorem dJA_rangeCheck_47 : decode cJA_rangeCheck 47 = .ok (.ifCond .ge 12, 3) := by decide +kernel
theorem dJA_rangeCheck_59 : decode cJA_rangeCheck 59 = .ok (.iload_n 2, 1) := by decide +kernel
theorem dJA_rangeCheck_60 : decode cJA_rangeCheck 60 = .ok (.iload_n 0, 1) := by decide +kernel
theorem dJA_rangeCheck_61 : decode cJA_rangeCheck 61 = .ok (.if_icmp .le 12, 3) := by decide +kernel
theorem dJA_rangeCheck_73 : decode cJA_rangeCheck 73 = .ok (.return_, 1) := by decide +kernel
theorem dJA_copyOf_0 : decode cJA_copyOf 0 = .ok (.iload_n 1, 1) := by decide +kernel
theorem dJA_copyOf_1 : decode cJA_copyOf 1 = .ok (.aload_n 0, 1) := by decide +kernel
theorem dJA_copyOf_2 : decode cJA_copyOf 2 = .ok (.arraylength, 1) := by decide +kernel
theorem dJA_copyOf_3 : decode cJA_copyOf 3 = .ok (.if_icmp .ne 11, 3) := by decide +kernel
theorem dJA_copyOf_14 : decode cJA_copyOf 14 = .ok (.iload_n 1, 1) := by decide +kernel
theorem dJA_copyOf_15 : decode cJA_copyOf 15 = .ok (.newarray .long, 2) := by decide +kernel
theorem dJA_copyOf_17 : decode cJA_copyOf 17 = .ok (.astore_n 2, 1) := by decide +kernel
theorem dJA_copyOf_18 : decode cJA_copyOf 18 = .ok (.aload_n 0, 1) := by decide +kernel
theorem dJA_copyOf_19 : decode cJA_copyOf 19 = .ok (.iconst 0, 1) := by decide +kernel
theorem dJA_copyOf_20 : decode cJA_copyOf 20 = .ok (.aload_n 2, 1) := by decide +kernel
theorem dJA_copyOf_21 : decode cJA_copyOf 21 = .ok (.iconst 0, 1) := by decide +kernel
theorem dJA_copyOf_22 : decode cJA_copyOf 22 = .ok (.aload_n 0, 1) := by decide +kernel
theorem dJA_copyOf_23 : decode cJA_copyOf 23 = .ok (.arraylength, 1) := by decide +kernel
theorem dJA_copyOf_24 : decode cJA_copyOf 24 = .ok (.iload_n 1, 1) := by decide +kernel
theorem dJA_copyOf_25 : decode cJA_copyOf 25 = .ok (.invokestatic 304, 3) := by decide +kernel
theorem dJA_copyOf_28 : decode cJA_copyOf 28 = .ok (.invokestatic 150, 3) := by decide +kernel
theorem dJA_copyOf_31 : decode cJA_copyOf 31 = .ok (.aload_n 2, 1) := by decide +kernel
theorem dJA_copyOf_32 : decode cJA_copyOf 32 = .ok (.areturn, 1) := by decide +kernel
