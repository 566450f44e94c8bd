theorem dX0_init_0 : decode cX0_init 0 = .ok (.aload_n 0, 1) := by decide +kernel
theorem dX0_init_1 : decode cX0_init 1 = .ok (.invokespecial 5, 3) := by decide +kernel
theorem dX0_init_4 : decode cX0_init 4 = .ok (.aload_n 0, 1) := by decide +kernel
theorem dX0_init_5 : decode cX0_init 5 = .ok (.iload_n 1, 1) := by decide +kernel
theorem dX0_init_6 : decode cX0_init 6 = .ok (.putfield 11, 3) := by decide +kernel
theorem dX0_init_9 : decode cX0_init 9 = .ok (.aload_n 0, 1) := by decide +kernel
theorem dX0_init_10 : decode cX0_init 10 = .ok (.bipush 64, 2) := by decide +kernel
theorem dX0_init_12 : decode cX0_init 12 = .ok (.newarray .long, 2) := by decide +kernel
theorem dX0_init_14 : decode cX0_init 14 = .ok (.putfield 15, 3) := by decide +kernel
theorem dX0_init_17 : decode cX0_init 17 = .ok (.aload_n 0, 1) := by decide +kernel
theorem dX0_init_18 : decode cX0_init 18 = .ok (.bipush 64, 2) := by decide +kernel
theorem dX0_init_20 : decode cX0_init 20 = .ok (.newarray .boolean, 2) := by decide +kernel
theorem dX0_init_22 : decode cX0_init 22 = .ok (.putfield 19, 3) := by decide +kernel
theorem dX0_init_25 : decode cX0_init 25 = .ok (.aload_n 0, 1) := by decide +kernel
theorem dX0_init_26 : decode cX0_init 26 = .ok (.bipush 64, 2) := by decide +kernel
theorem dX0_init_28 : decode cX0_init 28 = .ok (.newarray .long, 2) := by decide +kernel
theorem dX0_init_30 : decode cX0_init 30 = .ok (.putfield 23, 3) := by decide +kernel
theorem dX0_init_33 : decode cX0_init 33 = .ok (.aload_n 0, 1) := by decide +kernel
theorem dX0_init_34 : decode cX0_init 34 = .ok (.bipush 64, 2) := by decide +kernel
theorem dX0_init_36 : decode cX0_init 36 = .ok (.newarray .boolean, 2) := by decide +kernel
theorem dX0_init_38 : decode cX0_init 38 = .ok (.putfield 26, 3) := by decide +kernel
theorem dX0_init_41 : decode cX0_init 41 = .ok (.aload_n 0, 1) := by decide +kernel
theorem dX0_init_42 : decode cX0_init 42 = .ok (.bipush 64, 2) := by decide +kernel
theorem dX0_init_44 : decode cX0_init 44 = .ok (.newarray .long, 2) := by decide +kernel
theorem dX0_init_46 : decode cX0_init 46 = .ok (.putfield 29, 3) := by decide +kernel
theorem dX0_init_49 : decode cX0_init 49 = .ok (.iconst 0, 1) := by decide +kernel
theorem dX0_init_50 : decode cX0_init 50 = .ok (.istore_n 2, 1) := by decide +kernel
theorem dX0_init_51 : decode cX0_init 51 = .ok (.iload_n 2, 1) := by decide +kernel
theorem dX0_init_52 : decode cX0_init 52 = .ok (.bipush 16, 2) := by decide +kernel
theorem dX0_init_54 : decode cX0_init 54 = .ok (.if_icmp .ge 16, 3) := by decide +kernel
theorem dX0_init_57 : decode cX0_init 57 = .ok (.aload_n 0, 1) := by decide +kernel
theorem dX0_init_58 : decode cX0_init 58 = .ok (.getfield 19, 3) := by decide +kernel
theorem dX0_init_61 : decode cX0_init 61 = .ok (.iload_n 2, 1) := by decide +kernel
theorem dX0_init_62 : decode cX0_init 62 = .ok (.iconst 1, 1) := by decide +kernel
theorem dX0_init_63 : decode cX0_init 63 = .ok (.bastore, 1) := by decide +kernel
theorem dX0_init_64 : decode cX0_init 64 = .ok (.iinc 2 1, 3) := by decide +kernel
theorem dX0_init_67 : decode cX0_init 67 = .ok (.goto (-16), 3) := by decide +kernel
theorem dX0_init_70 : decode cX0_init 70 = .ok (.aload_n 0, 1) := by decide +kernel
theorem dX0_init_71 : decode cX0_init 71 = .ok (.getfield 23, 3) := by decide +kernel
theorem dX0_init_74 : decode cX0_init 74 = .ok (.iconst 0, 1) := by decide +kernel
theorem dX0_init_75 : decode cX0_init 75 = .ok (.ldc2_w 32, 3) := by decide +kernel
theorem dX0_init_78 : decode cX0_init 78 = .ok (.lastore, 1) := by decide +kernel
theorem dX0_init_79 : decode cX0_init 79 = .ok (.aload_n 0, 1) := by decide +kernel
theorem dX0_init_80 : decode cX0_init 80 = .ok (.getfield 15, 3) := by decide +kernel
theorem dX0_init_83 : decode cX0_init 83 = .ok (.bipush 16, 2) := by decide +kernel
theorem dX0_init_85 : decode cX0_init 85 = .ok (.ldc2_w 34, 3) := by decide +kernel
theorem dX0_init_88 : decode cX0_init 88 = .ok (.lastore, 1) := by decide +kernel
theorem dX0_init_89 : decode cX0_init 89 = .ok (.aload_n 0, 1) := by decide +kernel
theorem dX0_init_90 : decode cX0_init 90 = .ok (.bipush 17, 2) := by decide +kernel
theorem dX0_init_92 : decode cX0_init 92 = .ok (.putfield 36, 3) := by decide +kernel
theorem dX0_init_95 : decode cX0_init 95 = .ok (.aload_n 0, 1) := by decide +kernel
theorem dX0_init_96 : decode cX0_init 96 = .ok (.iconst 0, 1) := by decide +kernel
theorem dX0_init_97 : decode cX0_init 97 = .ok (.putfield 39, 3) := by decide +kernel
theorem dX0_init_100 : decode cX0_init 100 = .ok (.return_, 1) := by decide +kernel
theorem dX0_bitsAt_0 : decode cX0_bitsAt 0 = .ok (.aload_n 0, 1) := by decide +kernel
theorem dX0_bitsAt_1 : decode cX0_bitsAt 1 = .ok (.getfield 15, 3) := by decide +kernel
theorem dX0_bitsAt_4 : decode cX0_bitsAt 4 = .ok (.iload_n 1, 1) := by decide +kernel
theorem dX0_bitsAt_5 : decode cX0_bitsAt 5 = .ok (.laload, 1) := by decide +kernel
theorem dX0_bitsAt_6 : decode cX0_bitsAt 6 = .ok (.lreturn, 1) := by decide +kernel
theorem dX0_isReference_0 : decode cX0_isReference 0 = .ok (.aload_n 0, 1) := by decide +kernel
theorem dX0_isReference_1 : decode cX0_isReference 1 = .ok (.getfield 19, 3) := by decide +kernel
theorem dX0_isReference_4 : decode cX0_isReference 4 = .ok (.iload_n 1, 1) := by decide +kernel
theorem dX0_isReference_5 : decode cX0_isReference 5 = .ok (.baload, 1) := by decide +kernel
theorem dX0_isReference_6 : decode cX0_isReference 6 = .ok (.ireturn, 1) := by decide +kernel
theorem dX0_handleAt_0 : decode cX0_handleAt 0 = .ok (.aload_n 0, 1) := by decide +kernel
theorem dX0_handleAt_1 : decode cX0_handleAt 1 = .ok (.getfield 19, 3) := by decide +kernel
theorem dX0_handleAt_4 : decode cX0_handleAt 4 = .ok (.iload_n 1, 1) := by decide +kernel
theorem dX0_handleAt_5 : decode cX0_handleAt 5 = .ok (.baload, 1) := by decide +kernel
theorem dX0_handleAt_6 : decode cX0_handleAt 6 = .ok (.ifCond .eq 16, 3) := by decide +kernel
theorem dX0_handleAt_9 : decode cX0_handleAt 9 = .ok (.aload_n 0, 1) := by decide +kernel
theorem dX0_handleAt_10 : decode cX0_handleAt 10 = .ok (.getfield 15, 3) := by decide +kernel
theorem dX0_handleAt_13 : decode cX0_handleAt 13 = .ok (.iload_n 1, 1) := by decide +kernel
theorem dX0_handleAt_14 : decode cX0_handleAt 14 = .ok (.laload, 1) := by decide +kernel
theorem dX0_handleAt_15 : decode cX0_handleAt 15 = .ok (.bipush 13, 2) := by decide +kernel
theorem dX0_handleAt_17 : decode cX0_handleAt 17 = .ok (.lushr, 1) := by decide +kernel
theorem dX0_handleAt_18 : decode cX0_handleAt 18 = .ok (.l2i, 1) := by decide +kernel
theorem dX0_handleAt_19 : decode cX0_handleAt 19 = .ok (.goto 4, 3) := by decide +kernel
theorem dX0_handleAt_22 : decode cX0_handleAt 22 = .ok (.iconst 0, 1) := by decide +kernel
theorem dX0_handleAt_23 : decode cX0_handleAt 23 = .ok (.ireturn, 1) := by decide +kernel
theorem dX0_placeAt_0 : decode cX0_placeAt 0 = .ok (.aload_n 0, 1) := by decide +kernel
theorem dX0_placeAt_1 : decode cX0_placeAt 1 = .ok (.getfield 19, 3) := by decide +kernel
theorem dX0_placeAt_4 : decode cX0_placeAt 4 = .ok (.iload_n 1, 1) := by decide +kernel
theorem dX0_placeAt_5 : decode cX0_placeAt 5 = .ok (.baload, 1) := by decide +kernel
theorem dX0_placeAt_6 : decode cX0_placeAt 6 = .ok (.ifCond .eq 17, 3) := by decide +kernel
theorem dX0_placeAt_9 : decode cX0_placeAt 9 = .ok (.aload_n 0, 1) := by decide +kernel
theorem dX0_placeAt_10 : decode cX0_placeAt 10 = .ok (.getfield 15, 3) := by decide +kernel
theorem dX0_placeAt_13 : decode cX0_placeAt 13 = .ok (.iload_n 1, 1) := by decide +kernel
theorem dX0_placeAt_14 : decode cX0_placeAt 14 = .ok (.laload, 1) := by decide +kernel
theorem dX0_placeAt_15 : decode cX0_placeAt 15 = .ok (.ldc2_w 42, 3) := by decide +kernel
theorem dX0_placeAt_18 : decode cX0_placeAt 18 = .ok (.land, 1) := by decide +kernel
theorem dX0_placeAt_19 : decode cX0_placeAt 19 = .ok (.l2i, 1) := by decide +kernel
theorem dX0_placeAt_20 : decode cX0_placeAt 20 = .ok (.goto 4, 3) := by decide +kernel
theorem dX0_placeAt_23 : decode cX0_placeAt 23 = .ok (.iconst 0, 1) := by decide +kernel
theorem dX0_placeAt_24 : decode cX0_placeAt 24 = .ok (.ireturn, 1) := by decide +kernel
theorem dX0_kindAt_0 : decode cX0_kindAt 0 = .ok (.aload_n 0, 1) := by decide +kernel
theorem dX0_kindAt_1 : decode cX0_kindAt 1 = .ok (.getfield 19, 3) := by decide +kernel
theorem dX0_kindAt_4 : decode cX0_kindAt 4 = .ok (.iload_n 1, 1) := by decide +kernel
theorem dX0_kindAt_5 : decode cX0_kindAt 5 = .ok (.baload, 1) := by decide +kernel
theorem dX0_kindAt_6 : decode cX0_kindAt 6 = .ok (.ifCond .eq 18, 3) := by decide +kernel
theorem dX0_kindAt_9 : decode cX0_kindAt 9 = .ok (.aload_n 0, 1) := by decide +kernel
theorem dX0_kindAt_10 : decode cX0_kindAt 10 = .ok (.aload_n 0, 1) := by decide +kernel
theorem dX0_kindAt_11 : decode cX0_kindAt 11 = .ok (.iload_n 1, 1) := by decide +kernel
theorem dX0_kindAt_12 : decode cX0_kindAt 12 = .ok (.invokevirtual 44, 3) := by decide +kernel
theorem dX0_kindAt_15 : decode cX0_kindAt 15 = .ok (.invokevirtual 48, 3) := by decide +kernel
theorem dX0_kindAt_18 : decode cX0_kindAt 18 = .ok (.invokestatic 52, 3) := by decide +kernel
theorem dX0_kindAt_21 : decode cX0_kindAt 21 = .ok (.goto 4, 3) := by decide +kernel
theorem dX0_kindAt_24 : decode cX0_kindAt 24 = .ok (.iconst 0, 1) := by decide +kernel
theorem dX0_kindAt_25 : decode cX0_kindAt 25 = .ok (.ireturn, 1) := by decide +kernel
theorem dX0_sameWords_0 : decode cX0_sameWords 0 = .ok (.aload_n 0, 1) := by decide +kernel
theorem dX0_sameWords_1 : decode cX0_sameWords 1 = .ok (.getfield 19, 3) := by decide +kernel
theorem dX0_sameWords_4 : decode cX0_sameWords 4 = .ok (.iload_n 1, 1) := by decide +kernel
theorem dX0_sameWords_5 : decode cX0_sameWords 5 = .ok (.baload, 1) := by decide +kernel
theorem dX0_sameWords_6 : decode cX0_sameWords 6 = .ok (.aload_n 0, 1) := by decide +kernel
theorem dX0_sameWords_7 : decode cX0_sameWords 7 = .ok (.getfield 19, 3) := by decide +kernel
theorem dX0_sameWords_10 : decode cX0_sameWords 10 = .ok (.iload_n 2, 1) := by decide +kernel
theorem dX0_sameWords_11 : decode cX0_sameWords 11 = .ok (.baload, 1) := by decide +kernel
theorem dX0_sameWords_12 : decode cX0_sameWords 12 = .ok (.if_icmp .ne 23, 3) := by decide +kernel
theorem dX0_sameWords_15 : decode cX0_sameWords 15 = .ok (.aload_n 0, 1) := by decide +kernel
theorem dX0_sameWords_16 : decode cX0_sameWords 16 = .ok (.getfield 15, 3) := by decide +kernel
theorem dX0_sameWords_19 : decode cX0_sameWords 19 = .ok (.iload_n 1, 1) := by decide +kernel
theorem dX0_sameWords_20 : decode cX0_sameWords 20 = .ok (.laload, 1) := by decide +kernel
theorem dX0_sameWords_21 : decode cX0_sameWords 21 = .ok (.aload_n 0, 1) := by decide +kernel
theorem dX0_sameWords_22 : decode cX0_sameWords 22 = .ok (.getfield 15, 3) := by decide +kernel
theorem dX0_sameWords_25 : decode cX0_sameWords 25 = .ok (.iload_n 2, 1) := by decide +kernel
theorem dX0_sameWords_26 : decode cX0_sameWords 26 = .ok (.laload, 1) := by decide +kernel
theorem dX0_sameWords_27 : decode cX0_sameWords 27 = .ok (.lcmp, 1) := by decide +kernel
theorem dX0_sameWords_28 : decode cX0_sameWords 28 = .ok (.ifCond .ne 7, 3) := by decide +kernel
theorem dX0_sameWords_31 : decode cX0_sameWords 31 = .ok (.iconst 1, 1) := by decide +kernel
theorem dX0_sameWords_32 : decode cX0_sameWords 32 = .ok (.goto 4, 3) := by decide +kernel
theorem dX0_sameWords_35 : decode cX0_sameWords 35 = .ok (.iconst 0, 1) := by decide +kernel
theorem dX0_sameWords_36 : decode cX0_sameWords 36 = .ok (.ireturn, 1) := by decide +kernel
theorem dX0_setNumber_0 : decode cX0_setNumber 0 = .ok (.aload_n 0, 1) := by decide +kernel
theorem dX0_setNumber_1 : decode cX0_setNumber 1 = .ok (.getfield 15, 3) := by decide +kernel
theorem dX0_setNumber_4 : decode cX0_setNumber 4 = .ok (.iload_n 1, 1) := by decide +kernel
theorem dX0_setNumber_5 : decode cX0_setNumber 5 = .ok (.lload_n 2, 1) := by decide +kernel
theorem dX0_setNumber_6 : decode cX0_setNumber 6 = .ok (.lastore, 1) := by decide +kernel
theorem dX0_setNumber_7 : decode cX0_setNumber 7 = .ok (.aload_n 0, 1) := by decide +kernel
theorem dX0_setNumber_8 : decode cX0_setNumber 8 = .ok (.getfield 19, 3) := by decide +kernel
theorem dX0_setNumber_11 : decode cX0_setNumber 11 = .ok (.iload_n 1, 1) := by decide +kernel
theorem dX0_setNumber_12 : decode cX0_setNumber 12 = .ok (.iconst 0, 1) := by decide +kernel
theorem dX0_setNumber_13 : decode cX0_setNumber 13 = .ok (.bastore, 1) := by decide +kernel
theorem dX0_setNumber_14 : decode cX0_setNumber 14 = .ok (.return_, 1) := by decide +kernel
theorem dX0_setReference_0 : decode cX0_setReference 0 = .ok (.aload_n 0, 1) := by decide +kernel
theorem dX0_setReference_1 : decode cX0_setReference 1 = .ok (.getfield 15, 3) := by decide +kernel
theorem dX0_setReference_4 : decode cX0_setReference 4 = .ok (.iload_n 1, 1) := by decide +kernel
theorem dX0_setReference_5 : decode cX0_setReference 5 = .ok (.iload_n 2, 1) := by decide +kernel
theorem dX0_setReference_6 : decode cX0_setReference 6 = .ok (.i2l, 1) := by decide +kernel
theorem dX0_setReference_7 : decode cX0_setReference 7 = .ok (.bipush 13, 2) := by decide +kernel
theorem dX0_setReference_9 : decode cX0_setReference 9 = .ok (.lshl, 1) := by decide +kernel
theorem dX0_setReference_10 : decode cX0_setReference 10 = .ok (.iload_n 3, 1) := by decide +kernel
theorem dX0_setReference_11 : decode cX0_setReference 11 = .ok (.i2l, 1) := by decide +kernel
theorem dX0_setReference_12 : decode cX0_setReference 12 = .ok (.lor, 1) := by decide +kernel
theorem dX0_setReference_13 : decode cX0_setReference 13 = .ok (.lastore, 1) := by decide +kernel
theorem dX0_setReference_14 : decode cX0_setReference 14 = .ok (.aload_n 0, 1) := by decide +kernel
theorem dX0_setReference_15 : decode cX0_setReference 15 = .ok (.getfield 19, 3) := by decide +kernel
theorem dX0_setReference_18 : decode cX0_setReference 18 = .ok (.iload_n 1, 1) := by decide +kernel
theorem dX0_setReference_19 : decode cX0_setReference 19 = .ok (.iconst 1, 1) := by decide +kernel
theorem dX0_setReference_20 : decode cX0_setReference 20 = .ok (.bastore, 1) := by decide +kernel
theorem dX0_setReference_21 : decode cX0_setReference 21 = .ok (.return_, 1) := by decide +kernel
theorem dX0_setWord_0 : decode cX0_setWord 0 = .ok (.aload_n 0, 1) := by decide +kernel
theorem dX0_setWord_1 : decode cX0_setWord 1 = .ok (.getfield 15, 3) := by decide +kernel
theorem dX0_setWord_4 : decode cX0_setWord 4 = .ok (.iload_n 1, 1) := by decide +kernel
theorem dX0_setWord_5 : decode cX0_setWord 5 = .ok (.aload_n 0, 1) := by decide +kernel
theorem dX0_setWord_6 : decode cX0_setWord 6 = .ok (.getfield 15, 3) := by decide +kernel
theorem dX0_setWord_9 : decode cX0_setWord 9 = .ok (.iload_n 2, 1) := by decide +kernel
theorem dX0_setWord_10 : decode cX0_setWord 10 = .ok (.laload, 1) := by decide +kernel
theorem dX0_setWord_11 : decode cX0_setWord 11 = .ok (.lastore, 1) := by decide +kernel
theorem dX0_setWord_12 : decode cX0_setWord 12 = .ok (.aload_n 0, 1) := by decide +kernel
theorem dX0_setWord_13 : decode cX0_setWord 13 = .ok (.getfield 19, 3) := by decide +kernel
theorem dX0_setWord_16 : decode cX0_setWord 16 = .ok (.iload_n 1, 1) := by decide +kernel
theorem dX0_setWord_17 : decode cX0_setWord 17 = .ok (.aload_n 0, 1) := by decide +kernel
theorem dX0_setWord_18 : decode cX0_setWord 18 = .ok (.getfield 19, 3) := by decide +kernel
theorem dX0_setWord_21 : decode cX0_setWord 21 = .ok (.iload_n 2, 1) := by decide +kernel
theorem dX0_setWord_22 : decode cX0_setWord 22 = .ok (.baload, 1) := by decide +kernel
theorem dX0_setWord_23 : decode cX0_setWord 23 = .ok (.bastore, 1) := by decide +kernel
theorem dX0_setWord_24 : decode cX0_setWord 24 = .ok (.return_, 1) := by decide +kernel
theorem dX0_copyWords_0 : decode cX0_copyWords 0 = .ok (.aload_n 0, 1) := by decide +kernel
theorem dX0_copyWords_1 : decode cX0_copyWords 1 = .ok (.getfield 15, 3) := by decide +kernel
theorem dX0_copyWords_4 : decode cX0_copyWords 4 = .ok (.iload_n 2, 1) := by decide +kernel
theorem dX0_copyWords_5 : decode cX0_copyWords 5 = .ok (.aload_n 0, 1) := by decide +kernel
theorem dX0_copyWords_6 : decode cX0_copyWords 6 = .ok (.getfield 15, 3) := by decide +kernel
theorem dX0_copyWords_9 : decode cX0_copyWords 9 = .ok (.iload_n 1, 1) := by decide +kernel
theorem dX0_copyWords_10 : decode cX0_copyWords 10 = .ok (.iload_n 3, 1) := by decide +kernel
theorem dX0_copyWords_11 : decode cX0_copyWords 11 = .ok (.invokestatic 56, 3) := by decide +kernel
theorem dX0_copyWords_14 : decode cX0_copyWords 14 = .ok (.iload_n 1, 1) := by decide +kernel
theorem dX0_copyWords_15 : decode cX0_copyWords 15 = .ok (.iload_n 2, 1) := by decide +kernel
theorem dX0_copyWords_16 : decode cX0_copyWords 16 = .ok (.if_icmp .gt 39, 3) := by decide +kernel
theorem dX0_copyWords_19 : decode cX0_copyWords 19 = .ok (.iconst 0, 1) := by decide +kernel
theorem dX0_copyWords_20 : decode cX0_copyWords 20 = .ok (.istore 4, 2) := by decide +kernel
theorem dX0_copyWords_22 : decode cX0_copyWords 22 = .ok (.iload 4, 2) := by decide +kernel
theorem dX0_copyWords_24 : decode cX0_copyWords 24 = .ok (.iload_n 3, 1) := by decide +kernel
theorem dX0_copyWords_25 : decode cX0_copyWords 25 = .ok (.if_icmp .ge 27, 3) := by decide +kernel
theorem dX0_copyWords_28 : decode cX0_copyWords 28 = .ok (.aload_n 0, 1) := by decide +kernel
theorem dX0_copyWords_29 : decode cX0_copyWords 29 = .ok (.getfield 19, 3) := by decide +kernel
theorem dX0_copyWords_32 : decode cX0_copyWords 32 = .ok (.iload_n 1, 1) := by decide +kernel
theorem dX0_copyWords_33 : decode cX0_copyWords 33 = .ok (.iload 4, 2) := by decide +kernel
theorem dX0_copyWords_35 : decode cX0_copyWords 35 = .ok (.iadd, 1) := by decide +kernel
theorem dX0_copyWords_36 : decode cX0_copyWords 36 = .ok (.aload_n 0, 1) := by decide +kernel
theorem dX0_copyWords_37 : decode cX0_copyWords 37 = .ok (.getfield 19, 3) := by decide +kernel
theorem dX0_copyWords_40 : decode cX0_copyWords 40 = .ok (.iload_n 2, 1) := by decide +kernel
theorem dX0_copyWords_41 : decode cX0_copyWords 41 = .ok (.iload 4, 2) := by decide +kernel
theorem dX0_copyWords_43 : decode cX0_copyWords 43 = .ok (.iadd, 1) := by decide +kernel
theorem dX0_copyWords_44 : decode cX0_copyWords 44 = .ok (.baload, 1) := by decide +kernel
theorem dX0_copyWords_45 : decode cX0_copyWords 45 = .ok (.bastore, 1) := by decide +kernel
theorem dX0_copyWords_46 : decode cX0_copyWords 46 = .ok (.iinc 4 1, 3) := by decide +kernel
theorem dX0_copyWords_49 : decode cX0_copyWords 49 = .ok (.goto (-27), 3) := by decide +kernel
theorem dX0_copyWords_52 : decode cX0_copyWords 52 = .ok (.goto 37, 3) := by decide +kernel
theorem dX0_copyWords_55 : decode cX0_copyWords 55 = .ok (.iload_n 3, 1) := by decide +kernel
theorem dX0_copyWords_56 : decode cX0_copyWords 56 = .ok (.iconst 1, 1) := by decide +kernel
theorem dX0_copyWords_57 : decode cX0_copyWords 57 = .ok (.isub, 1) := by decide +kernel
theorem dX0_copyWords_58 : decode cX0_copyWords 58 = .ok (.istore 4, 2) := by decide +kernel
theorem dX0_copyWords_60 : decode cX0_copyWords 60 = .ok (.iload 4, 2) := by decide +kernel
theorem dX0_copyWords_62 : decode cX0_copyWords 62 = .ok (.ifCond .lt 27, 3) := by decide +kernel
theorem dX0_copyWords_65 : decode cX0_copyWords 65 = .ok (.aload_n 0, 1) := by decide +kernel
theorem dX0_copyWords_66 : decode cX0_copyWords 66 = .ok (.getfield 19, 3) := by decide +kernel
theorem dX0_copyWords_69 : decode cX0_copyWords 69 = .ok (.iload_n 1, 1) := by decide +kernel
theorem dX0_copyWords_70 : decode cX0_copyWords 70 = .ok (.iload 4, 2) := by decide +kernel
theorem dX0_copyWords_72 : decode cX0_copyWords 72 = .ok (.iadd, 1) := by decide +kernel
theorem dX0_copyWords_73 : decode cX0_copyWords 73 = .ok (.aload_n 0, 1) := by decide +kernel
theorem dX0_copyWords_74 : decode cX0_copyWords 74 = .ok (.getfield 19, 3) := by decide +kernel
theorem dX0_copyWords_77 : decode cX0_copyWords 77 = .ok (.iload_n 2, 1) := by decide +kernel
theorem dX0_copyWords_78 : decode cX0_copyWords 78 = .ok (.iload 4, 2) := by decide +kernel
theorem dX0_copyWords_80 : decode cX0_copyWords 80 = .ok (.iadd, 1) := by decide +kernel
theorem dX0_copyWords_81 : decode cX0_copyWords 81 = .ok (.baload, 1) := by decide +kernel
theorem dX0_copyWords_82 : decode cX0_copyWords 82 = .ok (.bastore, 1) := by decide +kernel
theorem dX0_copyWords_83 : decode cX0_copyWords 83 = .ok (.iinc 4 (-1), 3) := by decide +kernel
theorem dX0_copyWords_86 : decode cX0_copyWords 86 = .ok (.goto (-26), 3) := by decide +kernel
theorem dX0_copyWords_89 : decode cX0_copyWords 89 = .ok (.return_, 1) := by decide +kernel
theorem dX0_clearWords_0 : decode cX0_clearWords 0 = .ok (.aload_n 0, 1) := by decide +kernel
theorem dX0_clearWords_1 : decode cX0_clearWords 1 = .ok (.getfield 15, 3) := by decide +kernel
theorem dX0_clearWords_4 : decode cX0_clearWords 4 = .ok (.iload_n 1, 1) := by decide +kernel
theorem dX0_clearWords_5 : decode cX0_clearWords 5 = .ok (.iload_n 1, 1) := by decide +kernel
theorem dX0_clearWords_6 : decode cX0_clearWords 6 = .ok (.iload_n 2, 1) := by decide +kernel
theorem dX0_clearWords_7 : decode cX0_clearWords 7 = .ok (.iadd, 1) := by decide +kernel
theorem dX0_clearWords_8 : decode cX0_clearWords 8 = .ok (.lconst 0, 1) := by decide +kernel
theorem dX0_clearWords_9 : decode cX0_clearWords 9 = .ok (.invokestatic 62, 3) := by decide +kernel
theorem dX0_clearWords_12 : decode cX0_clearWords 12 = .ok (.iload_n 1, 1) := by decide +kernel
theorem dX0_clearWords_13 : decode cX0_clearWords 13 = .ok (.istore_n 3, 1) := by decide +kernel
theorem dX0_clearWords_14 : decode cX0_clearWords 14 = .ok (.iload_n 3, 1) := by decide +kernel
theorem dX0_clearWords_15 : decode cX0_clearWords 15 = .ok (.iload_n 1, 1) := by decide +kernel
theorem dX0_clearWords_16 : decode cX0_clearWords 16 = .ok (.iload_n 2, 1) := by decide +kernel
theorem dX0_clearWords_17 : decode cX0_clearWords 17 = .ok (.iadd, 1) := by decide +kernel
theorem dX0_clearWords_18 : decode cX0_clearWords 18 = .ok (.if_icmp .ge 16, 3) := by decide +kernel
theorem dX0_clearWords_21 : decode cX0_clearWords 21 = .ok (.aload_n 0, 1) := by decide +kernel
theorem dX0_clearWords_22 : decode cX0_clearWords 22 = .ok (.getfield 19, 3) := by decide +kernel
theorem dX0_clearWords_25 : decode cX0_clearWords 25 = .ok (.iload_n 3, 1) := by decide +kernel
theorem dX0_clearWords_26 : decode cX0_clearWords 26 = .ok (.iconst 0, 1) := by decide +kernel
theorem dX0_clearWords_27 : decode cX0_clearWords 27 = .ok (.bastore, 1) := by decide +kernel
theorem dX0_clearWords_28 : decode cX0_clearWords 28 = .ok (.iinc 3 1, 3) := by decide +kernel
theorem dX0_clearWords_31 : decode cX0_clearWords 31 = .ok (.goto (-17), 3) := by decide +kernel
theorem dX0_clearWords_34 : decode cX0_clearWords 34 = .ok (.return_, 1) := by decide +kernel
theorem dX0_first_0 : decode cX0_first 0 = .ok (.aload_n 0, 1) := by decide +kernel
theorem dX0_first_1 : decode cX0_first 1 = .ok (.getfield 23, 3) := by decide +kernel
theorem dX0_first_4 : decode cX0_first 4 = .ok (.iload_n 1, 1) := by decide +kernel
theorem dX0_first_5 : decode cX0_first 5 = .ok (.laload, 1) := by decide +kernel
theorem dX0_first_6 : decode cX0_first 6 = .ok (.l2i, 1) := by decide +kernel
theorem dX0_first_7 : decode cX0_first 7 = .ok (.iconst 1, 1) := by decide +kernel
theorem dX0_first_8 : decode cX0_first 8 = .ok (.iadd, 1) := by decide +kernel
theorem dX0_first_9 : decode cX0_first 9 = .ok (.ireturn, 1) := by decide +kernel
theorem dX0_length_0 : decode cX0_length 0 = .ok (.aload_n 0, 1) := by decide +kernel
theorem dX0_length_1 : decode cX0_length 1 = .ok (.iload_n 1, 1) := by decide +kernel
theorem dX0_length_2 : decode cX0_length 2 = .ok (.invokevirtual 48, 3) := by decide +kernel
theorem dX0_length_5 : decode cX0_length 5 = .ok (.invokestatic 68, 3) := by decide +kernel
theorem dX0_length_8 : decode cX0_length 8 = .ok (.ireturn, 1) := by decide +kernel
theorem dX0_serial_0 : decode cX0_serial 0 = .ok (.aload_n 0, 1) := by decide +kernel
theorem dX0_serial_1 : decode cX0_serial 1 = .ok (.iload_n 1, 1) := by decide +kernel
theorem dX0_serial_2 : decode cX0_serial 2 = .ok (.invokevirtual 48, 3) := by decide +kernel
theorem dX0_serial_5 : decode cX0_serial 5 = .ok (.bipush 40, 2) := by decide +kernel
theorem dX0_serial_7 : decode cX0_serial 7 = .ok (.lushr, 1) := by decide +kernel
theorem dX0_serial_8 : decode cX0_serial 8 = .ok (.l2i, 1) := by decide +kernel
theorem dX0_serial_9 : decode cX0_serial 9 = .ok (.ireturn, 1) := by decide +kernel
theorem dX0_isFrozen_0 : decode cX0_isFrozen 0 = .ok (.aload_n 0, 1) := by decide +kernel
theorem dX0_isFrozen_1 : decode cX0_isFrozen 1 = .ok (.iload_n 1, 1) := by decide +kernel
theorem dX0_isFrozen_2 : decode cX0_isFrozen 2 = .ok (.invokevirtual 48, 3) := by decide +kernel
theorem dX0_isFrozen_5 : decode cX0_isFrozen 5 = .ok (.bipush 21, 2) := by decide +kernel
theorem dX0_isFrozen_7 : decode cX0_isFrozen 7 = .ok (.lushr, 1) := by decide +kernel
theorem dX0_isFrozen_8 : decode cX0_isFrozen 8 = .ok (.lconst 1, 1) := by decide +kernel
theorem dX0_isFrozen_9 : decode cX0_isFrozen 9 = .ok (.land, 1) := by decide +kernel
theorem dX0_isFrozen_10 : decode cX0_isFrozen 10 = .ok (.lconst 0, 1) := by decide +kernel
theorem dX0_isFrozen_11 : decode cX0_isFrozen 11 = .ok (.lcmp, 1) := by decide +kernel
theorem dX0_isFrozen_12 : decode cX0_isFrozen 12 = .ok (.ifCond .eq 7, 3) := by decide +kernel
theorem dX0_isFrozen_15 : decode cX0_isFrozen 15 = .ok (.iconst 1, 1) := by decide +kernel
theorem dX0_isFrozen_16 : decode cX0_isFrozen 16 = .ok (.goto 4, 3) := by decide +kernel
theorem dX0_isFrozen_19 : decode cX0_isFrozen 19 = .ok (.iconst 0, 1) := by decide +kernel
theorem dX0_isFrozen_20 : decode cX0_isFrozen 20 = .ok (.ireturn, 1) := by decide +kernel
theorem dX0_freeze_0 : decode cX0_freeze 0 = .ok (.aload_n 0, 1) := by decide +kernel
theorem dX0_freeze_1 : decode cX0_freeze 1 = .ok (.getfield 15, 3) := by decide +kernel
theorem dX0_freeze_4 : decode cX0_freeze 4 = .ok (.aload_n 0, 1) := by decide +kernel
theorem dX0_freeze_5 : decode cX0_freeze 5 = .ok (.getfield 23, 3) := by decide +kernel
theorem dX0_freeze_8 : decode cX0_freeze 8 = .ok (.iload_n 1, 1) := by decide +kernel
theorem dX0_freeze_9 : decode cX0_freeze 9 = .ok (.laload, 1) := by decide +kernel
theorem dX0_freeze_10 : decode cX0_freeze 10 = .ok (.l2i, 1) := by decide +kernel
theorem dX0_freeze_11 : decode cX0_freeze 11 = .ok (.dup2, 1) := by decide +kernel
theorem dX0_freeze_12 : decode cX0_freeze 12 = .ok (.laload, 1) := by decide +kernel
theorem dX0_freeze_13 : decode cX0_freeze 13 = .ok (.ldc2_w 71, 3) := by decide +kernel
theorem dX0_freeze_16 : decode cX0_freeze 16 = .ok (.lor, 1) := by decide +kernel
theorem dX0_freeze_17 : decode cX0_freeze 17 = .ok (.lastore, 1) := by decide +kernel
theorem dX0_freeze_18 : decode cX0_freeze 18 = .ok (.return_, 1) := by decide +kernel
theorem dX0_setEager_0 : decode cX0_setEager 0 = .ok (.aload_n 0, 1) := by decide +kernel
theorem dX0_setEager_1 : decode cX0_setEager 1 = .ok (.iload_n 1, 1) := by decide +kernel
theorem dX0_setEager_2 : decode cX0_setEager 2 = .ok (.putfield 73, 3) := by decide +kernel
theorem dX0_setEager_5 : decode cX0_setEager 5 = .ok (.return_, 1) := by decide +kernel
theorem dX0_used_0 : decode cX0_used 0 = .ok (.aload_n 0, 1) := by decide +kernel
theorem dX0_used_1 : decode cX0_used 1 = .ok (.getfield 36, 3) := by decide +kernel
theorem dX0_used_4 : decode cX0_used 4 = .ok (.bipush 17, 2) := by decide +kernel
theorem dX0_used_6 : decode cX0_used 6 = .ok (.isub, 1) := by decide +kernel
theorem dX0_used_7 : decode cX0_used 7 = .ok (.ireturn, 1) := by decide +kernel
theorem dX0_count_0 : decode cX0_count 0 = .ok (.iload_n 1, 1) := by decide +kernel
theorem dX0_count_1 : decode cX0_count 1 = .ok (.tableswitch 51 0 3 #[31, 36, 41, 46], 31) := by decide +kernel
theorem dX0_count_32 : decode cX0_count 32 = .ok (.aload_n 0, 1) := by decide +kernel
theorem dX0_count_33 : decode cX0_count 33 = .ok (.invokevirtual 77, 3) := by decide +kernel
theorem dX0_count_36 : decode cX0_count 36 = .ok (.ireturn, 1) := by decide +kernel
theorem dX0_count_37 : decode cX0_count 37 = .ok (.aload_n 0, 1) := by decide +kernel
theorem dX0_count_38 : decode cX0_count 38 = .ok (.getfield 11, 3) := by decide +kernel
theorem dX0_count_41 : decode cX0_count 41 = .ok (.ireturn, 1) := by decide +kernel
theorem dX0_count_42 : decode cX0_count 42 = .ok (.aload_n 0, 1) := by decide +kernel
theorem dX0_count_43 : decode cX0_count 43 = .ok (.getfield 81, 3) := by decide +kernel
theorem dX0_count_46 : decode cX0_count 46 = .ok (.ireturn, 1) := by decide +kernel
theorem dX0_count_47 : decode cX0_count 47 = .ok (.aload_n 0, 1) := by decide +kernel
theorem dX0_count_48 : decode cX0_count 48 = .ok (.getfield 84, 3) := by decide +kernel
theorem dX0_count_51 : decode cX0_count 51 = .ok (.ireturn, 1) := by decide +kernel
theorem dX0_count_52 : decode cX0_count 52 = .ok (.aload_n 0, 1) := by decide +kernel
theorem dX0_count_53 : decode cX0_count 53 = .ok (.getfield 87, 3) := by decide +kernel
theorem dX0_count_56 : decode cX0_count 56 = .ok (.ireturn, 1) := by decide +kernel
theorem dX0_claim_0 : decode cX0_claim 0 = .ok (.aload_n 0, 1) := by decide +kernel
theorem dX0_claim_1 : decode cX0_claim 1 = .ok (.iload_n 1, 1) := by decide +kernel
theorem dX0_claim_2 : decode cX0_claim 2 = .ok (.iload_n 2, 1) := by decide +kernel
theorem dX0_claim_3 : decode cX0_claim 3 = .ok (.invokestatic 90, 3) := by decide +kernel
theorem dX0_claim_6 : decode cX0_claim 6 = .ok (.invokevirtual 94, 3) := by decide +kernel
theorem dX0_claim_9 : decode cX0_claim 9 = .ok (.aload_n 0, 1) := by decide +kernel
theorem dX0_claim_10 : decode cX0_claim 10 = .ok (.iload_n 1, 1) := by decide +kernel
theorem dX0_claim_11 : decode cX0_claim 11 = .ok (.iload_n 2, 1) := by decide +kernel
theorem dX0_claim_12 : decode cX0_claim 12 = .ok (.invokevirtual 98, 3) := by decide +kernel
theorem dX0_claim_15 : decode cX0_claim 15 = .ok (.ireturn, 1) := by decide +kernel
theorem dX0_needRoom_0 : decode cX0_needRoom 0 = .ok (.aload_n 0, 1) := by decide +kernel
theorem dX0_needRoom_1 : decode cX0_needRoom 1 = .ok (.getfield 73, 3) := by decide +kernel
theorem dX0_needRoom_4 : decode cX0_needRoom 4 = .ok (.ifCond .ne 16, 3) := by decide +kernel
theorem dX0_needRoom_7 : decode cX0_needRoom 7 = .ok (.aload_n 0, 1) := by decide +kernel
theorem dX0_needRoom_8 : decode cX0_needRoom 8 = .ok (.invokevirtual 77, 3) := by decide +kernel
theorem dX0_needRoom_11 : decode cX0_needRoom 11 = .ok (.iload_n 1, 1) := by decide +kernel
theorem dX0_needRoom_12 : decode cX0_needRoom 12 = .ok (.iadd, 1) := by decide +kernel
theorem dX0_needRoom_13 : decode cX0_needRoom 13 = .ok (.aload_n 0, 1) := by decide +kernel
theorem dX0_needRoom_14 : decode cX0_needRoom 14 = .ok (.getfield 11, 3) := by decide +kernel
theorem dX0_needRoom_17 : decode cX0_needRoom 17 = .ok (.if_icmp .le 8, 3) := by decide +kernel
theorem dX0_needRoom_20 : decode cX0_needRoom 20 = .ok (.aload_n 0, 1) := by decide +kernel
theorem dX0_needRoom_21 : decode cX0_needRoom 21 = .ok (.invokevirtual 101, 3) := by decide +kernel
theorem dX0_needRoom_24 : decode cX0_needRoom 24 = .ok (.pop, 1) := by decide +kernel
theorem dX0_needRoom_25 : decode cX0_needRoom 25 = .ok (.aload_n 0, 1) := by decide +kernel
theorem dX0_needRoom_26 : decode cX0_needRoom 26 = .ok (.invokevirtual 77, 3) := by decide +kernel
theorem dX0_needRoom_29 : decode cX0_needRoom 29 = .ok (.iload_n 1, 1) := by decide +kernel
theorem dX0_needRoom_30 : decode cX0_needRoom 30 = .ok (.iadd, 1) := by decide +kernel
theorem dX0_needRoom_31 : decode cX0_needRoom 31 = .ok (.aload_n 0, 1) := by decide +kernel
theorem dX0_needRoom_32 : decode cX0_needRoom 32 = .ok (.getfield 11, 3) := by decide +kernel
theorem dX0_needRoom_35 : decode cX0_needRoom 35 = .ok (.if_icmp .le 13, 3) := by decide +kernel
theorem dX0_needRoom_38 : decode cX0_needRoom 38 = .ok (.new 104, 3) := by decide +kernel
theorem dX0_needRoom_41 : decode cX0_needRoom 41 = .ok (.dup, 1) := by decide +kernel
theorem dX0_needRoom_42 : decode cX0_needRoom 42 = .ok (.ldc 106, 2) := by decide +kernel
theorem dX0_needRoom_44 : decode cX0_needRoom 44 = .ok (.invokespecial 108, 3) := by decide +kernel
theorem dX0_needRoom_47 : decode cX0_needRoom 47 = .ok (.athrow, 1) := by decide +kernel
theorem dX0_needRoom_48 : decode cX0_needRoom 48 = .ok (.return_, 1) := by decide +kernel
theorem dX0_place_0 : decode cX0_place 0 = .ok (.aload_n 0, 1) := by decide +kernel
theorem dX0_place_1 : decode cX0_place 1 = .ok (.invokevirtual 111, 3) := by decide +kernel
theorem dX0_place_4 : decode cX0_place 4 = .ok (.istore_n 3, 1) := by decide +kernel
theorem dX0_place_5 : decode cX0_place 5 = .ok (.aload_n 0, 1) := by decide +kernel
theorem dX0_place_6 : decode cX0_place 6 = .ok (.getfield 36, 3) := by decide +kernel
theorem dX0_place_9 : decode cX0_place 9 = .ok (.istore 4, 2) := by decide +kernel
theorem dX0_place_11 : decode cX0_place 11 = .ok (.iload_n 1, 1) := by decide +kernel
theorem dX0_place_12 : decode cX0_place 12 = .ok (.iload_n 2, 1) := by decide +kernel
theorem dX0_place_13 : decode cX0_place 13 = .ok (.invokestatic 90, 3) := by decide +kernel
theorem dX0_place_16 : decode cX0_place 16 = .ok (.istore 5, 2) := by decide +kernel
theorem dX0_place_18 : decode cX0_place 18 = .ok (.aload_n 0, 1) := by decide +kernel
theorem dX0_place_19 : decode cX0_place 19 = .ok (.iload 4, 2) := by decide +kernel
theorem dX0_place_21 : decode cX0_place 21 = .ok (.iload 5, 2) := by decide +kernel
theorem dX0_place_23 : decode cX0_place 23 = .ok (.iadd, 1) := by decide +kernel
theorem dX0_place_24 : decode cX0_place 24 = .ok (.invokevirtual 114, 3) := by decide +kernel
theorem dX0_place_27 : decode cX0_place 27 = .ok (.aload_n 0, 1) := by decide +kernel
theorem dX0_place_28 : decode cX0_place 28 = .ok (.iload 4, 2) := by decide +kernel
theorem dX0_place_30 : decode cX0_place 30 = .ok (.iload 5, 2) := by decide +kernel
theorem dX0_place_32 : decode cX0_place 32 = .ok (.invokevirtual 117, 3) := by decide +kernel
theorem dX0_place_35 : decode cX0_place 35 = .ok (.lconst 0, 1) := by decide +kernel
theorem dX0_place_36 : decode cX0_place 36 = .ok (.lstore 6, 2) := by decide +kernel
theorem dX0_place_38 : decode cX0_place 38 = .ok (.iload_n 1, 1) := by decide +kernel
theorem dX0_place_39 : decode cX0_place 39 = .ok (.iconst 5, 1) := by decide +kernel
theorem dX0_place_40 : decode cX0_place 40 = .ok (.if_icmp .eq 20, 3) := by decide +kernel
theorem dX0_place_43 : decode cX0_place 43 = .ok (.aload_n 0, 1) := by decide +kernel
theorem dX0_place_44 : decode cX0_place 44 = .ok (.dup, 1) := by decide +kernel
theorem dX0_place_45 : decode cX0_place 45 = .ok (.getfield 81, 3) := by decide +kernel
theorem dX0_place_48 : decode cX0_place 48 = .ok (.iconst 1, 1) := by decide +kernel
theorem dX0_place_49 : decode cX0_place 49 = .ok (.iadd, 1) := by decide +kernel
theorem dX0_place_50 : decode cX0_place 50 = .ok (.putfield 81, 3) := by decide +kernel
theorem dX0_place_53 : decode cX0_place 53 = .ok (.aload_n 0, 1) := by decide +kernel
theorem dX0_place_54 : decode cX0_place 54 = .ok (.getfield 81, 3) := by decide +kernel
theorem dX0_place_57 : decode cX0_place 57 = .ok (.i2l, 1) := by decide +kernel
theorem dX0_place_58 : decode cX0_place 58 = .ok (.lstore 6, 2) := by decide +kernel
theorem dX0_place_60 : decode cX0_place 60 = .ok (.aload_n 0, 1) := by decide +kernel
theorem dX0_place_61 : decode cX0_place 61 = .ok (.getfield 15, 3) := by decide +kernel
theorem dX0_place_64 : decode cX0_place 64 = .ok (.iload 4, 2) := by decide +kernel
theorem dX0_place_66 : decode cX0_place 66 = .ok (.lload 6, 2) := by decide +kernel
theorem dX0_place_68 : decode cX0_place 68 = .ok (.bipush 40, 2) := by decide +kernel
theorem dX0_place_70 : decode cX0_place 70 = .ok (.lshl, 1) := by decide +kernel
theorem dX0_place_71 : decode cX0_place 71 = .ok (.iload_n 2, 1) := by decide +kernel
theorem dX0_place_72 : decode cX0_place 72 = .ok (.i2l, 1) := by decide +kernel
theorem dX0_place_73 : decode cX0_place 73 = .ok (.bipush 22, 2) := by decide +kernel
theorem dX0_place_75 : decode cX0_place 75 = .ok (.lshl, 1) := by decide +kernel
theorem dX0_place_76 : decode cX0_place 76 = .ok (.lor, 1) := by decide +kernel
theorem dX0_place_77 : decode cX0_place 77 = .ok (.iload_n 1, 1) := by decide +kernel
theorem dX0_place_78 : decode cX0_place 78 = .ok (.i2l, 1) := by decide +kernel
theorem dX0_place_79 : decode cX0_place 79 = .ok (.bipush 18, 2) := by decide +kernel
theorem dX0_place_81 : decode cX0_place 81 = .ok (.lshl, 1) := by decide +kernel
theorem dX0_place_82 : decode cX0_place 82 = .ok (.lor, 1) := by decide +kernel
theorem dX0_place_83 : decode cX0_place 83 = .ok (.iload_n 3, 1) := by decide +kernel
theorem dX0_place_84 : decode cX0_place 84 = .ok (.i2l, 1) := by decide +kernel
theorem dX0_place_85 : decode cX0_place 85 = .ok (.lor, 1) := by decide +kernel
theorem dX0_place_86 : decode cX0_place 86 = .ok (.lastore, 1) := by decide +kernel
theorem dX0_place_87 : decode cX0_place 87 = .ok (.aload_n 0, 1) := by decide +kernel
theorem dX0_place_88 : decode cX0_place 88 = .ok (.getfield 23, 3) := by decide +kernel
theorem dX0_place_91 : decode cX0_place 91 = .ok (.iload_n 3, 1) := by decide +kernel
theorem dX0_place_92 : decode cX0_place 92 = .ok (.iload 4, 2) := by decide +kernel
theorem dX0_place_94 : decode cX0_place 94 = .ok (.i2l, 1) := by decide +kernel
theorem dX0_place_95 : decode cX0_place 95 = .ok (.lastore, 1) := by decide +kernel
theorem dX0_place_96 : decode cX0_place 96 = .ok (.aload_n 0, 1) := by decide +kernel
theorem dX0_place_97 : decode cX0_place 97 = .ok (.iload 4, 2) := by decide +kernel
theorem dX0_place_99 : decode cX0_place 99 = .ok (.iload 5, 2) := by decide +kernel
theorem dX0_place_101 : decode cX0_place 101 = .ok (.iadd, 1) := by decide +kernel
theorem dX0_place_102 : decode cX0_place 102 = .ok (.putfield 36, 3) := by decide +kernel
theorem dX0_place_105 : decode cX0_place 105 = .ok (.iload_n 3, 1) := by decide +kernel
theorem dX0_place_106 : decode cX0_place 106 = .ok (.ireturn, 1) := by decide +kernel
theorem dX0_collection_0 : decode cX0_collection 0 = .ok (.aload_n 0, 1) := by decide +kernel
theorem dX0_collection_1 : decode cX0_collection 1 = .ok (.iconst 0, 1) := by decide +kernel
theorem dX0_collection_2 : decode cX0_collection 2 = .ok (.putfield 121, 3) := by decide +kernel
theorem dX0_collection_5 : decode cX0_collection 5 = .ok (.aload_n 0, 1) := by decide +kernel
theorem dX0_collection_6 : decode cX0_collection 6 = .ok (.iconst 0, 1) := by decide +kernel
theorem dX0_collection_7 : decode cX0_collection 7 = .ok (.bipush 16, 2) := by decide +kernel
theorem dX0_collection_9 : decode cX0_collection 9 = .ok (.invokevirtual 124, 3) := by decide +kernel
theorem dX0_collection_12 : decode cX0_collection 12 = .ok (.iconst 0, 1) := by decide +kernel
theorem dX0_collection_13 : decode cX0_collection 13 = .ok (.istore_n 1, 1) := by decide +kernel
theorem dX0_collection_14 : decode cX0_collection 14 = .ok (.iload_n 1, 1) := by decide +kernel
theorem dX0_collection_15 : decode cX0_collection 15 = .ok (.aload_n 0, 1) := by decide +kernel
theorem dX0_collection_16 : decode cX0_collection 16 = .ok (.getfield 121, 3) := by decide +kernel
theorem dX0_collection_19 : decode cX0_collection 19 = .ok (.if_icmp .ge 51, 3) := by decide +kernel
theorem dX0_collection_22 : decode cX0_collection 22 = .ok (.iload_n 1, 1) := by decide +kernel
theorem dX0_collection_23 : decode cX0_collection 23 = .ok (.aload_n 0, 1) := by decide +kernel
theorem dX0_collection_24 : decode cX0_collection 24 = .ok (.getfield 127, 3) := by decide +kernel
theorem dX0_collection_27 : decode cX0_collection 27 = .ok (.if_icmp .ge 43, 3) := by decide +kernel
theorem dX0_collection_30 : decode cX0_collection 30 = .ok (.aload_n 0, 1) := by decide +kernel
theorem dX0_collection_31 : decode cX0_collection 31 = .ok (.getfield 29, 3) := by decide +kernel
theorem dX0_collection_34 : decode cX0_collection 34 = .ok (.iload_n 1, 1) := by decide +kernel
theorem dX0_collection_35 : decode cX0_collection 35 = .ok (.laload, 1) := by decide +kernel
theorem dX0_collection_36 : decode cX0_collection 36 = .ok (.l2i, 1) := by decide +kernel
theorem dX0_collection_37 : decode cX0_collection 37 = .ok (.istore_n 2, 1) := by decide +kernel
theorem dX0_collection_38 : decode cX0_collection 38 = .ok (.aload_n 0, 1) := by decide +kernel
theorem dX0_collection_39 : decode cX0_collection 39 = .ok (.iload_n 2, 1) := by decide +kernel
theorem dX0_collection_40 : decode cX0_collection 40 = .ok (.invokevirtual 48, 3) := by decide +kernel
theorem dX0_collection_43 : decode cX0_collection 43 = .ok (.invokestatic 52, 3) := by decide +kernel
theorem dX0_collection_46 : decode cX0_collection 46 = .ok (.iconst 3, 1) := by decide +kernel
theorem dX0_collection_47 : decode cX0_collection 47 = .ok (.if_icmp .eq 17, 3) := by decide +kernel
theorem dX0_collection_50 : decode cX0_collection 50 = .ok (.aload_n 0, 1) := by decide +kernel
theorem dX0_collection_51 : decode cX0_collection 51 = .ok (.aload_n 0, 1) := by decide +kernel
theorem dX0_collection_52 : decode cX0_collection 52 = .ok (.iload_n 2, 1) := by decide +kernel
theorem dX0_collection_53 : decode cX0_collection 53 = .ok (.invokevirtual 130, 3) := by decide +kernel
theorem dX0_collection_56 : decode cX0_collection 56 = .ok (.aload_n 0, 1) := by decide +kernel
theorem dX0_collection_57 : decode cX0_collection 57 = .ok (.iload_n 2, 1) := by decide +kernel
theorem dX0_collection_58 : decode cX0_collection 58 = .ok (.invokevirtual 133, 3) := by decide +kernel
theorem dX0_collection_61 : decode cX0_collection 61 = .ok (.invokevirtual 124, 3) := by decide +kernel
theorem dX0_collection_64 : decode cX0_collection 64 = .ok (.iinc 1 1, 3) := by decide +kernel
theorem dX0_collection_67 : decode cX0_collection 67 = .ok (.goto (-53), 3) := by decide +kernel
theorem dX0_collection_70 : decode cX0_collection 70 = .ok (.aload_n 0, 1) := by decide +kernel
theorem dX0_collection_71 : decode cX0_collection 71 = .ok (.getfield 36, 3) := by decide +kernel
theorem dX0_collection_74 : decode cX0_collection 74 = .ok (.istore_n 1, 1) := by decide +kernel
theorem dX0_collection_75 : decode cX0_collection 75 = .ok (.aload_n 0, 1) := by decide +kernel
theorem dX0_collection_76 : decode cX0_collection 76 = .ok (.invokevirtual 136, 3) := by decide +kernel
theorem dX0_collection_79 : decode cX0_collection 79 = .ok (.aload_n 0, 1) := by decide +kernel
theorem dX0_collection_80 : decode cX0_collection 80 = .ok (.dup, 1) := by decide +kernel
theorem dX0_collection_81 : decode cX0_collection 81 = .ok (.getfield 84, 3) := by decide +kernel
theorem dX0_collection_84 : decode cX0_collection 84 = .ok (.iconst 1, 1) := by decide +kernel
theorem dX0_collection_85 : decode cX0_collection 85 = .ok (.iadd, 1) := by decide +kernel
theorem dX0_collection_86 : decode cX0_collection 86 = .ok (.putfield 84, 3) := by decide +kernel
theorem dX0_collection_89 : decode cX0_collection 89 = .ok (.aload_n 0, 1) := by decide +kernel
theorem dX0_collection_90 : decode cX0_collection 90 = .ok (.dup, 1) := by decide +kernel
theorem dX0_collection_91 : decode cX0_collection 91 = .ok (.getfield 87, 3) := by decide +kernel
theorem dX0_collection_94 : decode cX0_collection 94 = .ok (.iload_n 1, 1) := by decide +kernel
theorem dX0_collection_95 : decode cX0_collection 95 = .ok (.aload_n 0, 1) := by decide +kernel
theorem dX0_collection_96 : decode cX0_collection 96 = .ok (.getfield 36, 3) := by decide +kernel
theorem dX0_collection_99 : decode cX0_collection 99 = .ok (.isub, 1) := by decide +kernel
theorem dX0_collection_100 : decode cX0_collection 100 = .ok (.iadd, 1) := by decide +kernel
theorem dX0_collection_101 : decode cX0_collection 101 = .ok (.putfield 87, 3) := by decide +kernel
theorem dX0_collection_104 : decode cX0_collection 104 = .ok (.iload_n 1, 1) := by decide +kernel
theorem dX0_collection_105 : decode cX0_collection 105 = .ok (.aload_n 0, 1) := by decide +kernel
theorem dX0_collection_106 : decode cX0_collection 106 = .ok (.getfield 36, 3) := by decide +kernel
theorem dX0_collection_109 : decode cX0_collection 109 = .ok (.isub, 1) := by decide +kernel
theorem dX0_collection_110 : decode cX0_collection 110 = .ok (.ireturn, 1) := by decide +kernel
theorem dX0_reachFrom_0 : decode cX0_reachFrom 0 = .ok (.iload_n 1, 1) := by decide +kernel
theorem dX0_reachFrom_1 : decode cX0_reachFrom 1 = .ok (.istore_n 3, 1) := by decide +kernel
theorem dX0_reachFrom_2 : decode cX0_reachFrom 2 = .ok (.iload_n 3, 1) := by decide +kernel
theorem dX0_reachFrom_3 : decode cX0_reachFrom 3 = .ok (.iload_n 1, 1) := by decide +kernel
theorem dX0_reachFrom_4 : decode cX0_reachFrom 4 = .ok (.iload_n 2, 1) := by decide +kernel
theorem dX0_reachFrom_5 : decode cX0_reachFrom 5 = .ok (.iadd, 1) := by decide +kernel
theorem dX0_reachFrom_6 : decode cX0_reachFrom 6 = .ok (.if_icmp .ge 70, 3) := by decide +kernel
theorem dX0_reachFrom_9 : decode cX0_reachFrom 9 = .ok (.aload_n 0, 1) := by decide +kernel
theorem dX0_reachFrom_10 : decode cX0_reachFrom 10 = .ok (.getfield 19, 3) := by decide +kernel
theorem dX0_reachFrom_13 : decode cX0_reachFrom 13 = .ok (.iload_n 3, 1) := by decide +kernel
theorem dX0_reachFrom_14 : decode cX0_reachFrom 14 = .ok (.baload, 1) := by decide +kernel
theorem dX0_reachFrom_15 : decode cX0_reachFrom 15 = .ok (.ifCond .eq 55, 3) := by decide +kernel
theorem dX0_reachFrom_18 : decode cX0_reachFrom 18 = .ok (.aload_n 0, 1) := by decide +kernel
theorem dX0_reachFrom_19 : decode cX0_reachFrom 19 = .ok (.iload_n 3, 1) := by decide +kernel
theorem dX0_reachFrom_20 : decode cX0_reachFrom 20 = .ok (.invokevirtual 44, 3) := by decide +kernel
theorem dX0_reachFrom_23 : decode cX0_reachFrom 23 = .ok (.istore 4, 2) := by decide +kernel
theorem dX0_reachFrom_25 : decode cX0_reachFrom 25 = .ok (.iload 4, 2) := by decide +kernel
theorem dX0_reachFrom_27 : decode cX0_reachFrom 27 = .ok (.ifCond .eq 43, 3) := by decide +kernel
theorem dX0_reachFrom_30 : decode cX0_reachFrom 30 = .ok (.aload_n 0, 1) := by decide +kernel
theorem dX0_reachFrom_31 : decode cX0_reachFrom 31 = .ok (.getfield 26, 3) := by decide +kernel
theorem dX0_reachFrom_34 : decode cX0_reachFrom 34 = .ok (.iload 4, 2) := by decide +kernel
theorem dX0_reachFrom_36 : decode cX0_reachFrom 36 = .ok (.baload, 1) := by decide +kernel
theorem dX0_reachFrom_37 : decode cX0_reachFrom 37 = .ok (.ifCond .ne 33, 3) := by decide +kernel
theorem dX0_reachFrom_40 : decode cX0_reachFrom 40 = .ok (.aload_n 0, 1) := by decide +kernel
theorem dX0_reachFrom_41 : decode cX0_reachFrom 41 = .ok (.getfield 26, 3) := by decide +kernel
theorem dX0_reachFrom_44 : decode cX0_reachFrom 44 = .ok (.iload 4, 2) := by decide +kernel
theorem dX0_reachFrom_46 : decode cX0_reachFrom 46 = .ok (.iconst 1, 1) := by decide +kernel
theorem dX0_reachFrom_47 : decode cX0_reachFrom 47 = .ok (.bastore, 1) := by decide +kernel
theorem dX0_reachFrom_48 : decode cX0_reachFrom 48 = .ok (.aload_n 0, 1) := by decide +kernel
theorem dX0_reachFrom_49 : decode cX0_reachFrom 49 = .ok (.getfield 29, 3) := by decide +kernel
theorem dX0_reachFrom_52 : decode cX0_reachFrom 52 = .ok (.aload_n 0, 1) := by decide +kernel
theorem dX0_reachFrom_53 : decode cX0_reachFrom 53 = .ok (.getfield 121, 3) := by decide +kernel
theorem dX0_reachFrom_56 : decode cX0_reachFrom 56 = .ok (.iload 4, 2) := by decide +kernel
theorem dX0_reachFrom_58 : decode cX0_reachFrom 58 = .ok (.i2l, 1) := by decide +kernel
theorem dX0_reachFrom_59 : decode cX0_reachFrom 59 = .ok (.lastore, 1) := by decide +kernel
theorem dX0_reachFrom_60 : decode cX0_reachFrom 60 = .ok (.aload_n 0, 1) := by decide +kernel
theorem dX0_reachFrom_61 : decode cX0_reachFrom 61 = .ok (.dup, 1) := by decide +kernel
theorem dX0_reachFrom_62 : decode cX0_reachFrom 62 = .ok (.getfield 121, 3) := by decide +kernel
theorem dX0_reachFrom_65 : decode cX0_reachFrom 65 = .ok (.iconst 1, 1) := by decide +kernel
theorem dX0_reachFrom_66 : decode cX0_reachFrom 66 = .ok (.iadd, 1) := by decide +kernel
theorem dX0_reachFrom_67 : decode cX0_reachFrom 67 = .ok (.putfield 121, 3) := by decide +kernel
theorem dX0_reachFrom_70 : decode cX0_reachFrom 70 = .ok (.iinc 3 1, 3) := by decide +kernel
theorem dX0_reachFrom_73 : decode cX0_reachFrom 73 = .ok (.goto (-71), 3) := by decide +kernel
theorem dX0_reachFrom_76 : decode cX0_reachFrom 76 = .ok (.return_, 1) := by decide +kernel
theorem dX0_moveTogether_0 : decode cX0_moveTogether 0 = .ok (.bipush 17, 2) := by decide +kernel
theorem dX0_moveTogether_2 : decode cX0_moveTogether 2 = .ok (.istore_n 1, 1) := by decide +kernel
theorem dX0_moveTogether_3 : decode cX0_moveTogether 3 = .ok (.iconst 1, 1) := by decide +kernel
theorem dX0_moveTogether_4 : decode cX0_moveTogether 4 = .ok (.istore_n 2, 1) := by decide +kernel
theorem dX0_moveTogether_5 : decode cX0_moveTogether 5 = .ok (.bipush 17, 2) := by decide +kernel
theorem dX0_moveTogether_7 : decode cX0_moveTogether 7 = .ok (.istore_n 3, 1) := by decide +kernel
theorem dX0_moveTogether_8 : decode cX0_moveTogether 8 = .ok (.iload_n 3, 1) := by decide +kernel
theorem dX0_moveTogether_9 : decode cX0_moveTogether 9 = .ok (.aload_n 0, 1) := by decide +kernel
theorem dX0_moveTogether_10 : decode cX0_moveTogether 10 = .ok (.getfield 36, 3) := by decide +kernel
theorem dX0_moveTogether_13 : decode cX0_moveTogether 13 = .ok (.if_icmp .ge 109, 3) := by decide +kernel
theorem dX0_moveTogether_16 : decode cX0_moveTogether 16 = .ok (.aload_n 0, 1) := by decide +kernel
theorem dX0_moveTogether_17 : decode cX0_moveTogether 17 = .ok (.getfield 15, 3) := by decide +kernel
theorem dX0_moveTogether_20 : decode cX0_moveTogether 20 = .ok (.iload_n 3, 1) := by decide +kernel
theorem dX0_moveTogether_21 : decode cX0_moveTogether 21 = .ok (.laload, 1) := by decide +kernel
theorem dX0_moveTogether_22 : decode cX0_moveTogether 22 = .ok (.ldc2_w 139, 3) := by decide +kernel
theorem dX0_moveTogether_25 : decode cX0_moveTogether 25 = .ok (.land, 1) := by decide +kernel
theorem dX0_moveTogether_26 : decode cX0_moveTogether 26 = .ok (.l2i, 1) := by decide +kernel
theorem dX0_moveTogether_27 : decode cX0_moveTogether 27 = .ok (.istore 4, 2) := by decide +kernel
theorem dX0_moveTogether_29 : decode cX0_moveTogether 29 = .ok (.aload_n 0, 1) := by decide +kernel
theorem dX0_moveTogether_30 : decode cX0_moveTogether 30 = .ok (.getfield 15, 3) := by decide +kernel
theorem dX0_moveTogether_33 : decode cX0_moveTogether 33 = .ok (.iload_n 3, 1) := by decide +kernel
theorem dX0_moveTogether_34 : decode cX0_moveTogether 34 = .ok (.laload, 1) := by decide +kernel
theorem dX0_moveTogether_35 : decode cX0_moveTogether 35 = .ok (.invokestatic 52, 3) := by decide +kernel
theorem dX0_moveTogether_38 : decode cX0_moveTogether 38 = .ok (.aload_n 0, 1) := by decide +kernel
theorem dX0_moveTogether_39 : decode cX0_moveTogether 39 = .ok (.getfield 15, 3) := by decide +kernel
theorem dX0_moveTogether_42 : decode cX0_moveTogether 42 = .ok (.iload_n 3, 1) := by decide +kernel
theorem dX0_moveTogether_43 : decode cX0_moveTogether 43 = .ok (.laload, 1) := by decide +kernel
theorem dX0_moveTogether_44 : decode cX0_moveTogether 44 = .ok (.invokestatic 68, 3) := by decide +kernel
theorem dX0_moveTogether_47 : decode cX0_moveTogether 47 = .ok (.invokestatic 90, 3) := by decide +kernel
theorem dX0_moveTogether_50 : decode cX0_moveTogether 50 = .ok (.istore_n 2, 1) := by decide +kernel
theorem dX0_moveTogether_51 : decode cX0_moveTogether 51 = .ok (.aload_n 0, 1) := by decide +kernel
theorem dX0_moveTogether_52 : decode cX0_moveTogether 52 = .ok (.getfield 26, 3) := by decide +kernel
theorem dX0_moveTogether_55 : decode cX0_moveTogether 55 = .ok (.iload 4, 2) := by decide +kernel
theorem dX0_moveTogether_57 : decode cX0_moveTogether 57 = .ok (.baload, 1) := by decide +kernel
theorem dX0_moveTogether_58 : decode cX0_moveTogether 58 = .ok (.ifCond .eq 39, 3) := by decide +kernel
theorem dX0_moveTogether_61 : decode cX0_moveTogether 61 = .ok (.aload_n 0, 1) := by decide +kernel
theorem dX0_moveTogether_62 : decode cX0_moveTogether 62 = .ok (.getfield 26, 3) := by decide +kernel
theorem dX0_moveTogether_65 : decode cX0_moveTogether 65 = .ok (.iload 4, 2) := by decide +kernel
theorem dX0_moveTogether_67 : decode cX0_moveTogether 67 = .ok (.iconst 0, 1) := by decide +kernel
theorem dX0_moveTogether_68 : decode cX0_moveTogether 68 = .ok (.bastore, 1) := by decide +kernel
theorem dX0_moveTogether_69 : decode cX0_moveTogether 69 = .ok (.aload_n 0, 1) := by decide +kernel
theorem dX0_moveTogether_70 : decode cX0_moveTogether 70 = .ok (.getfield 23, 3) := by decide +kernel
theorem dX0_moveTogether_73 : decode cX0_moveTogether 73 = .ok (.iload 4, 2) := by decide +kernel
theorem dX0_moveTogether_75 : decode cX0_moveTogether 75 = .ok (.iload_n 1, 1) := by decide +kernel
theorem dX0_moveTogether_76 : decode cX0_moveTogether 76 = .ok (.i2l, 1) := by decide +kernel
theorem dX0_moveTogether_77 : decode cX0_moveTogether 77 = .ok (.lastore, 1) := by decide +kernel
theorem dX0_moveTogether_78 : decode cX0_moveTogether 78 = .ok (.iload_n 1, 1) := by decide +kernel
theorem dX0_moveTogether_79 : decode cX0_moveTogether 79 = .ok (.iload_n 3, 1) := by decide +kernel
theorem dX0_moveTogether_80 : decode cX0_moveTogether 80 = .ok (.if_icmp .ge 10, 3) := by decide +kernel
theorem dX0_moveTogether_83 : decode cX0_moveTogether 83 = .ok (.aload_n 0, 1) := by decide +kernel
theorem dX0_moveTogether_84 : decode cX0_moveTogether 84 = .ok (.iload_n 1, 1) := by decide +kernel
theorem dX0_moveTogether_85 : decode cX0_moveTogether 85 = .ok (.iload_n 3, 1) := by decide +kernel
theorem dX0_moveTogether_86 : decode cX0_moveTogether 86 = .ok (.iload_n 2, 1) := by decide +kernel
theorem dX0_moveTogether_87 : decode cX0_moveTogether 87 = .ok (.invokevirtual 141, 3) := by decide +kernel
theorem dX0_moveTogether_90 : decode cX0_moveTogether 90 = .ok (.iload_n 1, 1) := by decide +kernel
theorem dX0_moveTogether_91 : decode cX0_moveTogether 91 = .ok (.iload_n 2, 1) := by decide +kernel
theorem dX0_moveTogether_92 : decode cX0_moveTogether 92 = .ok (.iadd, 1) := by decide +kernel
theorem dX0_moveTogether_93 : decode cX0_moveTogether 93 = .ok (.istore_n 1, 1) := by decide +kernel
theorem dX0_moveTogether_94 : decode cX0_moveTogether 94 = .ok (.goto 21, 3) := by decide +kernel
theorem dX0_moveTogether_97 : decode cX0_moveTogether 97 = .ok (.aload_n 0, 1) := by decide +kernel
theorem dX0_moveTogether_98 : decode cX0_moveTogether 98 = .ok (.getfield 23, 3) := by decide +kernel
theorem dX0_moveTogether_101 : decode cX0_moveTogether 101 = .ok (.iload 4, 2) := by decide +kernel
theorem dX0_moveTogether_103 : decode cX0_moveTogether 103 = .ok (.aload_n 0, 1) := by decide +kernel
theorem dX0_moveTogether_104 : decode cX0_moveTogether 104 = .ok (.getfield 39, 3) := by decide +kernel
theorem dX0_moveTogether_107 : decode cX0_moveTogether 107 = .ok (.i2l, 1) := by decide +kernel
theorem dX0_moveTogether_108 : decode cX0_moveTogether 108 = .ok (.lastore, 1) := by decide +kernel
theorem dX0_moveTogether_109 : decode cX0_moveTogether 109 = .ok (.aload_n 0, 1) := by decide +kernel
theorem dX0_moveTogether_110 : decode cX0_moveTogether 110 = .ok (.iload 4, 2) := by decide +kernel
theorem dX0_moveTogether_112 : decode cX0_moveTogether 112 = .ok (.putfield 39, 3) := by decide +kernel
theorem dX0_moveTogether_115 : decode cX0_moveTogether 115 = .ok (.iload_n 3, 1) := by decide +kernel
theorem dX0_moveTogether_116 : decode cX0_moveTogether 116 = .ok (.iload_n 2, 1) := by decide +kernel
theorem dX0_moveTogether_117 : decode cX0_moveTogether 117 = .ok (.iadd, 1) := by decide +kernel
theorem dX0_moveTogether_118 : decode cX0_moveTogether 118 = .ok (.istore_n 3, 1) := by decide +kernel
theorem dX0_moveTogether_119 : decode cX0_moveTogether 119 = .ok (.goto (-111), 3) := by decide +kernel
theorem dX0_moveTogether_122 : decode cX0_moveTogether 122 = .ok (.aload_n 0, 1) := by decide +kernel
theorem dX0_moveTogether_123 : decode cX0_moveTogether 123 = .ok (.iload_n 1, 1) := by decide +kernel
theorem dX0_moveTogether_124 : decode cX0_moveTogether 124 = .ok (.putfield 36, 3) := by decide +kernel
theorem dX0_moveTogether_127 : decode cX0_moveTogether 127 = .ok (.return_, 1) := by decide +kernel
theorem dX0_newHandle_0 : decode cX0_newHandle 0 = .ok (.aload_n 0, 1) := by decide +kernel
theorem dX0_newHandle_1 : decode cX0_newHandle 1 = .ok (.getfield 39, 3) := by decide +kernel
theorem dX0_newHandle_4 : decode cX0_newHandle 4 = .ok (.ifCond .eq 21, 3) := by decide +kernel
theorem dX0_newHandle_7 : decode cX0_newHandle 7 = .ok (.aload_n 0, 1) := by decide +kernel
theorem dX0_newHandle_8 : decode cX0_newHandle 8 = .ok (.getfield 39, 3) := by decide +kernel
theorem dX0_newHandle_11 : decode cX0_newHandle 11 = .ok (.istore_n 1, 1) := by decide +kernel
theorem dX0_newHandle_12 : decode cX0_newHandle 12 = .ok (.aload_n 0, 1) := by decide +kernel
theorem dX0_newHandle_13 : decode cX0_newHandle 13 = .ok (.aload_n 0, 1) := by decide +kernel
theorem dX0_newHandle_14 : decode cX0_newHandle 14 = .ok (.getfield 23, 3) := by decide +kernel
theorem dX0_newHandle_17 : decode cX0_newHandle 17 = .ok (.iload_n 1, 1) := by decide +kernel
theorem dX0_newHandle_18 : decode cX0_newHandle 18 = .ok (.laload, 1) := by decide +kernel
theorem dX0_newHandle_19 : decode cX0_newHandle 19 = .ok (.l2i, 1) := by decide +kernel
theorem dX0_newHandle_20 : decode cX0_newHandle 20 = .ok (.putfield 39, 3) := by decide +kernel
theorem dX0_newHandle_23 : decode cX0_newHandle 23 = .ok (.iload_n 1, 1) := by decide +kernel
theorem dX0_newHandle_24 : decode cX0_newHandle 24 = .ok (.ireturn, 1) := by decide +kernel
theorem dX0_newHandle_25 : decode cX0_newHandle 25 = .ok (.aload_n 0, 1) := by decide +kernel
theorem dX0_newHandle_26 : decode cX0_newHandle 26 = .ok (.dup, 1) := by decide +kernel
theorem dX0_newHandle_27 : decode cX0_newHandle 27 = .ok (.getfield 127, 3) := by decide +kernel
theorem dX0_newHandle_30 : decode cX0_newHandle 30 = .ok (.iconst 1, 1) := by decide +kernel
theorem dX0_newHandle_31 : decode cX0_newHandle 31 = .ok (.iadd, 1) := by decide +kernel
theorem dX0_newHandle_32 : decode cX0_newHandle 32 = .ok (.putfield 127, 3) := by decide +kernel
theorem dX0_newHandle_35 : decode cX0_newHandle 35 = .ok (.aload_n 0, 1) := by decide +kernel
theorem dX0_newHandle_36 : decode cX0_newHandle 36 = .ok (.getfield 127, 3) := by decide +kernel
theorem dX0_newHandle_39 : decode cX0_newHandle 39 = .ok (.aload_n 0, 1) := by decide +kernel
theorem dX0_newHandle_40 : decode cX0_newHandle 40 = .ok (.getfield 23, 3) := by decide +kernel
theorem dX0_newHandle_43 : decode cX0_newHandle 43 = .ok (.arraylength, 1) := by decide +kernel
theorem dX0_newHandle_44 : decode cX0_newHandle 44 = .ok (.if_icmp .lt 7, 3) := by decide +kernel
theorem dX0_newHandle_47 : decode cX0_newHandle 47 = .ok (.aload_n 0, 1) := by decide +kernel
theorem dX0_newHandle_48 : decode cX0_newHandle 48 = .ok (.invokevirtual 145, 3) := by decide +kernel
theorem dX0_newHandle_51 : decode cX0_newHandle 51 = .ok (.aload_n 0, 1) := by decide +kernel
theorem dX0_newHandle_52 : decode cX0_newHandle 52 = .ok (.getfield 127, 3) := by decide +kernel
theorem dX0_newHandle_55 : decode cX0_newHandle 55 = .ok (.ireturn, 1) := by decide +kernel
theorem dX0_extendHandles_0 : decode cX0_extendHandles 0 = .ok (.iconst 2, 1) := by decide +kernel
theorem dX0_extendHandles_1 : decode cX0_extendHandles 1 = .ok (.aload_n 0, 1) := by decide +kernel
theorem dX0_extendHandles_2 : decode cX0_extendHandles 2 = .ok (.getfield 23, 3) := by decide +kernel
theorem dX0_extendHandles_5 : decode cX0_extendHandles 5 = .ok (.arraylength, 1) := by decide +kernel
theorem dX0_extendHandles_6 : decode cX0_extendHandles 6 = .ok (.imul, 1) := by decide +kernel
theorem dX0_extendHandles_7 : decode cX0_extendHandles 7 = .ok (.aload_n 0, 1) := by decide +kernel
theorem dX0_extendHandles_8 : decode cX0_extendHandles 8 = .ok (.getfield 11, 3) := by decide +kernel
theorem dX0_extendHandles_11 : decode cX0_extendHandles 11 = .ok (.iconst 1, 1) := by decide +kernel
theorem dX0_extendHandles_12 : decode cX0_extendHandles 12 = .ok (.iadd, 1) := by decide +kernel
theorem dX0_extendHandles_13 : decode cX0_extendHandles 13 = .ok (.invokestatic 148, 3) := by decide +kernel
theorem dX0_extendHandles_16 : decode cX0_extendHandles 16 = .ok (.istore_n 1, 1) := by decide +kernel
theorem dX0_extendHandles_17 : decode cX0_extendHandles 17 = .ok (.aload_n 0, 1) := by decide +kernel
theorem dX0_extendHandles_18 : decode cX0_extendHandles 18 = .ok (.aload_n 0, 1) := by decide +kernel
theorem dX0_extendHandles_19 : decode cX0_extendHandles 19 = .ok (.getfield 23, 3) := by decide +kernel
theorem dX0_extendHandles_22 : decode cX0_extendHandles 22 = .ok (.iload_n 1, 1) := by decide +kernel
theorem dX0_extendHandles_23 : decode cX0_extendHandles 23 = .ok (.invokestatic 153, 3) := by decide +kernel
theorem dX0_extendHandles_26 : decode cX0_extendHandles 26 = .ok (.putfield 23, 3) := by decide +kernel
theorem dX0_extendHandles_29 : decode cX0_extendHandles 29 = .ok (.aload_n 0, 1) := by decide +kernel
theorem dX0_extendHandles_30 : decode cX0_extendHandles 30 = .ok (.iload_n 1, 1) := by decide +kernel
theorem dX0_extendHandles_31 : decode cX0_extendHandles 31 = .ok (.newarray .long, 2) := by decide +kernel
theorem dX0_extendHandles_33 : decode cX0_extendHandles 33 = .ok (.putfield 29, 3) := by decide +kernel
theorem dX0_extendHandles_36 : decode cX0_extendHandles 36 = .ok (.aload_n 0, 1) := by decide +kernel
theorem dX0_extendHandles_37 : decode cX0_extendHandles 37 = .ok (.iload_n 1, 1) := by decide +kernel
theorem dX0_extendHandles_38 : decode cX0_extendHandles 38 = .ok (.newarray .boolean, 2) := by decide +kernel
theorem dX0_extendHandles_40 : decode cX0_extendHandles 40 = .ok (.putfield 26, 3) := by decide +kernel
theorem dX0_extendHandles_43 : decode cX0_extendHandles 43 = .ok (.return_, 1) := by decide +kernel
theorem dX0_extendWords_0 : decode cX0_extendWords 0 = .ok (.iload_n 1, 1) := by decide +kernel
theorem dX0_extendWords_1 : decode cX0_extendWords 1 = .ok (.aload_n 0, 1) := by decide +kernel
theorem dX0_extendWords_2 : decode cX0_extendWords 2 = .ok (.getfield 15, 3) := by decide +kernel
theorem dX0_extendWords_5 : decode cX0_extendWords 5 = .ok (.arraylength, 1) := by decide +kernel
theorem dX0_extendWords_6 : decode cX0_extendWords 6 = .ok (.if_icmp .gt 4, 3) := by decide +kernel
theorem dX0_extendWords_9 : decode cX0_extendWords 9 = .ok (.return_, 1) := by decide +kernel
theorem dX0_extendWords_10 : decode cX0_extendWords 10 = .ok (.bipush 17, 2) := by decide +kernel
theorem dX0_extendWords_12 : decode cX0_extendWords 12 = .ok (.aload_n 0, 1) := by decide +kernel
theorem dX0_extendWords_13 : decode cX0_extendWords 13 = .ok (.getfield 11, 3) := by decide +kernel
theorem dX0_extendWords_16 : decode cX0_extendWords 16 = .ok (.iadd, 1) := by decide +kernel
theorem dX0_extendWords_17 : decode cX0_extendWords 17 = .ok (.istore_n 2, 1) := by decide +kernel
theorem dX0_extendWords_18 : decode cX0_extendWords 18 = .ok (.bipush 64, 2) := by decide +kernel
theorem dX0_extendWords_20 : decode cX0_extendWords 20 = .ok (.istore_n 3, 1) := by decide +kernel
theorem dX0_extendWords_21 : decode cX0_extendWords 21 = .ok (.iload_n 3, 1) := by decide +kernel
theorem dX0_extendWords_22 : decode cX0_extendWords 22 = .ok (.iload_n 1, 1) := by decide +kernel
theorem dX0_extendWords_23 : decode cX0_extendWords 23 = .ok (.if_icmp .ge 15, 3) := by decide +kernel
theorem dX0_extendWords_26 : decode cX0_extendWords 26 = .ok (.iload_n 3, 1) := by decide +kernel
theorem dX0_extendWords_27 : decode cX0_extendWords 27 = .ok (.iload_n 2, 1) := by decide +kernel
theorem dX0_extendWords_28 : decode cX0_extendWords 28 = .ok (.if_icmp .ge 10, 3) := by decide +kernel
theorem dX0_extendWords_31 : decode cX0_extendWords 31 = .ok (.iload_n 3, 1) := by decide +kernel
theorem dX0_extendWords_32 : decode cX0_extendWords 32 = .ok (.iconst 2, 1) := by decide +kernel
theorem dX0_extendWords_33 : decode cX0_extendWords 33 = .ok (.imul, 1) := by decide +kernel
theorem dX0_extendWords_34 : decode cX0_extendWords 34 = .ok (.istore_n 3, 1) := by decide +kernel
theorem dX0_extendWords_35 : decode cX0_extendWords 35 = .ok (.goto (-14), 3) := by decide +kernel
theorem dX0_extendWords_38 : decode cX0_extendWords 38 = .ok (.iload_n 3, 1) := by decide +kernel
theorem dX0_extendWords_39 : decode cX0_extendWords 39 = .ok (.iload_n 2, 1) := by decide +kernel
theorem dX0_extendWords_40 : decode cX0_extendWords 40 = .ok (.invokestatic 148, 3) := by decide +kernel
theorem dX0_extendWords_43 : decode cX0_extendWords 43 = .ok (.istore_n 3, 1) := by decide +kernel
theorem dX0_extendWords_44 : decode cX0_extendWords 44 = .ok (.aload_n 0, 1) := by decide +kernel
theorem dX0_extendWords_45 : decode cX0_extendWords 45 = .ok (.aload_n 0, 1) := by decide +kernel
theorem dX0_extendWords_46 : decode cX0_extendWords 46 = .ok (.getfield 15, 3) := by decide +kernel
theorem dX0_extendWords_49 : decode cX0_extendWords 49 = .ok (.iload_n 3, 1) := by decide +kernel
theorem dX0_extendWords_50 : decode cX0_extendWords 50 = .ok (.invokestatic 153, 3) := by decide +kernel
theorem dX0_extendWords_53 : decode cX0_extendWords 53 = .ok (.putfield 15, 3) := by decide +kernel
theorem dX0_extendWords_56 : decode cX0_extendWords 56 = .ok (.iload_n 3, 1) := by decide +kernel
theorem dX0_extendWords_57 : decode cX0_extendWords 57 = .ok (.newarray .boolean, 2) := by decide +kernel
theorem dX0_extendWords_59 : decode cX0_extendWords 59 = .ok (.astore 4, 2) := by decide +kernel
theorem dX0_extendWords_61 : decode cX0_extendWords 61 = .ok (.iconst 0, 1) := by decide +kernel
theorem dX0_extendWords_62 : decode cX0_extendWords 62 = .ok (.istore 5, 2) := by decide +kernel
theorem dX0_extendWords_64 : decode cX0_extendWords 64 = .ok (.iload 5, 2) := by decide +kernel
theorem dX0_extendWords_66 : decode cX0_extendWords 66 = .ok (.aload_n 0, 1) := by decide +kernel
theorem dX0_extendWords_67 : decode cX0_extendWords 67 = .ok (.getfield 19, 3) := by decide +kernel
theorem dX0_extendWords_70 : decode cX0_extendWords 70 = .ok (.arraylength, 1) := by decide +kernel
theorem dX0_extendWords_71 : decode cX0_extendWords 71 = .ok (.if_icmp .ge 21, 3) := by decide +kernel
theorem dX0_extendWords_74 : decode cX0_extendWords 74 = .ok (.aload 4, 2) := by decide +kernel
theorem dX0_extendWords_76 : decode cX0_extendWords 76 = .ok (.iload 5, 2) := by decide +kernel
theorem dX0_extendWords_78 : decode cX0_extendWords 78 = .ok (.aload_n 0, 1) := by decide +kernel
theorem dX0_extendWords_79 : decode cX0_extendWords 79 = .ok (.getfield 19, 3) := by decide +kernel
theorem dX0_extendWords_82 : decode cX0_extendWords 82 = .ok (.iload 5, 2) := by decide +kernel
theorem dX0_extendWords_84 : decode cX0_extendWords 84 = .ok (.baload, 1) := by decide +kernel
theorem dX0_extendWords_85 : decode cX0_extendWords 85 = .ok (.bastore, 1) := by decide +kernel
theorem dX0_extendWords_86 : decode cX0_extendWords 86 = .ok (.iinc 5 1, 3) := by decide +kernel
theorem dX0_extendWords_89 : decode cX0_extendWords 89 = .ok (.goto (-25), 3) := by decide +kernel
theorem dX0_extendWords_92 : decode cX0_extendWords 92 = .ok (.aload_n 0, 1) := by decide +kernel
theorem dX0_extendWords_93 : decode cX0_extendWords 93 = .ok (.aload 4, 2) := by decide +kernel
theorem dX0_extendWords_95 : decode cX0_extendWords 95 = .ok (.putfield 19, 3) := by decide +kernel
theorem dX0_extendWords_98 : decode cX0_extendWords 98 = .ok (.return_, 1) := by decide +kernel
theorem dX0_header_0 : decode cX0_header 0 = .ok (.aload_n 0, 1) := by decide +kernel
theorem dX0_header_1 : decode cX0_header 1 = .ok (.getfield 15, 3) := by decide +kernel
theorem dX0_header_4 : decode cX0_header 4 = .ok (.aload_n 0, 1) := by decide +kernel
theorem dX0_header_5 : decode cX0_header 5 = .ok (.getfield 23, 3) := by decide +kernel
theorem dX0_header_8 : decode cX0_header 8 = .ok (.iload_n 1, 1) := by decide +kernel
theorem dX0_header_9 : decode cX0_header 9 = .ok (.laload, 1) := by decide +kernel
theorem dX0_header_10 : decode cX0_header 10 = .ok (.l2i, 1) := by decide +kernel
theorem dX0_header_11 : decode cX0_header 11 = .ok (.laload, 1) := by decide +kernel
theorem dX0_header_12 : decode cX0_header 12 = .ok (.lreturn, 1) := by decide +kernel
theorem dX0_kindIn_0 : decode cX0_kindIn 0 = .ok (.lload_n 0, 1) := by decide +kernel
theorem dX0_kindIn_1 : decode cX0_kindIn 1 = .ok (.bipush 18, 2) := by decide +kernel
theorem dX0_kindIn_3 : decode cX0_kindIn 3 = .ok (.lushr, 1) := by decide +kernel
theorem dX0_kindIn_4 : decode cX0_kindIn 4 = .ok (.ldc2_w 157, 3) := by decide +kernel
theorem dX0_kindIn_7 : decode cX0_kindIn 7 = .ok (.land, 1) := by decide +kernel
theorem dX0_kindIn_8 : decode cX0_kindIn 8 = .ok (.l2i, 1) := by decide +kernel
theorem dX0_kindIn_9 : decode cX0_kindIn 9 = .ok (.ireturn, 1) := by decide +kernel
theorem dX0_lengthIn_0 : decode cX0_lengthIn 0 = .ok (.lload_n 0, 1) := by decide +kernel
theorem dX0_lengthIn_1 : decode cX0_lengthIn 1 = .ok (.bipush 22, 2) := by decide +kernel
theorem dX0_lengthIn_3 : decode cX0_lengthIn 3 = .ok (.lushr, 1) := by decide +kernel
theorem dX0_lengthIn_4 : decode cX0_lengthIn 4 = .ok (.ldc2_w 139, 3) := by decide +kernel
theorem dX0_lengthIn_7 : decode cX0_lengthIn 7 = .ok (.land, 1) := by decide +kernel
theorem dX0_lengthIn_8 : decode cX0_lengthIn 8 = .ok (.l2i, 1) := by decide +kernel
theorem dX0_lengthIn_9 : decode cX0_lengthIn 9 = .ok (.ireturn, 1) := by decide +kernel
theorem dX0_sizeOf_0 : decode cX0_sizeOf 0 = .ok (.iconst 1, 1) := by decide +kernel
theorem dX0_sizeOf_1 : decode cX0_sizeOf 1 = .ok (.iload_n 0, 1) := by decide +kernel
theorem dX0_sizeOf_2 : decode cX0_sizeOf 2 = .ok (.iconst 3, 1) := by decide +kernel
theorem dX0_sizeOf_3 : decode cX0_sizeOf 3 = .ok (.if_icmp .ne 12, 3) := by decide +kernel
theorem dX0_sizeOf_6 : decode cX0_sizeOf 6 = .ok (.iload_n 1, 1) := by decide +kernel
theorem dX0_sizeOf_7 : decode cX0_sizeOf 7 = .ok (.bipush 7, 2) := by decide +kernel
theorem dX0_sizeOf_9 : decode cX0_sizeOf 9 = .ok (.iadd, 1) := by decide +kernel
theorem dX0_sizeOf_10 : decode cX0_sizeOf 10 = .ok (.iconst 3, 1) := by decide +kernel
theorem dX0_sizeOf_11 : decode cX0_sizeOf 11 = .ok (.ishr, 1) := by decide +kernel
theorem dX0_sizeOf_12 : decode cX0_sizeOf 12 = .ok (.goto 4, 3) := by decide +kernel
theorem dX0_sizeOf_15 : decode cX0_sizeOf 15 = .ok (.iload_n 1, 1) := by decide +kernel
theorem dX0_sizeOf_16 : decode cX0_sizeOf 16 = .ok (.iadd, 1) := by decide +kernel
theorem dX0_sizeOf_17 : decode cX0_sizeOf 17 = .ok (.ireturn, 1) := by decide +kernel
