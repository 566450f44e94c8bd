theorem dX4_byteAt_41 : decode cX4_byteAt 41 = .ok (.aload_n 0, 1) := by decide +kernel
theorem dX4_byteAt_42 : decode cX4_byteAt 42 = .ok (.getfield 7, 3) := by decide +kernel
theorem dX4_byteAt_45 : decode cX4_byteAt 45 = .ok (.iload_n 1, 1) := by decide +kernel
theorem dX4_byteAt_46 : decode cX4_byteAt 46 = .ok (.iaload, 1) := by decide +kernel
theorem dX4_byteAt_47 : decode cX4_byteAt 47 = .ok (.invokevirtual 197, 3) := by decide +kernel
theorem dX4_byteAt_50 : decode cX4_byteAt 50 = .ok (.iconst 1, 1) := by decide +kernel
theorem dX4_byteAt_51 : decode cX4_byteAt 51 = .ok (.isub, 1) := by decide +kernel
theorem dX4_byteAt_52 : decode cX4_byteAt 52 = .ok (.invokestatic 172, 3) := by decide +kernel
theorem dX4_byteAt_55 : decode cX4_byteAt 55 = .ok (.ifCond .eq 7, 3) := by decide +kernel
theorem dX4_byteAt_58 : decode cX4_byteAt 58 = .ok (.iconst 3, 1) := by decide +kernel
theorem dX4_byteAt_59 : decode cX4_byteAt 59 = .ok (.goto 4, 3) := by decide +kernel
theorem dX4_byteAt_62 : decode cX4_byteAt 62 = .ok (.iconst 0, 1) := by decide +kernel
theorem dX4_byteAt_63 : decode cX4_byteAt 63 = .ok (.putfield 85, 3) := by decide +kernel
theorem dX4_byteAt_66 : decode cX4_byteAt 66 = .ok (.aload_n 0, 1) := by decide +kernel
theorem dX4_byteAt_67 : decode cX4_byteAt 67 = .ok (.getfield 85, 3) := by decide +kernel
theorem dX4_byteAt_70 : decode cX4_byteAt 70 = .ok (.ifCond .le 7, 3) := by decide +kernel
theorem dX4_byteAt_73 : decode cX4_byteAt 73 = .ok (.iconst 0, 1) := by decide +kernel
theorem dX4_byteAt_74 : decode cX4_byteAt 74 = .ok (.goto 14, 3) := by decide +kernel
theorem dX4_byteAt_77 : decode cX4_byteAt 77 = .ok (.aload_n 0, 1) := by decide +kernel
theorem dX4_byteAt_78 : decode cX4_byteAt 78 = .ok (.aload_n 0, 1) := by decide +kernel
theorem dX4_byteAt_79 : decode cX4_byteAt 79 = .ok (.getfield 7, 3) := by decide +kernel
theorem dX4_byteAt_82 : decode cX4_byteAt 82 = .ok (.iload_n 1, 1) := by decide +kernel
theorem dX4_byteAt_83 : decode cX4_byteAt 83 = .ok (.iaload, 1) := by decide +kernel
theorem dX4_byteAt_84 : decode cX4_byteAt 84 = .ok (.iload_n 2, 1) := by decide +kernel
theorem dX4_byteAt_85 : decode cX4_byteAt 85 = .ok (.invokevirtual 200, 3) := by decide +kernel
theorem dX4_byteAt_88 : decode cX4_byteAt 88 = .ok (.ireturn, 1) := by decide +kernel
theorem dX4_setByte_0 : decode cX4_setByte 0 = .ok (.aload_n 0, 1) := by decide +kernel
theorem dX4_setByte_1 : decode cX4_setByte 1 = .ok (.iload_n 1, 1) := by decide +kernel
theorem dX4_setByte_2 : decode cX4_setByte 2 = .ok (.invokestatic 165, 3) := by decide +kernel
theorem dX4_setByte_5 : decode cX4_setByte 5 = .ok (.ifCond .eq 7, 3) := by decide +kernel
theorem dX4_setByte_8 : decode cX4_setByte 8 = .ok (.iconst 0, 1) := by decide +kernel
theorem dX4_setByte_9 : decode cX4_setByte 9 = .ok (.goto 4, 3) := by decide +kernel
theorem dX4_setByte_12 : decode cX4_setByte 12 = .ok (.iconst 1, 1) := by decide +kernel
theorem dX4_setByte_13 : decode cX4_setByte 13 = .ok (.putfield 85, 3) := by decide +kernel
theorem dX4_setByte_16 : decode cX4_setByte 16 = .ok (.aload_n 0, 1) := by decide +kernel
theorem dX4_setByte_17 : decode cX4_setByte 17 = .ok (.getfield 85, 3) := by decide +kernel
theorem dX4_setByte_20 : decode cX4_setByte 20 = .ok (.ifCond .le 4, 3) := by decide +kernel
theorem dX4_setByte_23 : decode cX4_setByte 23 = .ok (.return_, 1) := by decide +kernel
theorem dX4_setByte_24 : decode cX4_setByte 24 = .ok (.aload_n 0, 1) := by decide +kernel
theorem dX4_setByte_25 : decode cX4_setByte 25 = .ok (.aload_n 0, 1) := by decide +kernel
theorem dX4_setByte_26 : decode cX4_setByte 26 = .ok (.iload_n 1, 1) := by decide +kernel
theorem dX4_setByte_27 : decode cX4_setByte 27 = .ok (.invokevirtual 194, 3) := by decide +kernel
theorem dX4_setByte_30 : decode cX4_setByte 30 = .ok (.ifCond .eq 26, 3) := by decide +kernel
theorem dX4_setByte_33 : decode cX4_setByte 33 = .ok (.aload_n 0, 1) := by decide +kernel
theorem dX4_setByte_34 : decode cX4_setByte 34 = .ok (.getfield 7, 3) := by decide +kernel
theorem dX4_setByte_37 : decode cX4_setByte 37 = .ok (.iload_n 1, 1) := by decide +kernel
theorem dX4_setByte_38 : decode cX4_setByte 38 = .ok (.iaload, 1) := by decide +kernel
theorem dX4_setByte_39 : decode cX4_setByte 39 = .ok (.ifCond .le 21, 3) := by decide +kernel
theorem dX4_setByte_42 : decode cX4_setByte 42 = .ok (.aload_n 0, 1) := by decide +kernel
theorem dX4_setByte_43 : decode cX4_setByte 43 = .ok (.getfield 48, 3) := by decide +kernel
theorem dX4_setByte_46 : decode cX4_setByte 46 = .ok (.aload_n 0, 1) := by decide +kernel
theorem dX4_setByte_47 : decode cX4_setByte 47 = .ok (.getfield 7, 3) := by decide +kernel
theorem dX4_setByte_50 : decode cX4_setByte 50 = .ok (.iload_n 1, 1) := by decide +kernel
theorem dX4_setByte_51 : decode cX4_setByte 51 = .ok (.iaload, 1) := by decide +kernel
theorem dX4_setByte_52 : decode cX4_setByte 52 = .ok (.baload, 1) := by decide +kernel
theorem dX4_setByte_53 : decode cX4_setByte 53 = .ok (.ifCond .eq 7, 3) := by decide +kernel
theorem dX4_setByte_56 : decode cX4_setByte 56 = .ok (.iconst 2, 1) := by decide +kernel
theorem dX4_setByte_57 : decode cX4_setByte 57 = .ok (.goto 28, 3) := by decide +kernel
theorem dX4_setByte_60 : decode cX4_setByte 60 = .ok (.iload_n 2, 1) := by decide +kernel
theorem dX4_setByte_61 : decode cX4_setByte 61 = .ok (.iconst 0, 1) := by decide +kernel
theorem dX4_setByte_62 : decode cX4_setByte 62 = .ok (.aload_n 0, 1) := by decide +kernel
theorem dX4_setByte_63 : decode cX4_setByte 63 = .ok (.aload_n 0, 1) := by decide +kernel
theorem dX4_setByte_64 : decode cX4_setByte 64 = .ok (.getfield 7, 3) := by decide +kernel
theorem dX4_setByte_67 : decode cX4_setByte 67 = .ok (.iload_n 1, 1) := by decide +kernel
theorem dX4_setByte_68 : decode cX4_setByte 68 = .ok (.iaload, 1) := by decide +kernel
theorem dX4_setByte_69 : decode cX4_setByte 69 = .ok (.invokevirtual 197, 3) := by decide +kernel
theorem dX4_setByte_72 : decode cX4_setByte 72 = .ok (.iconst 1, 1) := by decide +kernel
theorem dX4_setByte_73 : decode cX4_setByte 73 = .ok (.isub, 1) := by decide +kernel
theorem dX4_setByte_74 : decode cX4_setByte 74 = .ok (.invokestatic 172, 3) := by decide +kernel
theorem dX4_setByte_77 : decode cX4_setByte 77 = .ok (.ifCond .eq 7, 3) := by decide +kernel
theorem dX4_setByte_80 : decode cX4_setByte 80 = .ok (.iconst 3, 1) := by decide +kernel
theorem dX4_setByte_81 : decode cX4_setByte 81 = .ok (.goto 4, 3) := by decide +kernel
theorem dX4_setByte_84 : decode cX4_setByte 84 = .ok (.iconst 0, 1) := by decide +kernel
theorem dX4_setByte_85 : decode cX4_setByte 85 = .ok (.putfield 85, 3) := by decide +kernel
theorem dX4_setByte_88 : decode cX4_setByte 88 = .ok (.aload_n 0, 1) := by decide +kernel
theorem dX4_setByte_89 : decode cX4_setByte 89 = .ok (.getfield 85, 3) := by decide +kernel
theorem dX4_setByte_92 : decode cX4_setByte 92 = .ok (.ifCond .ne 23, 3) := by decide +kernel
theorem dX4_setByte_95 : decode cX4_setByte 95 = .ok (.aload_n 0, 1) := by decide +kernel
theorem dX4_setByte_96 : decode cX4_setByte 96 = .ok (.getfield 60, 3) := by decide +kernel
theorem dX4_setByte_99 : decode cX4_setByte 99 = .ok (.aload_n 0, 1) := by decide +kernel
theorem dX4_setByte_100 : decode cX4_setByte 100 = .ok (.getfield 23, 3) := by decide +kernel
theorem dX4_setByte_103 : decode cX4_setByte 103 = .ok (.aload_n 0, 1) := by decide +kernel
theorem dX4_setByte_104 : decode cX4_setByte 104 = .ok (.getfield 7, 3) := by decide +kernel
theorem dX4_setByte_107 : decode cX4_setByte 107 = .ok (.iload_n 1, 1) := by decide +kernel
theorem dX4_setByte_108 : decode cX4_setByte 108 = .ok (.iaload, 1) := by decide +kernel
theorem dX4_setByte_109 : decode cX4_setByte 109 = .ok (.iaload, 1) := by decide +kernel
theorem dX4_setByte_110 : decode cX4_setByte 110 = .ok (.iload_n 2, 1) := by decide +kernel
theorem dX4_setByte_111 : decode cX4_setByte 111 = .ok (.iadd, 1) := by decide +kernel
theorem dX4_setByte_112 : decode cX4_setByte 112 = .ok (.iload_n 3, 1) := by decide +kernel
theorem dX4_setByte_113 : decode cX4_setByte 113 = .ok (.i2b, 1) := by decide +kernel
theorem dX4_setByte_114 : decode cX4_setByte 114 = .ok (.bastore, 1) := by decide +kernel
theorem dX4_setByte_115 : decode cX4_setByte 115 = .ok (.return_, 1) := by decide +kernel
theorem dX4_hasWord_0 : decode cX4_hasWord 0 = .ok (.aload_n 0, 1) := by decide +kernel
theorem dX4_hasWord_1 : decode cX4_hasWord 1 = .ok (.getfield 13, 3) := by decide +kernel
theorem dX4_hasWord_4 : decode cX4_hasWord 4 = .ok (.iload_n 1, 1) := by decide +kernel
theorem dX4_hasWord_5 : decode cX4_hasWord 5 = .ok (.laload, 1) := by decide +kernel
theorem dX4_hasWord_6 : decode cX4_hasWord 6 = .ok (.lload_n 2, 1) := by decide +kernel
theorem dX4_hasWord_7 : decode cX4_hasWord 7 = .ok (.ladd, 1) := by decide +kernel
theorem dX4_hasWord_8 : decode cX4_hasWord 8 = .ok (.lconst 0, 1) := by decide +kernel
theorem dX4_hasWord_9 : decode cX4_hasWord 9 = .ok (.lcmp, 1) := by decide +kernel
theorem dX4_hasWord_10 : decode cX4_hasWord 10 = .ok (.ifCond .lt 31, 3) := by decide +kernel
theorem dX4_hasWord_13 : decode cX4_hasWord 13 = .ok (.aload_n 0, 1) := by decide +kernel
theorem dX4_hasWord_14 : decode cX4_hasWord 14 = .ok (.getfield 13, 3) := by decide +kernel
theorem dX4_hasWord_17 : decode cX4_hasWord 17 = .ok (.iload_n 1, 1) := by decide +kernel
theorem dX4_hasWord_18 : decode cX4_hasWord 18 = .ok (.laload, 1) := by decide +kernel
theorem dX4_hasWord_19 : decode cX4_hasWord 19 = .ok (.lload_n 2, 1) := by decide +kernel
theorem dX4_hasWord_20 : decode cX4_hasWord 20 = .ok (.ladd, 1) := by decide +kernel
theorem dX4_hasWord_21 : decode cX4_hasWord 21 = .ok (.aload_n 0, 1) := by decide +kernel
theorem dX4_hasWord_22 : decode cX4_hasWord 22 = .ok (.getfield 20, 3) := by decide +kernel
theorem dX4_hasWord_25 : decode cX4_hasWord 25 = .ok (.aload_n 0, 1) := by decide +kernel
theorem dX4_hasWord_26 : decode cX4_hasWord 26 = .ok (.getfield 7, 3) := by decide +kernel
theorem dX4_hasWord_29 : decode cX4_hasWord 29 = .ok (.iload_n 1, 1) := by decide +kernel
theorem dX4_hasWord_30 : decode cX4_hasWord 30 = .ok (.iaload, 1) := by decide +kernel
theorem dX4_hasWord_31 : decode cX4_hasWord 31 = .ok (.iaload, 1) := by decide +kernel
theorem dX4_hasWord_32 : decode cX4_hasWord 32 = .ok (.i2l, 1) := by decide +kernel
theorem dX4_hasWord_33 : decode cX4_hasWord 33 = .ok (.lcmp, 1) := by decide +kernel
theorem dX4_hasWord_34 : decode cX4_hasWord 34 = .ok (.ifCond .ge 7, 3) := by decide +kernel
theorem dX4_hasWord_37 : decode cX4_hasWord 37 = .ok (.iconst 1, 1) := by decide +kernel
theorem dX4_hasWord_38 : decode cX4_hasWord 38 = .ok (.goto 4, 3) := by decide +kernel
theorem dX4_hasWord_41 : decode cX4_hasWord 41 = .ok (.iconst 0, 1) := by decide +kernel
theorem dX4_hasWord_42 : decode cX4_hasWord 42 = .ok (.ireturn, 1) := by decide +kernel
theorem dX4_shift_0 : decode cX4_shift 0 = .ok (.aload_n 0, 1) := by decide +kernel
theorem dX4_shift_1 : decode cX4_shift 1 = .ok (.iload_n 1, 1) := by decide +kernel
theorem dX4_shift_2 : decode cX4_shift 2 = .ok (.invokestatic 165, 3) := by decide +kernel
theorem dX4_shift_5 : decode cX4_shift 5 = .ok (.ifCond .eq 14, 3) := by decide +kernel
theorem dX4_shift_8 : decode cX4_shift 8 = .ok (.iload_n 2, 1) := by decide +kernel
theorem dX4_shift_9 : decode cX4_shift 9 = .ok (.invokestatic 165, 3) := by decide +kernel
theorem dX4_shift_12 : decode cX4_shift 12 = .ok (.ifCond .eq 7, 3) := by decide +kernel
theorem dX4_shift_15 : decode cX4_shift 15 = .ok (.iconst 0, 1) := by decide +kernel
theorem dX4_shift_16 : decode cX4_shift 16 = .ok (.goto 4, 3) := by decide +kernel
theorem dX4_shift_19 : decode cX4_shift 19 = .ok (.iconst 1, 1) := by decide +kernel
theorem dX4_shift_20 : decode cX4_shift 20 = .ok (.putfield 85, 3) := by decide +kernel
theorem dX4_shift_23 : decode cX4_shift 23 = .ok (.aload_n 0, 1) := by decide +kernel
theorem dX4_shift_24 : decode cX4_shift 24 = .ok (.getfield 85, 3) := by decide +kernel
theorem dX4_shift_27 : decode cX4_shift 27 = .ok (.ifCond .le 4, 3) := by decide +kernel
theorem dX4_shift_30 : decode cX4_shift 30 = .ok (.return_, 1) := by decide +kernel
theorem dX4_shift_31 : decode cX4_shift 31 = .ok (.aload_n 0, 1) := by decide +kernel
theorem dX4_shift_32 : decode cX4_shift 32 = .ok (.aload_n 0, 1) := by decide +kernel
theorem dX4_shift_33 : decode cX4_shift 33 = .ok (.iload_n 2, 1) := by decide +kernel
theorem dX4_shift_34 : decode cX4_shift 34 = .ok (.iconst 2, 1) := by decide +kernel
theorem dX4_shift_35 : decode cX4_shift 35 = .ok (.invokevirtual 89, 3) := by decide +kernel
theorem dX4_shift_38 : decode cX4_shift 38 = .ok (.ifCond .ne 7, 3) := by decide +kernel
theorem dX4_shift_41 : decode cX4_shift 41 = .ok (.iconst 2, 1) := by decide +kernel
theorem dX4_shift_42 : decode cX4_shift 42 = .ok (.goto 47, 3) := by decide +kernel
theorem dX4_shift_45 : decode cX4_shift 45 = .ok (.aload_n 0, 1) := by decide +kernel
theorem dX4_shift_46 : decode cX4_shift 46 = .ok (.getfield 13, 3) := by decide +kernel
theorem dX4_shift_49 : decode cX4_shift 49 = .ok (.iload_n 2, 1) := by decide +kernel
theorem dX4_shift_50 : decode cX4_shift 50 = .ok (.laload, 1) := by decide +kernel
theorem dX4_shift_51 : decode cX4_shift 51 = .ok (.iload_n 3, 1) := by decide +kernel
theorem dX4_shift_52 : decode cX4_shift 52 = .ok (.i2l, 1) := by decide +kernel
theorem dX4_shift_53 : decode cX4_shift 53 = .ok (.ladd, 1) := by decide +kernel
theorem dX4_shift_54 : decode cX4_shift 54 = .ok (.lconst 0, 1) := by decide +kernel
theorem dX4_shift_55 : decode cX4_shift 55 = .ok (.lcmp, 1) := by decide +kernel
theorem dX4_shift_56 : decode cX4_shift 56 = .ok (.ifCond .lt 28, 3) := by decide +kernel
theorem dX4_shift_59 : decode cX4_shift 59 = .ok (.aload_n 0, 1) := by decide +kernel
theorem dX4_shift_60 : decode cX4_shift 60 = .ok (.getfield 13, 3) := by decide +kernel
theorem dX4_shift_63 : decode cX4_shift 63 = .ok (.iload_n 2, 1) := by decide +kernel
theorem dX4_shift_64 : decode cX4_shift 64 = .ok (.laload, 1) := by decide +kernel
theorem dX4_shift_65 : decode cX4_shift 65 = .ok (.iload_n 3, 1) := by decide +kernel
theorem dX4_shift_66 : decode cX4_shift 66 = .ok (.i2l, 1) := by decide +kernel
theorem dX4_shift_67 : decode cX4_shift 67 = .ok (.ladd, 1) := by decide +kernel
theorem dX4_shift_68 : decode cX4_shift 68 = .ok (.aload_n 0, 1) := by decide +kernel
theorem dX4_shift_69 : decode cX4_shift 69 = .ok (.getfield 20, 3) := by decide +kernel
theorem dX4_shift_72 : decode cX4_shift 72 = .ok (.aload_n 0, 1) := by decide +kernel
theorem dX4_shift_73 : decode cX4_shift 73 = .ok (.getfield 7, 3) := by decide +kernel
theorem dX4_shift_76 : decode cX4_shift 76 = .ok (.iload_n 2, 1) := by decide +kernel
theorem dX4_shift_77 : decode cX4_shift 77 = .ok (.iaload, 1) := by decide +kernel
theorem dX4_shift_78 : decode cX4_shift 78 = .ok (.iaload, 1) := by decide +kernel
theorem dX4_shift_79 : decode cX4_shift 79 = .ok (.i2l, 1) := by decide +kernel
theorem dX4_shift_80 : decode cX4_shift 80 = .ok (.lcmp, 1) := by decide +kernel
theorem dX4_shift_81 : decode cX4_shift 81 = .ok (.ifCond .le 7, 3) := by decide +kernel
theorem dX4_shift_84 : decode cX4_shift 84 = .ok (.iconst 3, 1) := by decide +kernel
theorem dX4_shift_85 : decode cX4_shift 85 = .ok (.goto 4, 3) := by decide +kernel
theorem dX4_shift_88 : decode cX4_shift 88 = .ok (.iconst 0, 1) := by decide +kernel
theorem dX4_shift_89 : decode cX4_shift 89 = .ok (.putfield 85, 3) := by decide +kernel
theorem dX4_shift_92 : decode cX4_shift 92 = .ok (.aload_n 0, 1) := by decide +kernel
theorem dX4_shift_93 : decode cX4_shift 93 = .ok (.getfield 85, 3) := by decide +kernel
theorem dX4_shift_96 : decode cX4_shift 96 = .ok (.ifCond .ne 23, 3) := by decide +kernel
theorem dX4_shift_99 : decode cX4_shift 99 = .ok (.aload_n 0, 1) := by decide +kernel
theorem dX4_shift_100 : decode cX4_shift 100 = .ok (.iload_n 1, 1) := by decide +kernel
theorem dX4_shift_101 : decode cX4_shift 101 = .ok (.aload_n 0, 1) := by decide +kernel
theorem dX4_shift_102 : decode cX4_shift 102 = .ok (.getfield 7, 3) := by decide +kernel
theorem dX4_shift_105 : decode cX4_shift 105 = .ok (.iload_n 2, 1) := by decide +kernel
theorem dX4_shift_106 : decode cX4_shift 106 = .ok (.iaload, 1) := by decide +kernel
theorem dX4_shift_107 : decode cX4_shift 107 = .ok (.aload_n 0, 1) := by decide +kernel
theorem dX4_shift_108 : decode cX4_shift 108 = .ok (.getfield 13, 3) := by decide +kernel
theorem dX4_shift_111 : decode cX4_shift 111 = .ok (.iload_n 2, 1) := by decide +kernel
theorem dX4_shift_112 : decode cX4_shift 112 = .ok (.laload, 1) := by decide +kernel
theorem dX4_shift_113 : decode cX4_shift 113 = .ok (.iload_n 3, 1) := by decide +kernel
theorem dX4_shift_114 : decode cX4_shift 114 = .ok (.i2l, 1) := by decide +kernel
theorem dX4_shift_115 : decode cX4_shift 115 = .ok (.ladd, 1) := by decide +kernel
theorem dX4_shift_116 : decode cX4_shift 116 = .ok (.invokevirtual 168, 3) := by decide +kernel
theorem dX4_shift_119 : decode cX4_shift 119 = .ok (.return_, 1) := by decide +kernel
theorem dX4_at_0 : decode cX4_at 0 = .ok (.aload_n 0, 1) := by decide +kernel
theorem dX4_at_1 : decode cX4_at 1 = .ok (.getfield 23, 3) := by decide +kernel
theorem dX4_at_4 : decode cX4_at 4 = .ok (.aload_n 0, 1) := by decide +kernel
theorem dX4_at_5 : decode cX4_at 5 = .ok (.getfield 7, 3) := by decide +kernel
theorem dX4_at_8 : decode cX4_at 8 = .ok (.iload_n 1, 1) := by decide +kernel
theorem dX4_at_9 : decode cX4_at 9 = .ok (.iaload, 1) := by decide +kernel
theorem dX4_at_10 : decode cX4_at 10 = .ok (.iaload, 1) := by decide +kernel
theorem dX4_at_11 : decode cX4_at 11 = .ok (.aload_n 0, 1) := by decide +kernel
theorem dX4_at_12 : decode cX4_at 12 = .ok (.getfield 13, 3) := by decide +kernel
theorem dX4_at_15 : decode cX4_at 15 = .ok (.iload_n 1, 1) := by decide +kernel
theorem dX4_at_16 : decode cX4_at 16 = .ok (.laload, 1) := by decide +kernel
theorem dX4_at_17 : decode cX4_at 17 = .ok (.l2i, 1) := by decide +kernel
theorem dX4_at_18 : decode cX4_at 18 = .ok (.iadd, 1) := by decide +kernel
theorem dX4_at_19 : decode cX4_at 19 = .ok (.iload_n 2, 1) := by decide +kernel
theorem dX4_at_20 : decode cX4_at 20 = .ok (.iadd, 1) := by decide +kernel
theorem dX4_at_21 : decode cX4_at 21 = .ok (.ireturn, 1) := by decide +kernel
theorem dX4_load_0 : decode cX4_load 0 = .ok (.aload_n 0, 1) := by decide +kernel
theorem dX4_load_1 : decode cX4_load 1 = .ok (.iload_n 1, 1) := by decide +kernel
theorem dX4_load_2 : decode cX4_load 2 = .ok (.invokestatic 165, 3) := by decide +kernel
theorem dX4_load_5 : decode cX4_load 5 = .ok (.ifCond .eq 14, 3) := by decide +kernel
theorem dX4_load_8 : decode cX4_load 8 = .ok (.iload_n 2, 1) := by decide +kernel
theorem dX4_load_9 : decode cX4_load 9 = .ok (.invokestatic 165, 3) := by decide +kernel
theorem dX4_load_12 : decode cX4_load 12 = .ok (.ifCond .eq 7, 3) := by decide +kernel
theorem dX4_load_15 : decode cX4_load 15 = .ok (.iconst 0, 1) := by decide +kernel
theorem dX4_load_16 : decode cX4_load 16 = .ok (.goto 4, 3) := by decide +kernel
theorem dX4_load_19 : decode cX4_load 19 = .ok (.iconst 1, 1) := by decide +kernel
theorem dX4_load_20 : decode cX4_load 20 = .ok (.putfield 85, 3) := by decide +kernel
theorem dX4_load_23 : decode cX4_load 23 = .ok (.aload_n 0, 1) := by decide +kernel
theorem dX4_load_24 : decode cX4_load 24 = .ok (.getfield 85, 3) := by decide +kernel
theorem dX4_load_27 : decode cX4_load 27 = .ok (.ifCond .le 4, 3) := by decide +kernel
theorem dX4_load_30 : decode cX4_load 30 = .ok (.return_, 1) := by decide +kernel
theorem dX4_load_31 : decode cX4_load 31 = .ok (.aload_n 0, 1) := by decide +kernel
theorem dX4_load_32 : decode cX4_load 32 = .ok (.aload_n 0, 1) := by decide +kernel
theorem dX4_load_33 : decode cX4_load 33 = .ok (.iload_n 2, 1) := by decide +kernel
theorem dX4_load_34 : decode cX4_load 34 = .ok (.iconst 2, 1) := by decide +kernel
theorem dX4_load_35 : decode cX4_load 35 = .ok (.invokevirtual 89, 3) := by decide +kernel
theorem dX4_load_38 : decode cX4_load 38 = .ok (.ifCond .ne 7, 3) := by decide +kernel
theorem dX4_load_41 : decode cX4_load 41 = .ok (.iconst 2, 1) := by decide +kernel
theorem dX4_load_42 : decode cX4_load 42 = .ok (.goto 18, 3) := by decide +kernel
theorem dX4_load_45 : decode cX4_load 45 = .ok (.aload_n 0, 1) := by decide +kernel
theorem dX4_load_46 : decode cX4_load 46 = .ok (.iload_n 2, 1) := by decide +kernel
theorem dX4_load_47 : decode cX4_load 47 = .ok (.iload_n 3, 1) := by decide +kernel
theorem dX4_load_48 : decode cX4_load 48 = .ok (.i2l, 1) := by decide +kernel
theorem dX4_load_49 : decode cX4_load 49 = .ok (.invokevirtual 206, 3) := by decide +kernel
theorem dX4_load_52 : decode cX4_load 52 = .ok (.ifCond .ne 7, 3) := by decide +kernel
theorem dX4_load_55 : decode cX4_load 55 = .ok (.iconst 3, 1) := by decide +kernel
theorem dX4_load_56 : decode cX4_load 56 = .ok (.goto 4, 3) := by decide +kernel
theorem dX4_load_59 : decode cX4_load 59 = .ok (.iconst 0, 1) := by decide +kernel
theorem dX4_load_60 : decode cX4_load 60 = .ok (.putfield 85, 3) := by decide +kernel
theorem dX4_load_63 : decode cX4_load 63 = .ok (.aload_n 0, 1) := by decide +kernel
theorem dX4_load_64 : decode cX4_load 64 = .ok (.getfield 85, 3) := by decide +kernel
theorem dX4_load_67 : decode cX4_load 67 = .ok (.ifCond .le 4, 3) := by decide +kernel
theorem dX4_load_70 : decode cX4_load 70 = .ok (.return_, 1) := by decide +kernel
theorem dX4_load_71 : decode cX4_load 71 = .ok (.aload_n 0, 1) := by decide +kernel
theorem dX4_load_72 : decode cX4_load 72 = .ok (.iload_n 2, 1) := by decide +kernel
theorem dX4_load_73 : decode cX4_load 73 = .ok (.iload_n 3, 1) := by decide +kernel
theorem dX4_load_74 : decode cX4_load 74 = .ok (.invokevirtual 210, 3) := by decide +kernel
theorem dX4_load_77 : decode cX4_load 77 = .ok (.istore 4, 2) := by decide +kernel
theorem dX4_load_79 : decode cX4_load 79 = .ok (.aload_n 0, 1) := by decide +kernel
theorem dX4_load_80 : decode cX4_load 80 = .ok (.iload_n 1, 1) := by decide +kernel
theorem dX4_load_81 : decode cX4_load 81 = .ok (.aload_n 0, 1) := by decide +kernel
theorem dX4_load_82 : decode cX4_load 82 = .ok (.getfield 54, 3) := by decide +kernel
theorem dX4_load_85 : decode cX4_load 85 = .ok (.iload 4, 2) := by decide +kernel
theorem dX4_load_87 : decode cX4_load 87 = .ok (.iaload, 1) := by decide +kernel
theorem dX4_load_88 : decode cX4_load 88 = .ok (.aload_n 0, 1) := by decide +kernel
theorem dX4_load_89 : decode cX4_load 89 = .ok (.getfield 57, 3) := by decide +kernel
theorem dX4_load_92 : decode cX4_load 92 = .ok (.iload 4, 2) := by decide +kernel
theorem dX4_load_94 : decode cX4_load 94 = .ok (.laload, 1) := by decide +kernel
theorem dX4_load_95 : decode cX4_load 95 = .ok (.invokevirtual 168, 3) := by decide +kernel
theorem dX4_load_98 : decode cX4_load 98 = .ok (.return_, 1) := by decide +kernel
theorem dX4_store_0 : decode cX4_store 0 = .ok (.aload_n 0, 1) := by decide +kernel
theorem dX4_store_1 : decode cX4_store 1 = .ok (.iload_n 3, 1) := by decide +kernel
theorem dX4_store_2 : decode cX4_store 2 = .ok (.invokestatic 165, 3) := by decide +kernel
theorem dX4_store_5 : decode cX4_store 5 = .ok (.ifCond .eq 14, 3) := by decide +kernel
theorem dX4_store_8 : decode cX4_store 8 = .ok (.iload_n 1, 1) := by decide +kernel
theorem dX4_store_9 : decode cX4_store 9 = .ok (.invokestatic 165, 3) := by decide +kernel
theorem dX4_store_12 : decode cX4_store 12 = .ok (.ifCond .eq 7, 3) := by decide +kernel
theorem dX4_store_15 : decode cX4_store 15 = .ok (.iconst 0, 1) := by decide +kernel
theorem dX4_store_16 : decode cX4_store 16 = .ok (.goto 4, 3) := by decide +kernel
theorem dX4_store_19 : decode cX4_store 19 = .ok (.iconst 1, 1) := by decide +kernel
theorem dX4_store_20 : decode cX4_store 20 = .ok (.putfield 85, 3) := by decide +kernel
theorem dX4_store_23 : decode cX4_store 23 = .ok (.aload_n 0, 1) := by decide +kernel
theorem dX4_store_24 : decode cX4_store 24 = .ok (.getfield 85, 3) := by decide +kernel
theorem dX4_store_27 : decode cX4_store 27 = .ok (.ifCond .le 4, 3) := by decide +kernel
theorem dX4_store_30 : decode cX4_store 30 = .ok (.return_, 1) := by decide +kernel
theorem dX4_store_31 : decode cX4_store 31 = .ok (.aload_n 0, 1) := by decide +kernel
theorem dX4_store_32 : decode cX4_store 32 = .ok (.aload_n 0, 1) := by decide +kernel
theorem dX4_store_33 : decode cX4_store 33 = .ok (.iload_n 1, 1) := by decide +kernel
theorem dX4_store_34 : decode cX4_store 34 = .ok (.iconst 2, 1) := by decide +kernel
theorem dX4_store_35 : decode cX4_store 35 = .ok (.invokevirtual 89, 3) := by decide +kernel
theorem dX4_store_38 : decode cX4_store 38 = .ok (.ifCond .ne 7, 3) := by decide +kernel
theorem dX4_store_41 : decode cX4_store 41 = .ok (.iconst 2, 1) := by decide +kernel
theorem dX4_store_42 : decode cX4_store 42 = .ok (.goto 18, 3) := by decide +kernel
theorem dX4_store_45 : decode cX4_store 45 = .ok (.aload_n 0, 1) := by decide +kernel
theorem dX4_store_46 : decode cX4_store 46 = .ok (.iload_n 1, 1) := by decide +kernel
theorem dX4_store_47 : decode cX4_store 47 = .ok (.iload_n 2, 1) := by decide +kernel
theorem dX4_store_48 : decode cX4_store 48 = .ok (.i2l, 1) := by decide +kernel
theorem dX4_store_49 : decode cX4_store 49 = .ok (.invokevirtual 206, 3) := by decide +kernel
theorem dX4_store_52 : decode cX4_store 52 = .ok (.ifCond .ne 7, 3) := by decide +kernel
theorem dX4_store_55 : decode cX4_store 55 = .ok (.iconst 3, 1) := by decide +kernel
theorem dX4_store_56 : decode cX4_store 56 = .ok (.goto 4, 3) := by decide +kernel
theorem dX4_store_59 : decode cX4_store 59 = .ok (.iconst 0, 1) := by decide +kernel
theorem dX4_store_60 : decode cX4_store 60 = .ok (.putfield 85, 3) := by decide +kernel
theorem dX4_store_63 : decode cX4_store 63 = .ok (.aload_n 0, 1) := by decide +kernel
theorem dX4_store_64 : decode cX4_store 64 = .ok (.getfield 85, 3) := by decide +kernel
theorem dX4_store_67 : decode cX4_store 67 = .ok (.ifCond .le 4, 3) := by decide +kernel
theorem dX4_store_70 : decode cX4_store 70 = .ok (.return_, 1) := by decide +kernel
theorem dX4_store_71 : decode cX4_store 71 = .ok (.aload_n 0, 1) := by decide +kernel
theorem dX4_store_72 : decode cX4_store 72 = .ok (.iload_n 1, 1) := by decide +kernel
theorem dX4_store_73 : decode cX4_store 73 = .ok (.iload_n 2, 1) := by decide +kernel
theorem dX4_store_74 : decode cX4_store 74 = .ok (.invokevirtual 210, 3) := by decide +kernel
theorem dX4_store_77 : decode cX4_store 77 = .ok (.istore 4, 2) := by decide +kernel
theorem dX4_store_79 : decode cX4_store 79 = .ok (.aload_n 0, 1) := by decide +kernel
theorem dX4_store_80 : decode cX4_store 80 = .ok (.getfield 54, 3) := by decide +kernel
theorem dX4_store_83 : decode cX4_store 83 = .ok (.iload 4, 2) := by decide +kernel
theorem dX4_store_85 : decode cX4_store 85 = .ok (.aload_n 0, 1) := by decide +kernel
theorem dX4_store_86 : decode cX4_store 86 = .ok (.getfield 7, 3) := by decide +kernel
theorem dX4_store_89 : decode cX4_store 89 = .ok (.iload_n 3, 1) := by decide +kernel
theorem dX4_store_90 : decode cX4_store 90 = .ok (.iaload, 1) := by decide +kernel
theorem dX4_store_91 : decode cX4_store 91 = .ok (.iastore, 1) := by decide +kernel
theorem dX4_store_92 : decode cX4_store 92 = .ok (.aload_n 0, 1) := by decide +kernel
theorem dX4_store_93 : decode cX4_store 93 = .ok (.getfield 57, 3) := by decide +kernel
theorem dX4_store_96 : decode cX4_store 96 = .ok (.iload 4, 2) := by decide +kernel
theorem dX4_store_98 : decode cX4_store 98 = .ok (.aload_n 0, 1) := by decide +kernel
theorem dX4_store_99 : decode cX4_store 99 = .ok (.getfield 13, 3) := by decide +kernel
theorem dX4_store_102 : decode cX4_store 102 = .ok (.iload_n 3, 1) := by decide +kernel
theorem dX4_store_103 : decode cX4_store 103 = .ok (.laload, 1) := by decide +kernel
theorem dX4_store_104 : decode cX4_store 104 = .ok (.lastore, 1) := by decide +kernel
theorem dX4_store_105 : decode cX4_store 105 = .ok (.return_, 1) := by decide +kernel
theorem dX4_hasWords_0 : decode cX4_hasWords 0 = .ok (.aload_n 0, 1) := by decide +kernel
theorem dX4_hasWords_1 : decode cX4_hasWords 1 = .ok (.getfield 13, 3) := by decide +kernel
theorem dX4_hasWords_4 : decode cX4_hasWords 4 = .ok (.iload_n 1, 1) := by decide +kernel
theorem dX4_hasWords_5 : decode cX4_hasWords 5 = .ok (.laload, 1) := by decide +kernel
theorem dX4_hasWords_6 : decode cX4_hasWords 6 = .ok (.iload_n 2, 1) := by decide +kernel
theorem dX4_hasWords_7 : decode cX4_hasWords 7 = .ok (.i2l, 1) := by decide +kernel
theorem dX4_hasWords_8 : decode cX4_hasWords 8 = .ok (.ladd, 1) := by decide +kernel
theorem dX4_hasWords_9 : decode cX4_hasWords 9 = .ok (.aload_n 0, 1) := by decide +kernel
theorem dX4_hasWords_10 : decode cX4_hasWords 10 = .ok (.getfield 20, 3) := by decide +kernel
theorem dX4_hasWords_13 : decode cX4_hasWords 13 = .ok (.aload_n 0, 1) := by decide +kernel
theorem dX4_hasWords_14 : decode cX4_hasWords 14 = .ok (.getfield 7, 3) := by decide +kernel
theorem dX4_hasWords_17 : decode cX4_hasWords 17 = .ok (.iload_n 1, 1) := by decide +kernel
theorem dX4_hasWords_18 : decode cX4_hasWords 18 = .ok (.iaload, 1) := by decide +kernel
theorem dX4_hasWords_19 : decode cX4_hasWords 19 = .ok (.iaload, 1) := by decide +kernel
theorem dX4_hasWords_20 : decode cX4_hasWords 20 = .ok (.i2l, 1) := by decide +kernel
theorem dX4_hasWords_21 : decode cX4_hasWords 21 = .ok (.lcmp, 1) := by decide +kernel
theorem dX4_hasWords_22 : decode cX4_hasWords 22 = .ok (.ifCond .gt 7, 3) := by decide +kernel
theorem dX4_hasWords_25 : decode cX4_hasWords 25 = .ok (.iconst 1, 1) := by decide +kernel
theorem dX4_hasWords_26 : decode cX4_hasWords 26 = .ok (.goto 4, 3) := by decide +kernel
theorem dX4_hasWords_29 : decode cX4_hasWords 29 = .ok (.iconst 0, 1) := by decide +kernel
theorem dX4_hasWords_30 : decode cX4_hasWords 30 = .ok (.ireturn, 1) := by decide +kernel
theorem dX4_copy_0 : decode cX4_copy 0 = .ok (.aload_n 0, 1) := by decide +kernel
theorem dX4_copy_1 : decode cX4_copy 1 = .ok (.iload_n 1, 1) := by decide +kernel
theorem dX4_copy_2 : decode cX4_copy 2 = .ok (.invokestatic 165, 3) := by decide +kernel
theorem dX4_copy_5 : decode cX4_copy 5 = .ok (.ifCond .eq 25, 3) := by decide +kernel
theorem dX4_copy_8 : decode cX4_copy 8 = .ok (.iload_n 2, 1) := by decide +kernel
theorem dX4_copy_9 : decode cX4_copy 9 = .ok (.invokestatic 165, 3) := by decide +kernel
theorem dX4_copy_12 : decode cX4_copy 12 = .ok (.ifCond .eq 18, 3) := by decide +kernel
theorem dX4_copy_15 : decode cX4_copy 15 = .ok (.iload_n 3, 1) := by decide +kernel
theorem dX4_copy_16 : decode cX4_copy 16 = .ok (.iconst 0, 1) := by decide +kernel
theorem dX4_copy_17 : decode cX4_copy 17 = .ok (.sipush 4096, 3) := by decide +kernel
theorem dX4_copy_20 : decode cX4_copy 20 = .ok (.invokestatic 172, 3) := by decide +kernel
theorem dX4_copy_23 : decode cX4_copy 23 = .ok (.ifCond .ne 7, 3) := by decide +kernel
theorem dX4_copy_26 : decode cX4_copy 26 = .ok (.iconst 0, 1) := by decide +kernel
theorem dX4_copy_27 : decode cX4_copy 27 = .ok (.goto 4, 3) := by decide +kernel
theorem dX4_copy_30 : decode cX4_copy 30 = .ok (.iconst 1, 1) := by decide +kernel
theorem dX4_copy_31 : decode cX4_copy 31 = .ok (.putfield 85, 3) := by decide +kernel
theorem dX4_copy_34 : decode cX4_copy 34 = .ok (.aload_n 0, 1) := by decide +kernel
theorem dX4_copy_35 : decode cX4_copy 35 = .ok (.getfield 85, 3) := by decide +kernel
theorem dX4_copy_38 : decode cX4_copy 38 = .ok (.ifCond .le 4, 3) := by decide +kernel
theorem dX4_copy_41 : decode cX4_copy 41 = .ok (.return_, 1) := by decide +kernel
theorem dX4_copy_42 : decode cX4_copy 42 = .ok (.aload_n 0, 1) := by decide +kernel
theorem dX4_copy_43 : decode cX4_copy 43 = .ok (.aload_n 0, 1) := by decide +kernel
theorem dX4_copy_44 : decode cX4_copy 44 = .ok (.iload_n 1, 1) := by decide +kernel
theorem dX4_copy_45 : decode cX4_copy 45 = .ok (.iconst 2, 1) := by decide +kernel
theorem dX4_copy_46 : decode cX4_copy 46 = .ok (.invokevirtual 89, 3) := by decide +kernel
theorem dX4_copy_49 : decode cX4_copy 49 = .ok (.ifCond .eq 12, 3) := by decide +kernel
theorem dX4_copy_52 : decode cX4_copy 52 = .ok (.aload_n 0, 1) := by decide +kernel
theorem dX4_copy_53 : decode cX4_copy 53 = .ok (.iload_n 2, 1) := by decide +kernel
theorem dX4_copy_54 : decode cX4_copy 54 = .ok (.iconst 2, 1) := by decide +kernel
theorem dX4_copy_55 : decode cX4_copy 55 = .ok (.invokevirtual 89, 3) := by decide +kernel
theorem dX4_copy_58 : decode cX4_copy 58 = .ok (.ifCond .ne 7, 3) := by decide +kernel
theorem dX4_copy_61 : decode cX4_copy 61 = .ok (.iconst 2, 1) := by decide +kernel
theorem dX4_copy_62 : decode cX4_copy 62 = .ok (.goto 26, 3) := by decide +kernel
theorem dX4_copy_65 : decode cX4_copy 65 = .ok (.aload_n 0, 1) := by decide +kernel
theorem dX4_copy_66 : decode cX4_copy 66 = .ok (.iload_n 1, 1) := by decide +kernel
theorem dX4_copy_67 : decode cX4_copy 67 = .ok (.iload_n 3, 1) := by decide +kernel
theorem dX4_copy_68 : decode cX4_copy 68 = .ok (.invokevirtual 213, 3) := by decide +kernel
theorem dX4_copy_71 : decode cX4_copy 71 = .ok (.ifCond .eq 12, 3) := by decide +kernel
theorem dX4_copy_74 : decode cX4_copy 74 = .ok (.aload_n 0, 1) := by decide +kernel
theorem dX4_copy_75 : decode cX4_copy 75 = .ok (.iload_n 2, 1) := by decide +kernel
theorem dX4_copy_76 : decode cX4_copy 76 = .ok (.iload_n 3, 1) := by decide +kernel
theorem dX4_copy_77 : decode cX4_copy 77 = .ok (.invokevirtual 213, 3) := by decide +kernel
theorem dX4_copy_80 : decode cX4_copy 80 = .ok (.ifCond .ne 7, 3) := by decide +kernel
theorem dX4_copy_83 : decode cX4_copy 83 = .ok (.iconst 3, 1) := by decide +kernel
theorem dX4_copy_84 : decode cX4_copy 84 = .ok (.goto 4, 3) := by decide +kernel
theorem dX4_copy_87 : decode cX4_copy 87 = .ok (.iconst 0, 1) := by decide +kernel
theorem dX4_copy_88 : decode cX4_copy 88 = .ok (.putfield 85, 3) := by decide +kernel
theorem dX4_copy_91 : decode cX4_copy 91 = .ok (.aload_n 0, 1) := by decide +kernel
theorem dX4_copy_92 : decode cX4_copy 92 = .ok (.getfield 85, 3) := by decide +kernel
theorem dX4_copy_95 : decode cX4_copy 95 = .ok (.ifCond .le 4, 3) := by decide +kernel
theorem dX4_copy_98 : decode cX4_copy 98 = .ok (.return_, 1) := by decide +kernel
theorem dX4_copy_99 : decode cX4_copy 99 = .ok (.aload_n 0, 1) := by decide +kernel
theorem dX4_copy_100 : decode cX4_copy 100 = .ok (.iload_n 2, 1) := by decide +kernel
theorem dX4_copy_101 : decode cX4_copy 101 = .ok (.iconst 0, 1) := by decide +kernel
theorem dX4_copy_102 : decode cX4_copy 102 = .ok (.invokevirtual 210, 3) := by decide +kernel
theorem dX4_copy_105 : decode cX4_copy 105 = .ok (.istore 4, 2) := by decide +kernel
theorem dX4_copy_107 : decode cX4_copy 107 = .ok (.aload_n 0, 1) := by decide +kernel
theorem dX4_copy_108 : decode cX4_copy 108 = .ok (.iload_n 1, 1) := by decide +kernel
theorem dX4_copy_109 : decode cX4_copy 109 = .ok (.iconst 0, 1) := by decide +kernel
theorem dX4_copy_110 : decode cX4_copy 110 = .ok (.invokevirtual 210, 3) := by decide +kernel
theorem dX4_copy_113 : decode cX4_copy 113 = .ok (.istore 5, 2) := by decide +kernel
theorem dX4_copy_115 : decode cX4_copy 115 = .ok (.iconst 0, 1) := by decide +kernel
theorem dX4_copy_116 : decode cX4_copy 116 = .ok (.istore 6, 2) := by decide +kernel
theorem dX4_copy_118 : decode cX4_copy 118 = .ok (.iload 6, 2) := by decide +kernel
theorem dX4_copy_120 : decode cX4_copy 120 = .ok (.iload_n 3, 1) := by decide +kernel
theorem dX4_copy_121 : decode cX4_copy 121 = .ok (.if_icmp .ge 69, 3) := by decide +kernel
theorem dX4_copy_124 : decode cX4_copy 124 = .ok (.iload 4, 2) := by decide +kernel
theorem dX4_copy_126 : decode cX4_copy 126 = .ok (.iload 5, 2) := by decide +kernel
theorem dX4_copy_128 : decode cX4_copy 128 = .ok (.if_icmp .ge 12, 3) := by decide +kernel
theorem dX4_copy_131 : decode cX4_copy 131 = .ok (.iload_n 3, 1) := by decide +kernel
theorem dX4_copy_132 : decode cX4_copy 132 = .ok (.iconst 1, 1) := by decide +kernel
theorem dX4_copy_133 : decode cX4_copy 133 = .ok (.isub, 1) := by decide +kernel
theorem dX4_copy_134 : decode cX4_copy 134 = .ok (.iload 6, 2) := by decide +kernel
theorem dX4_copy_136 : decode cX4_copy 136 = .ok (.isub, 1) := by decide +kernel
theorem dX4_copy_137 : decode cX4_copy 137 = .ok (.goto 5, 3) := by decide +kernel
theorem dX4_copy_140 : decode cX4_copy 140 = .ok (.iload 6, 2) := by decide +kernel
theorem dX4_copy_142 : decode cX4_copy 142 = .ok (.istore 7, 2) := by decide +kernel
theorem dX4_copy_144 : decode cX4_copy 144 = .ok (.aload_n 0, 1) := by decide +kernel
theorem dX4_copy_145 : decode cX4_copy 145 = .ok (.getfield 54, 3) := by decide +kernel
theorem dX4_copy_148 : decode cX4_copy 148 = .ok (.iload 5, 2) := by decide +kernel
theorem dX4_copy_150 : decode cX4_copy 150 = .ok (.iload 7, 2) := by decide +kernel
theorem dX4_copy_152 : decode cX4_copy 152 = .ok (.iadd, 1) := by decide +kernel
theorem dX4_copy_153 : decode cX4_copy 153 = .ok (.aload_n 0, 1) := by decide +kernel
theorem dX4_copy_154 : decode cX4_copy 154 = .ok (.getfield 54, 3) := by decide +kernel
theorem dX4_copy_157 : decode cX4_copy 157 = .ok (.iload 4, 2) := by decide +kernel
theorem dX4_copy_159 : decode cX4_copy 159 = .ok (.iload 7, 2) := by decide +kernel
theorem dX4_copy_161 : decode cX4_copy 161 = .ok (.iadd, 1) := by decide +kernel
theorem dX4_copy_162 : decode cX4_copy 162 = .ok (.iaload, 1) := by decide +kernel
theorem dX4_copy_163 : decode cX4_copy 163 = .ok (.iastore, 1) := by decide +kernel
theorem dX4_copy_164 : decode cX4_copy 164 = .ok (.aload_n 0, 1) := by decide +kernel
theorem dX4_copy_165 : decode cX4_copy 165 = .ok (.getfield 57, 3) := by decide +kernel
theorem dX4_copy_168 : decode cX4_copy 168 = .ok (.iload 5, 2) := by decide +kernel
theorem dX4_copy_170 : decode cX4_copy 170 = .ok (.iload 7, 2) := by decide +kernel
theorem dX4_copy_172 : decode cX4_copy 172 = .ok (.iadd, 1) := by decide +kernel
theorem dX4_copy_173 : decode cX4_copy 173 = .ok (.aload_n 0, 1) := by decide +kernel
theorem dX4_copy_174 : decode cX4_copy 174 = .ok (.getfield 57, 3) := by decide +kernel
theorem dX4_copy_177 : decode cX4_copy 177 = .ok (.iload 4, 2) := by decide +kernel
theorem dX4_copy_179 : decode cX4_copy 179 = .ok (.iload 7, 2) := by decide +kernel
theorem dX4_copy_181 : decode cX4_copy 181 = .ok (.iadd, 1) := by decide +kernel
theorem dX4_copy_182 : decode cX4_copy 182 = .ok (.laload, 1) := by decide +kernel
theorem dX4_copy_183 : decode cX4_copy 183 = .ok (.lastore, 1) := by decide +kernel
theorem dX4_copy_184 : decode cX4_copy 184 = .ok (.iinc 6 1, 3) := by decide +kernel
theorem dX4_copy_187 : decode cX4_copy 187 = .ok (.goto (-69), 3) := by decide +kernel
theorem dX4_copy_190 : decode cX4_copy 190 = .ok (.return_, 1) := by decide +kernel
theorem dX4_alikeWord_0 : decode cX4_alikeWord 0 = .ok (.aload_n 0, 1) := by decide +kernel
theorem dX4_alikeWord_1 : decode cX4_alikeWord 1 = .ok (.getfield 32, 3) := by decide +kernel
theorem dX4_alikeWord_4 : decode cX4_alikeWord 4 = .ok (.iload_n 1, 1) := by decide +kernel
theorem dX4_alikeWord_5 : decode cX4_alikeWord 5 = .ok (.iaload, 1) := by decide +kernel
theorem dX4_alikeWord_6 : decode cX4_alikeWord 6 = .ok (.iload_n 2, 1) := by decide +kernel
theorem dX4_alikeWord_7 : decode cX4_alikeWord 7 = .ok (.ishr, 1) := by decide +kernel
theorem dX4_alikeWord_8 : decode cX4_alikeWord 8 = .ok (.iconst 1, 1) := by decide +kernel
theorem dX4_alikeWord_9 : decode cX4_alikeWord 9 = .ok (.iand, 1) := by decide +kernel
theorem dX4_alikeWord_10 : decode cX4_alikeWord 10 = .ok (.iconst 1, 1) := by decide +kernel
theorem dX4_alikeWord_11 : decode cX4_alikeWord 11 = .ok (.if_icmp .ne 19, 3) := by decide +kernel
theorem dX4_alikeWord_14 : decode cX4_alikeWord 14 = .ok (.aload_n 0, 1) := by decide +kernel
theorem dX4_alikeWord_15 : decode cX4_alikeWord 15 = .ok (.iload_n 3, 1) := by decide +kernel
theorem dX4_alikeWord_16 : decode cX4_alikeWord 16 = .ok (.iload 6, 2) := by decide +kernel
theorem dX4_alikeWord_18 : decode cX4_alikeWord 18 = .ok (.invokevirtual 203, 3) := by decide +kernel
theorem dX4_alikeWord_21 : decode cX4_alikeWord 21 = .ok (.ifCond .ne 7, 3) := by decide +kernel
theorem dX4_alikeWord_24 : decode cX4_alikeWord 24 = .ok (.iconst 1, 1) := by decide +kernel
theorem dX4_alikeWord_25 : decode cX4_alikeWord 25 = .ok (.goto 4, 3) := by decide +kernel
theorem dX4_alikeWord_28 : decode cX4_alikeWord 28 = .ok (.iconst 0, 1) := by decide +kernel
theorem dX4_alikeWord_29 : decode cX4_alikeWord 29 = .ok (.ireturn, 1) := by decide +kernel
theorem dX4_alikeWord_30 : decode cX4_alikeWord 30 = .ok (.iload_n 3, 1) := by decide +kernel
theorem dX4_alikeWord_31 : decode cX4_alikeWord 31 = .ok (.iload 6, 2) := by decide +kernel
theorem dX4_alikeWord_33 : decode cX4_alikeWord 33 = .ok (.if_icmp .ne 20, 3) := by decide +kernel
theorem dX4_alikeWord_36 : decode cX4_alikeWord 36 = .ok (.iload_n 3, 1) := by decide +kernel
theorem dX4_alikeWord_37 : decode cX4_alikeWord 37 = .ok (.iconst (-1), 1) := by decide +kernel
theorem dX4_alikeWord_38 : decode cX4_alikeWord 38 = .ok (.if_icmp .eq 11, 3) := by decide +kernel
theorem dX4_alikeWord_41 : decode cX4_alikeWord 41 = .ok (.lload 4, 2) := by decide +kernel
theorem dX4_alikeWord_43 : decode cX4_alikeWord 43 = .ok (.lload 7, 2) := by decide +kernel
theorem dX4_alikeWord_45 : decode cX4_alikeWord 45 = .ok (.lcmp, 1) := by decide +kernel
theorem dX4_alikeWord_46 : decode cX4_alikeWord 46 = .ok (.ifCond .ne 7, 3) := by decide +kernel
theorem dX4_alikeWord_49 : decode cX4_alikeWord 49 = .ok (.iconst 1, 1) := by decide +kernel
theorem dX4_alikeWord_50 : decode cX4_alikeWord 50 = .ok (.goto 4, 3) := by decide +kernel
theorem dX4_alikeWord_53 : decode cX4_alikeWord 53 = .ok (.iconst 0, 1) := by decide +kernel
theorem dX4_alikeWord_54 : decode cX4_alikeWord 54 = .ok (.ireturn, 1) := by decide +kernel
theorem dX4_find_0 : decode cX4_find 0 = .ok (.aload_n 0, 1) := by decide +kernel
theorem dX4_find_1 : decode cX4_find 1 = .ok (.getfield 7, 3) := by decide +kernel
theorem dX4_find_4 : decode cX4_find 4 = .ok (.iload_n 1, 1) := by decide +kernel
theorem dX4_find_5 : decode cX4_find 5 = .ok (.iaload, 1) := by decide +kernel
theorem dX4_find_6 : decode cX4_find 6 = .ok (.istore_n 3, 1) := by decide +kernel
theorem dX4_find_7 : decode cX4_find 7 = .ok (.iconst 0, 1) := by decide +kernel
theorem dX4_find_8 : decode cX4_find 8 = .ok (.istore 4, 2) := by decide +kernel
theorem dX4_find_10 : decode cX4_find 10 = .ok (.iload 4, 2) := by decide +kernel
theorem dX4_find_12 : decode cX4_find 12 = .ok (.aload_n 0, 1) := by decide +kernel
theorem dX4_find_13 : decode cX4_find 13 = .ok (.getfield 106, 3) := by decide +kernel
theorem dX4_find_16 : decode cX4_find 16 = .ok (.if_icmp .ge 119, 3) := by decide +kernel
theorem dX4_find_19 : decode cX4_find 19 = .ok (.aload_n 0, 1) := by decide +kernel
theorem dX4_find_20 : decode cX4_find 20 = .ok (.getfield 64, 3) := by decide +kernel
theorem dX4_find_23 : decode cX4_find 23 = .ok (.iload 4, 2) := by decide +kernel
theorem dX4_find_25 : decode cX4_find 25 = .ok (.iaload, 1) := by decide +kernel
theorem dX4_find_26 : decode cX4_find 26 = .ok (.iload_n 3, 1) := by decide +kernel
theorem dX4_find_27 : decode cX4_find 27 = .ok (.if_icmp .ne 7, 3) := by decide +kernel
theorem dX4_find_30 : decode cX4_find 30 = .ok (.iconst 1, 1) := by decide +kernel
theorem dX4_find_31 : decode cX4_find 31 = .ok (.goto 4, 3) := by decide +kernel
theorem dX4_find_34 : decode cX4_find 34 = .ok (.iconst 0, 1) := by decide +kernel
theorem dX4_find_35 : decode cX4_find 35 = .ok (.istore 5, 2) := by decide +kernel
theorem dX4_find_37 : decode cX4_find 37 = .ok (.iconst 0, 1) := by decide +kernel
theorem dX4_find_38 : decode cX4_find 38 = .ok (.istore 6, 2) := by decide +kernel
theorem dX4_find_40 : decode cX4_find 40 = .ok (.iload 6, 2) := by decide +kernel
theorem dX4_find_42 : decode cX4_find 42 = .ok (.aload_n 0, 1) := by decide +kernel
theorem dX4_find_43 : decode cX4_find 43 = .ok (.getfield 26, 3) := by decide +kernel
theorem dX4_find_46 : decode cX4_find 46 = .ok (.iload_n 3, 1) := by decide +kernel
theorem dX4_find_47 : decode cX4_find 47 = .ok (.iaload, 1) := by decide +kernel
theorem dX4_find_48 : decode cX4_find 48 = .ok (.if_icmp .ge 73, 3) := by decide +kernel
theorem dX4_find_51 : decode cX4_find 51 = .ok (.iload 5, 2) := by decide +kernel
theorem dX4_find_53 : decode cX4_find 53 = .ok (.ifCond .eq 68, 3) := by decide +kernel
theorem dX4_find_56 : decode cX4_find 56 = .ok (.aload_n 0, 1) := by decide +kernel
theorem dX4_find_57 : decode cX4_find 57 = .ok (.iload_n 3, 1) := by decide +kernel
theorem dX4_find_58 : decode cX4_find 58 = .ok (.iload 6, 2) := by decide +kernel
theorem dX4_find_60 : decode cX4_find 60 = .ok (.aload_n 0, 1) := by decide +kernel
theorem dX4_find_61 : decode cX4_find 61 = .ok (.getfield 70, 3) := by decide +kernel
theorem dX4_find_64 : decode cX4_find 64 = .ok (.bipush 8, 2) := by decide +kernel
theorem dX4_find_66 : decode cX4_find 66 = .ok (.iload 4, 2) := by decide +kernel
theorem dX4_find_68 : decode cX4_find 68 = .ok (.imul, 1) := by decide +kernel
theorem dX4_find_69 : decode cX4_find 69 = .ok (.iload 6, 2) := by decide +kernel
theorem dX4_find_71 : decode cX4_find 71 = .ok (.iadd, 1) := by decide +kernel
theorem dX4_find_72 : decode cX4_find 72 = .ok (.iaload, 1) := by decide +kernel
theorem dX4_find_73 : decode cX4_find 73 = .ok (.aload_n 0, 1) := by decide +kernel
theorem dX4_find_74 : decode cX4_find 74 = .ok (.getfield 73, 3) := by decide +kernel
theorem dX4_find_77 : decode cX4_find 77 = .ok (.bipush 8, 2) := by decide +kernel
theorem dX4_find_79 : decode cX4_find 79 = .ok (.iload 4, 2) := by decide +kernel
theorem dX4_find_81 : decode cX4_find 81 = .ok (.imul, 1) := by decide +kernel
theorem dX4_find_82 : decode cX4_find 82 = .ok (.iload 6, 2) := by decide +kernel
theorem dX4_find_84 : decode cX4_find 84 = .ok (.iadd, 1) := by decide +kernel
theorem dX4_find_85 : decode cX4_find 85 = .ok (.laload, 1) := by decide +kernel
theorem dX4_find_86 : decode cX4_find 86 = .ok (.aload_n 0, 1) := by decide +kernel
theorem dX4_find_87 : decode cX4_find 87 = .ok (.getfield 54, 3) := by decide +kernel
theorem dX4_find_90 : decode cX4_find 90 = .ok (.aload_n 0, 1) := by decide +kernel
theorem dX4_find_91 : decode cX4_find 91 = .ok (.iload_n 2, 1) := by decide +kernel
theorem dX4_find_92 : decode cX4_find 92 = .ok (.iload 6, 2) := by decide +kernel
theorem dX4_find_94 : decode cX4_find 94 = .ok (.invokevirtual 210, 3) := by decide +kernel
theorem dX4_find_97 : decode cX4_find 97 = .ok (.iaload, 1) := by decide +kernel
theorem dX4_find_98 : decode cX4_find 98 = .ok (.aload_n 0, 1) := by decide +kernel
theorem dX4_find_99 : decode cX4_find 99 = .ok (.getfield 57, 3) := by decide +kernel
theorem dX4_find_102 : decode cX4_find 102 = .ok (.aload_n 0, 1) := by decide +kernel
theorem dX4_find_103 : decode cX4_find 103 = .ok (.iload_n 2, 1) := by decide +kernel
theorem dX4_find_104 : decode cX4_find 104 = .ok (.iload 6, 2) := by decide +kernel
theorem dX4_find_106 : decode cX4_find 106 = .ok (.invokevirtual 210, 3) := by decide +kernel
theorem dX4_find_109 : decode cX4_find 109 = .ok (.laload, 1) := by decide +kernel
theorem dX4_find_110 : decode cX4_find 110 = .ok (.invokevirtual 216, 3) := by decide +kernel
theorem dX4_find_113 : decode cX4_find 113 = .ok (.istore 5, 2) := by decide +kernel
theorem dX4_find_115 : decode cX4_find 115 = .ok (.iinc 6 1, 3) := by decide +kernel
theorem dX4_find_118 : decode cX4_find 118 = .ok (.goto (-78), 3) := by decide +kernel
theorem dX4_find_121 : decode cX4_find 121 = .ok (.iload 5, 2) := by decide +kernel
theorem dX4_find_123 : decode cX4_find 123 = .ok (.ifCond .eq 6, 3) := by decide +kernel
theorem dX4_find_126 : decode cX4_find 126 = .ok (.iload 4, 2) := by decide +kernel
theorem dX4_find_128 : decode cX4_find 128 = .ok (.ireturn, 1) := by decide +kernel
theorem dX4_find_129 : decode cX4_find 129 = .ok (.iinc 4 1, 3) := by decide +kernel
theorem dX4_find_132 : decode cX4_find 132 = .ok (.goto (-122), 3) := by decide +kernel
theorem dX4_find_135 : decode cX4_find 135 = .ok (.iconst (-1), 1) := by decide +kernel
theorem dX4_find_136 : decode cX4_find 136 = .ok (.ireturn, 1) := by decide +kernel
theorem dX4_isTextual_0 : decode cX4_isTextual 0 = .ok (.iconst 1, 1) := by decide +kernel
theorem dX4_isTextual_1 : decode cX4_isTextual 1 = .ok (.istore_n 3, 1) := by decide +kernel
theorem dX4_isTextual_2 : decode cX4_isTextual 2 = .ok (.iconst 0, 1) := by decide +kernel
theorem dX4_isTextual_3 : decode cX4_isTextual 3 = .ok (.istore 4, 2) := by decide +kernel
theorem dX4_isTextual_5 : decode cX4_isTextual 5 = .ok (.iload 4, 2) := by decide +kernel
theorem dX4_isTextual_7 : decode cX4_isTextual 7 = .ok (.aload_n 0, 1) := by decide +kernel
theorem dX4_isTextual_8 : decode cX4_isTextual 8 = .ok (.getfield 26, 3) := by decide +kernel
theorem dX4_isTextual_11 : decode cX4_isTextual 11 = .ok (.aload_n 0, 1) := by decide +kernel
theorem dX4_isTextual_12 : decode cX4_isTextual 12 = .ok (.getfield 7, 3) := by decide +kernel
theorem dX4_isTextual_15 : decode cX4_isTextual 15 = .ok (.iload_n 1, 1) := by decide +kernel
theorem dX4_isTextual_16 : decode cX4_isTextual 16 = .ok (.iaload, 1) := by decide +kernel
theorem dX4_isTextual_17 : decode cX4_isTextual 17 = .ok (.iaload, 1) := by decide +kernel
theorem dX4_isTextual_18 : decode cX4_isTextual 18 = .ok (.if_icmp .ge 74, 3) := by decide +kernel
theorem dX4_isTextual_21 : decode cX4_isTextual 21 = .ok (.aload_n 0, 1) := by decide +kernel
theorem dX4_isTextual_22 : decode cX4_isTextual 22 = .ok (.getfield 54, 3) := by decide +kernel
theorem dX4_isTextual_25 : decode cX4_isTextual 25 = .ok (.aload_n 0, 1) := by decide +kernel
theorem dX4_isTextual_26 : decode cX4_isTextual 26 = .ok (.iload_n 2, 1) := by decide +kernel
theorem dX4_isTextual_27 : decode cX4_isTextual 27 = .ok (.iload 4, 2) := by decide +kernel
theorem dX4_isTextual_29 : decode cX4_isTextual 29 = .ok (.invokevirtual 210, 3) := by decide +kernel
theorem dX4_isTextual_32 : decode cX4_isTextual 32 = .ok (.iaload, 1) := by decide +kernel
theorem dX4_isTextual_33 : decode cX4_isTextual 33 = .ok (.istore 5, 2) := by decide +kernel
theorem dX4_isTextual_35 : decode cX4_isTextual 35 = .ok (.iload_n 3, 1) := by decide +kernel
theorem dX4_isTextual_36 : decode cX4_isTextual 36 = .ok (.ifCond .eq 48, 3) := by decide +kernel
theorem dX4_isTextual_39 : decode cX4_isTextual 39 = .ok (.aload_n 0, 1) := by decide +kernel
theorem dX4_isTextual_40 : decode cX4_isTextual 40 = .ok (.getfield 32, 3) := by decide +kernel
theorem dX4_isTextual_43 : decode cX4_isTextual 43 = .ok (.aload_n 0, 1) := by decide +kernel
theorem dX4_isTextual_44 : decode cX4_isTextual 44 = .ok (.getfield 7, 3) := by decide +kernel
theorem dX4_isTextual_47 : decode cX4_isTextual 47 = .ok (.iload_n 1, 1) := by decide +kernel
theorem dX4_isTextual_48 : decode cX4_isTextual 48 = .ok (.iaload, 1) := by decide +kernel
theorem dX4_isTextual_49 : decode cX4_isTextual 49 = .ok (.iaload, 1) := by decide +kernel
theorem dX4_isTextual_50 : decode cX4_isTextual 50 = .ok (.iload 4, 2) := by decide +kernel
theorem dX4_isTextual_52 : decode cX4_isTextual 52 = .ok (.ishr, 1) := by decide +kernel
theorem dX4_isTextual_53 : decode cX4_isTextual 53 = .ok (.iconst 1, 1) := by decide +kernel
theorem dX4_isTextual_54 : decode cX4_isTextual 54 = .ok (.iand, 1) := by decide +kernel
theorem dX4_isTextual_55 : decode cX4_isTextual 55 = .ok (.ifCond .eq 25, 3) := by decide +kernel
theorem dX4_isTextual_58 : decode cX4_isTextual 58 = .ok (.iload 5, 2) := by decide +kernel
theorem dX4_isTextual_60 : decode cX4_isTextual 60 = .ok (.iconst (-1), 1) := by decide +kernel
theorem dX4_isTextual_61 : decode cX4_isTextual 61 = .ok (.if_icmp .eq 19, 3) := by decide +kernel
theorem dX4_isTextual_64 : decode cX4_isTextual 64 = .ok (.iload 5, 2) := by decide +kernel
theorem dX4_isTextual_66 : decode cX4_isTextual 66 = .ok (.ifCond .le 18, 3) := by decide +kernel
theorem dX4_isTextual_69 : decode cX4_isTextual 69 = .ok (.aload_n 0, 1) := by decide +kernel
theorem dX4_isTextual_70 : decode cX4_isTextual 70 = .ok (.getfield 17, 3) := by decide +kernel
theorem dX4_isTextual_73 : decode cX4_isTextual 73 = .ok (.iload 5, 2) := by decide +kernel
theorem dX4_isTextual_75 : decode cX4_isTextual 75 = .ok (.iaload, 1) := by decide +kernel
theorem dX4_isTextual_76 : decode cX4_isTextual 76 = .ok (.iconst 3, 1) := by decide +kernel
theorem dX4_isTextual_77 : decode cX4_isTextual 77 = .ok (.if_icmp .ne 7, 3) := by decide +kernel
theorem dX4_isTextual_80 : decode cX4_isTextual 80 = .ok (.iconst 1, 1) := by decide +kernel
theorem dX4_isTextual_81 : decode cX4_isTextual 81 = .ok (.goto 4, 3) := by decide +kernel
theorem dX4_isTextual_84 : decode cX4_isTextual 84 = .ok (.iconst 0, 1) := by decide +kernel
theorem dX4_isTextual_85 : decode cX4_isTextual 85 = .ok (.istore_n 3, 1) := by decide +kernel
theorem dX4_isTextual_86 : decode cX4_isTextual 86 = .ok (.iinc 4 1, 3) := by decide +kernel
theorem dX4_isTextual_89 : decode cX4_isTextual 89 = .ok (.goto (-84), 3) := by decide +kernel
theorem dX4_isTextual_92 : decode cX4_isTextual 92 = .ok (.iload_n 3, 1) := by decide +kernel
theorem dX4_isTextual_93 : decode cX4_isTextual 93 = .ok (.ireturn, 1) := by decide +kernel
theorem dX4_wrong_0 : decode cX4_wrong 0 = .ok (.iload_n 1, 1) := by decide +kernel
theorem dX4_wrong_1 : decode cX4_wrong 1 = .ok (.invokestatic 165, 3) := by decide +kernel
theorem dX4_wrong_4 : decode cX4_wrong 4 = .ok (.ifCond .eq 10, 3) := by decide +kernel
theorem dX4_wrong_7 : decode cX4_wrong 7 = .ok (.iload_n 2, 1) := by decide +kernel
theorem dX4_wrong_8 : decode cX4_wrong 8 = .ok (.invokestatic 165, 3) := by decide +kernel
theorem dX4_wrong_11 : decode cX4_wrong 11 = .ok (.ifCond .ne 5, 3) := by decide +kernel
theorem dX4_wrong_14 : decode cX4_wrong 14 = .ok (.iconst 1, 1) := by decide +kernel
theorem dX4_wrong_15 : decode cX4_wrong 15 = .ok (.ireturn, 1) := by decide +kernel
theorem dX4_wrong_16 : decode cX4_wrong 16 = .ok (.aload_n 0, 1) := by decide +kernel
theorem dX4_wrong_17 : decode cX4_wrong 17 = .ok (.iload_n 1, 1) := by decide +kernel
theorem dX4_wrong_18 : decode cX4_wrong 18 = .ok (.iconst 4, 1) := by decide +kernel
theorem dX4_wrong_19 : decode cX4_wrong 19 = .ok (.invokevirtual 89, 3) := by decide +kernel
theorem dX4_wrong_22 : decode cX4_wrong 22 = .ok (.ifCond .eq 12, 3) := by decide +kernel
theorem dX4_wrong_25 : decode cX4_wrong 25 = .ok (.aload_n 0, 1) := by decide +kernel
theorem dX4_wrong_26 : decode cX4_wrong 26 = .ok (.iload_n 2, 1) := by decide +kernel
theorem dX4_wrong_27 : decode cX4_wrong 27 = .ok (.iconst 2, 1) := by decide +kernel
theorem dX4_wrong_28 : decode cX4_wrong 28 = .ok (.invokevirtual 89, 3) := by decide +kernel
theorem dX4_wrong_31 : decode cX4_wrong 31 = .ok (.ifCond .ne 5, 3) := by decide +kernel
theorem dX4_wrong_34 : decode cX4_wrong 34 = .ok (.iconst 2, 1) := by decide +kernel
theorem dX4_wrong_35 : decode cX4_wrong 35 = .ok (.ireturn, 1) := by decide +kernel
theorem dX4_wrong_36 : decode cX4_wrong 36 = .ok (.aload_n 0, 1) := by decide +kernel
theorem dX4_wrong_37 : decode cX4_wrong 37 = .ok (.iload_n 2, 1) := by decide +kernel
theorem dX4_wrong_38 : decode cX4_wrong 38 = .ok (.aload_n 0, 1) := by decide +kernel
theorem dX4_wrong_39 : decode cX4_wrong 39 = .ok (.getfield 26, 3) := by decide +kernel
theorem dX4_wrong_42 : decode cX4_wrong 42 = .ok (.aload_n 0, 1) := by decide +kernel
theorem dX4_wrong_43 : decode cX4_wrong 43 = .ok (.getfield 7, 3) := by decide +kernel
theorem dX4_wrong_46 : decode cX4_wrong 46 = .ok (.iload_n 1, 1) := by decide +kernel
theorem dX4_wrong_47 : decode cX4_wrong 47 = .ok (.iaload, 1) := by decide +kernel
theorem dX4_wrong_48 : decode cX4_wrong 48 = .ok (.iaload, 1) := by decide +kernel
theorem dX4_wrong_49 : decode cX4_wrong 49 = .ok (.aload_n 0, 1) := by decide +kernel
theorem dX4_wrong_50 : decode cX4_wrong 50 = .ok (.getfield 29, 3) := by decide +kernel
theorem dX4_wrong_53 : decode cX4_wrong 53 = .ok (.aload_n 0, 1) := by decide +kernel
theorem dX4_wrong_54 : decode cX4_wrong 54 = .ok (.getfield 7, 3) := by decide +kernel
theorem dX4_wrong_57 : decode cX4_wrong 57 = .ok (.iload_n 1, 1) := by decide +kernel
theorem dX4_wrong_58 : decode cX4_wrong 58 = .ok (.iaload, 1) := by decide +kernel
theorem dX4_wrong_59 : decode cX4_wrong 59 = .ok (.iaload, 1) := by decide +kernel
theorem dX4_wrong_60 : decode cX4_wrong 60 = .ok (.iadd, 1) := by decide +kernel
theorem dX4_wrong_61 : decode cX4_wrong 61 = .ok (.invokevirtual 213, 3) := by decide +kernel
theorem dX4_wrong_64 : decode cX4_wrong 64 = .ok (.ifCond .ne 5, 3) := by decide +kernel
theorem dX4_wrong_67 : decode cX4_wrong 67 = .ok (.iconst 3, 1) := by decide +kernel
theorem dX4_wrong_68 : decode cX4_wrong 68 = .ok (.ireturn, 1) := by decide +kernel
theorem dX4_wrong_69 : decode cX4_wrong 69 = .ok (.iload_n 3, 1) := by decide +kernel
theorem dX4_wrong_70 : decode cX4_wrong 70 = .ok (.ifCond .eq 16, 3) := by decide +kernel
theorem dX4_wrong_73 : decode cX4_wrong 73 = .ok (.aload_n 0, 1) := by decide +kernel
theorem dX4_wrong_74 : decode cX4_wrong 74 = .ok (.iload_n 1, 1) := by decide +kernel
theorem dX4_wrong_75 : decode cX4_wrong 75 = .ok (.iload_n 2, 1) := by decide +kernel
theorem dX4_wrong_76 : decode cX4_wrong 76 = .ok (.invokevirtual 220, 3) := by decide +kernel
theorem dX4_wrong_79 : decode cX4_wrong 79 = .ok (.ifCond .ne 7, 3) := by decide +kernel
theorem dX4_wrong_82 : decode cX4_wrong 82 = .ok (.iconst 2, 1) := by decide +kernel
theorem dX4_wrong_83 : decode cX4_wrong 83 = .ok (.goto 4, 3) := by decide +kernel
theorem dX4_wrong_86 : decode cX4_wrong 86 = .ok (.iconst 0, 1) := by decide +kernel
theorem dX4_wrong_87 : decode cX4_wrong 87 = .ok (.ireturn, 1) := by decide +kernel
theorem dX4_entriesOf_0 : decode cX4_entriesOf 0 = .ok (.iconst 0, 1) := by decide +kernel
theorem dX4_entriesOf_1 : decode cX4_entriesOf 1 = .ok (.istore_n 2, 1) := by decide +kernel
theorem dX4_entriesOf_2 : decode cX4_entriesOf 2 = .ok (.iconst 0, 1) := by decide +kernel
theorem dX4_entriesOf_3 : decode cX4_entriesOf 3 = .ok (.istore_n 3, 1) := by decide +kernel
theorem dX4_entriesOf_4 : decode cX4_entriesOf 4 = .ok (.iload_n 3, 1) := by decide +kernel
theorem dX4_entriesOf_5 : decode cX4_entriesOf 5 = .ok (.aload_n 0, 1) := by decide +kernel
theorem dX4_entriesOf_6 : decode cX4_entriesOf 6 = .ok (.getfield 106, 3) := by decide +kernel
theorem dX4_entriesOf_9 : decode cX4_entriesOf 9 = .ok (.if_icmp .ge 27, 3) := by decide +kernel
theorem dX4_entriesOf_12 : decode cX4_entriesOf 12 = .ok (.iload_n 2, 1) := by decide +kernel
theorem dX4_entriesOf_13 : decode cX4_entriesOf 13 = .ok (.aload_n 0, 1) := by decide +kernel
theorem dX4_entriesOf_14 : decode cX4_entriesOf 14 = .ok (.getfield 64, 3) := by decide +kernel
theorem dX4_entriesOf_17 : decode cX4_entriesOf 17 = .ok (.iload_n 3, 1) := by decide +kernel
theorem dX4_entriesOf_18 : decode cX4_entriesOf 18 = .ok (.iaload, 1) := by decide +kernel
theorem dX4_entriesOf_19 : decode cX4_entriesOf 19 = .ok (.iload_n 1, 1) := by decide +kernel
theorem dX4_entriesOf_20 : decode cX4_entriesOf 20 = .ok (.if_icmp .ne 7, 3) := by decide +kernel
theorem dX4_entriesOf_23 : decode cX4_entriesOf 23 = .ok (.iconst 1, 1) := by decide +kernel
theorem dX4_entriesOf_24 : decode cX4_entriesOf 24 = .ok (.goto 4, 3) := by decide +kernel
theorem dX4_entriesOf_27 : decode cX4_entriesOf 27 = .ok (.iconst 0, 1) := by decide +kernel
theorem dX4_entriesOf_28 : decode cX4_entriesOf 28 = .ok (.iadd, 1) := by decide +kernel
theorem dX4_entriesOf_29 : decode cX4_entriesOf 29 = .ok (.istore_n 2, 1) := by decide +kernel
theorem dX4_entriesOf_30 : decode cX4_entriesOf 30 = .ok (.iinc 3 1, 3) := by decide +kernel
theorem dX4_entriesOf_33 : decode cX4_entriesOf 33 = .ok (.goto (-29), 3) := by decide +kernel
theorem dX4_entriesOf_36 : decode cX4_entriesOf 36 = .ok (.iload_n 2, 1) := by decide +kernel
theorem dX4_entriesOf_37 : decode cX4_entriesOf 37 = .ok (.ireturn, 1) := by decide +kernel
theorem dX4_renews_0 : decode cX4_renews 0 = .ok (.aload_n 0, 1) := by decide +kernel
theorem dX4_renews_1 : decode cX4_renews 1 = .ok (.getfield 38, 3) := by decide +kernel
theorem dX4_renews_4 : decode cX4_renews 4 = .ok (.iload_n 1, 1) := by decide +kernel
theorem dX4_renews_5 : decode cX4_renews 5 = .ok (.iaload, 1) := by decide +kernel
theorem dX4_renews_6 : decode cX4_renews 6 = .ok (.aload_n 0, 1) := by decide +kernel
theorem dX4_renews_7 : decode cX4_renews 7 = .ok (.getfield 35, 3) := by decide +kernel
theorem dX4_renews_10 : decode cX4_renews 10 = .ok (.iload_n 1, 1) := by decide +kernel
theorem dX4_renews_11 : decode cX4_renews 11 = .ok (.iaload, 1) := by decide +kernel
theorem dX4_renews_12 : decode cX4_renews 12 = .ok (.if_icmp .ge 5, 3) := by decide +kernel
theorem dX4_renews_15 : decode cX4_renews 15 = .ok (.iconst 1, 1) := by decide +kernel
theorem dX4_renews_16 : decode cX4_renews 16 = .ok (.ireturn, 1) := by decide +kernel
theorem dX4_renews_17 : decode cX4_renews 17 = .ok (.aload_n 0, 1) := by decide +kernel
theorem dX4_renews_18 : decode cX4_renews 18 = .ok (.iload_n 1, 1) := by decide +kernel
theorem dX4_renews_19 : decode cX4_renews 19 = .ok (.invokevirtual 223, 3) := by decide +kernel
theorem dX4_renews_22 : decode cX4_renews 22 = .ok (.istore_n 2, 1) := by decide +kernel
theorem dX4_renews_23 : decode cX4_renews 23 = .ok (.iconst 4, 1) := by decide +kernel
theorem dX4_renews_24 : decode cX4_renews 24 = .ok (.iload_n 2, 1) := by decide +kernel
theorem dX4_renews_25 : decode cX4_renews 25 = .ok (.imul, 1) := by decide +kernel
theorem dX4_renews_26 : decode cX4_renews 26 = .ok (.iconst 3, 1) := by decide +kernel
theorem dX4_renews_27 : decode cX4_renews 27 = .ok (.aload_n 0, 1) := by decide +kernel
theorem dX4_renews_28 : decode cX4_renews 28 = .ok (.getfield 35, 3) := by decide +kernel
theorem dX4_renews_31 : decode cX4_renews 31 = .ok (.iload_n 1, 1) := by decide +kernel
theorem dX4_renews_32 : decode cX4_renews 32 = .ok (.iaload, 1) := by decide +kernel
theorem dX4_renews_33 : decode cX4_renews 33 = .ok (.imul, 1) := by decide +kernel
theorem dX4_renews_34 : decode cX4_renews 34 = .ok (.if_icmp .lt 14, 3) := by decide +kernel
theorem dX4_renews_37 : decode cX4_renews 37 = .ok (.iconst 2, 1) := by decide +kernel
theorem dX4_renews_38 : decode cX4_renews 38 = .ok (.aload_n 0, 1) := by decide +kernel
theorem dX4_renews_39 : decode cX4_renews 39 = .ok (.getfield 35, 3) := by decide +kernel
theorem dX4_renews_42 : decode cX4_renews 42 = .ok (.iload_n 1, 1) := by decide +kernel
theorem dX4_renews_43 : decode cX4_renews 43 = .ok (.iaload, 1) := by decide +kernel
theorem dX4_renews_44 : decode cX4_renews 44 = .ok (.imul, 1) := by decide +kernel
theorem dX4_renews_45 : decode cX4_renews 45 = .ok (.goto 9, 3) := by decide +kernel
theorem dX4_renews_48 : decode cX4_renews 48 = .ok (.aload_n 0, 1) := by decide +kernel
theorem dX4_renews_49 : decode cX4_renews 49 = .ok (.getfield 35, 3) := by decide +kernel
theorem dX4_renews_52 : decode cX4_renews 52 = .ok (.iload_n 1, 1) := by decide +kernel
theorem dX4_renews_53 : decode cX4_renews 53 = .ok (.iaload, 1) := by decide +kernel
theorem dX4_renews_54 : decode cX4_renews 54 = .ok (.istore_n 3, 1) := by decide +kernel
theorem dX4_renews_55 : decode cX4_renews 55 = .ok (.aload_n 0, 1) := by decide +kernel
theorem dX4_renews_56 : decode cX4_renews 56 = .ok (.aload_n 0, 1) := by decide +kernel
theorem dX4_renews_57 : decode cX4_renews 57 = .ok (.iload_n 1, 1) := by decide +kernel
theorem dX4_renews_58 : decode cX4_renews 58 = .ok (.iload_n 3, 1) := by decide +kernel
theorem dX4_renews_59 : decode cX4_renews 59 = .ok (.i2l, 1) := by decide +kernel
theorem dX4_renews_60 : decode cX4_renews 60 = .ok (.invokevirtual 95, 3) := by decide +kernel
theorem dX4_renews_63 : decode cX4_renews 63 = .ok (.invokevirtual 176, 3) := by decide +kernel
theorem dX4_renews_66 : decode cX4_renews 66 = .ok (.ifCond .ne 5, 3) := by decide +kernel
theorem dX4_renews_69 : decode cX4_renews 69 = .ok (.iconst 0, 1) := by decide +kernel
theorem dX4_renews_70 : decode cX4_renews 70 = .ok (.ireturn, 1) := by decide +kernel
theorem dX4_renews_71 : decode cX4_renews 71 = .ok (.aload_n 0, 1) := by decide +kernel
theorem dX4_renews_72 : decode cX4_renews 72 = .ok (.dup, 1) := by decide +kernel
theorem dX4_renews_73 : decode cX4_renews 73 = .ok (.getfield 122, 3) := by decide +kernel
theorem dX4_renews_76 : decode cX4_renews 76 = .ok (.aload_n 0, 1) := by decide +kernel
theorem dX4_renews_77 : decode cX4_renews 77 = .ok (.iload_n 1, 1) := by decide +kernel
theorem dX4_renews_78 : decode cX4_renews 78 = .ok (.aload_n 0, 1) := by decide +kernel
theorem dX4_renews_79 : decode cX4_renews 79 = .ok (.getfield 35, 3) := by decide +kernel
theorem dX4_renews_82 : decode cX4_renews 82 = .ok (.iload_n 1, 1) := by decide +kernel
theorem dX4_renews_83 : decode cX4_renews 83 = .ok (.iaload, 1) := by decide +kernel
theorem dX4_renews_84 : decode cX4_renews 84 = .ok (.i2l, 1) := by decide +kernel
theorem dX4_renews_85 : decode cX4_renews 85 = .ok (.invokevirtual 95, 3) := by decide +kernel
theorem dX4_renews_88 : decode cX4_renews 88 = .ok (.ladd, 1) := by decide +kernel
theorem dX4_renews_89 : decode cX4_renews 89 = .ok (.putfield 122, 3) := by decide +kernel
theorem dX4_renews_92 : decode cX4_renews 92 = .ok (.aload_n 0, 1) := by decide +kernel
theorem dX4_renews_93 : decode cX4_renews 93 = .ok (.getfield 35, 3) := by decide +kernel
theorem dX4_renews_96 : decode cX4_renews 96 = .ok (.iload_n 1, 1) := by decide +kernel
theorem dX4_renews_97 : decode cX4_renews 97 = .ok (.iload_n 3, 1) := by decide +kernel
theorem dX4_renews_98 : decode cX4_renews 98 = .ok (.iastore, 1) := by decide +kernel
theorem dX4_renews_99 : decode cX4_renews 99 = .ok (.aload_n 0, 1) := by decide +kernel
theorem dX4_renews_100 : decode cX4_renews 100 = .ok (.getfield 38, 3) := by decide +kernel
theorem dX4_renews_103 : decode cX4_renews 103 = .ok (.iload_n 1, 1) := by decide +kernel
theorem dX4_renews_104 : decode cX4_renews 104 = .ok (.iload_n 2, 1) := by decide +kernel
theorem dX4_renews_105 : decode cX4_renews 105 = .ok (.iastore, 1) := by decide +kernel
theorem dX4_renews_106 : decode cX4_renews 106 = .ok (.iconst 1, 1) := by decide +kernel
theorem dX4_renews_107 : decode cX4_renews 107 = .ok (.ireturn, 1) := by decide +kernel
theorem dX4_setEntry_0 : decode cX4_setEntry 0 = .ok (.iload_n 3, 1) := by decide +kernel
theorem dX4_setEntry_1 : decode cX4_setEntry 1 = .ok (.istore 5, 2) := by decide +kernel
theorem dX4_setEntry_3 : decode cX4_setEntry 3 = .ok (.iload 5, 2) := by decide +kernel
theorem dX4_setEntry_5 : decode cX4_setEntry 5 = .ok (.iload 4, 2) := by decide +kernel
theorem dX4_setEntry_7 : decode cX4_setEntry 7 = .ok (.if_icmp .ge 57, 3) := by decide +kernel
theorem dX4_setEntry_10 : decode cX4_setEntry 10 = .ok (.aload_n 0, 1) := by decide +kernel
theorem dX4_setEntry_11 : decode cX4_setEntry 11 = .ok (.getfield 70, 3) := by decide +kernel
theorem dX4_setEntry_14 : decode cX4_setEntry 14 = .ok (.bipush 8, 2) := by decide +kernel
theorem dX4_setEntry_16 : decode cX4_setEntry 16 = .ok (.iload_n 1, 1) := by decide +kernel
theorem dX4_setEntry_17 : decode cX4_setEntry 17 = .ok (.imul, 1) := by decide +kernel
theorem dX4_setEntry_18 : decode cX4_setEntry 18 = .ok (.iload 5, 2) := by decide +kernel
theorem dX4_setEntry_20 : decode cX4_setEntry 20 = .ok (.iadd, 1) := by decide +kernel
theorem dX4_setEntry_21 : decode cX4_setEntry 21 = .ok (.aload_n 0, 1) := by decide +kernel
theorem dX4_setEntry_22 : decode cX4_setEntry 22 = .ok (.getfield 54, 3) := by decide +kernel
theorem dX4_setEntry_25 : decode cX4_setEntry 25 = .ok (.aload_n 0, 1) := by decide +kernel
theorem dX4_setEntry_26 : decode cX4_setEntry 26 = .ok (.iload_n 2, 1) := by decide +kernel
theorem dX4_setEntry_27 : decode cX4_setEntry 27 = .ok (.iload 5, 2) := by decide +kernel
theorem dX4_setEntry_29 : decode cX4_setEntry 29 = .ok (.invokevirtual 210, 3) := by decide +kernel
theorem dX4_setEntry_32 : decode cX4_setEntry 32 = .ok (.iaload, 1) := by decide +kernel
theorem dX4_setEntry_33 : decode cX4_setEntry 33 = .ok (.iastore, 1) := by decide +kernel
theorem dX4_setEntry_34 : decode cX4_setEntry 34 = .ok (.aload_n 0, 1) := by decide +kernel
theorem dX4_setEntry_35 : decode cX4_setEntry 35 = .ok (.getfield 73, 3) := by decide +kernel
theorem dX4_setEntry_38 : decode cX4_setEntry 38 = .ok (.bipush 8, 2) := by decide +kernel
theorem dX4_setEntry_40 : decode cX4_setEntry 40 = .ok (.iload_n 1, 1) := by decide +kernel
theorem dX4_setEntry_41 : decode cX4_setEntry 41 = .ok (.imul, 1) := by decide +kernel
theorem dX4_setEntry_42 : decode cX4_setEntry 42 = .ok (.iload 5, 2) := by decide +kernel
theorem dX4_setEntry_44 : decode cX4_setEntry 44 = .ok (.iadd, 1) := by decide +kernel
theorem dX4_setEntry_45 : decode cX4_setEntry 45 = .ok (.aload_n 0, 1) := by decide +kernel
theorem dX4_setEntry_46 : decode cX4_setEntry 46 = .ok (.getfield 57, 3) := by decide +kernel
theorem dX4_setEntry_49 : decode cX4_setEntry 49 = .ok (.aload_n 0, 1) := by decide +kernel
theorem dX4_setEntry_50 : decode cX4_setEntry 50 = .ok (.iload_n 2, 1) := by decide +kernel
theorem dX4_setEntry_51 : decode cX4_setEntry 51 = .ok (.iload 5, 2) := by decide +kernel
theorem dX4_setEntry_53 : decode cX4_setEntry 53 = .ok (.invokevirtual 210, 3) := by decide +kernel
theorem dX4_setEntry_56 : decode cX4_setEntry 56 = .ok (.laload, 1) := by decide +kernel
theorem dX4_setEntry_57 : decode cX4_setEntry 57 = .ok (.lastore, 1) := by decide +kernel
theorem dX4_setEntry_58 : decode cX4_setEntry 58 = .ok (.iinc 5 1, 3) := by decide +kernel
theorem dX4_setEntry_61 : decode cX4_setEntry 61 = .ok (.goto (-58), 3) := by decide +kernel
theorem dX4_setEntry_64 : decode cX4_setEntry 64 = .ok (.return_, 1) := by decide +kernel
theorem dX4_put_0 : decode cX4_put 0 = .ok (.aload_n 0, 1) := by decide +kernel
theorem dX4_put_1 : decode cX4_put 1 = .ok (.aload_n 0, 1) := by decide +kernel
theorem dX4_put_2 : decode cX4_put 2 = .ok (.iload_n 1, 1) := by decide +kernel
theorem dX4_put_3 : decode cX4_put 3 = .ok (.iload_n 2, 1) := by decide +kernel
