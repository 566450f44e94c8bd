theorem dX2_init_0 : decode cX2_init 0 = .ok (.aload_n 0, 1) := by decide +kernel
theorem dX2_init_1 : decode cX2_init 1 = .ok (.invokespecial 3, 3) := by decide +kernel
theorem dX2_init_4 : decode cX2_init 4 = .ok (.aload_n 0, 1) := by decide +kernel
theorem dX2_init_5 : decode cX2_init 5 = .ok (.aload_n 1, 1) := by decide +kernel
theorem dX2_init_6 : decode cX2_init 6 = .ok (.putfield 9, 3) := by decide +kernel
theorem dX2_init_9 : decode cX2_init 9 = .ok (.return_, 1) := by decide +kernel
theorem dX2_wordsFor_0 : decode cX2_wordsFor 0 = .ok (.iconst 3, 1) := by decide +kernel
theorem dX2_wordsFor_1 : decode cX2_wordsFor 1 = .ok (.iload_n 0, 1) := by decide +kernel
theorem dX2_wordsFor_2 : decode cX2_wordsFor 2 = .ok (.invokestatic 15, 3) := by decide +kernel
theorem dX2_wordsFor_5 : decode cX2_wordsFor 5 = .ok (.iconst 1, 1) := by decide +kernel
theorem dX2_wordsFor_6 : decode cX2_wordsFor 6 = .ok (.isub, 1) := by decide +kernel
theorem dX2_wordsFor_7 : decode cX2_wordsFor 7 = .ok (.ireturn, 1) := by decide +kernel
theorem dX2_byteOf_0 : decode cX2_byteOf 0 = .ok (.aload_n 0, 1) := by decide +kernel
theorem dX2_byteOf_1 : decode cX2_byteOf 1 = .ok (.getfield 9, 3) := by decide +kernel
theorem dX2_byteOf_4 : decode cX2_byteOf 4 = .ok (.aload_n 0, 1) := by decide +kernel
theorem dX2_byteOf_5 : decode cX2_byteOf 5 = .ok (.getfield 9, 3) := by decide +kernel
theorem dX2_byteOf_8 : decode cX2_byteOf 8 = .ok (.iload_n 1, 1) := by decide +kernel
theorem dX2_byteOf_9 : decode cX2_byteOf 9 = .ok (.invokevirtual 21, 3) := by decide +kernel
theorem dX2_byteOf_12 : decode cX2_byteOf 12 = .ok (.iload_n 2, 1) := by decide +kernel
theorem dX2_byteOf_13 : decode cX2_byteOf 13 = .ok (.iconst 3, 1) := by decide +kernel
theorem dX2_byteOf_14 : decode cX2_byteOf 14 = .ok (.ishr, 1) := by decide +kernel
theorem dX2_byteOf_15 : decode cX2_byteOf 15 = .ok (.iadd, 1) := by decide +kernel
theorem dX2_byteOf_16 : decode cX2_byteOf 16 = .ok (.invokevirtual 25, 3) := by decide +kernel
theorem dX2_byteOf_19 : decode cX2_byteOf 19 = .ok (.iload_n 2, 1) := by decide +kernel
theorem dX2_byteOf_20 : decode cX2_byteOf 20 = .ok (.invokestatic 29, 3) := by decide +kernel
theorem dX2_byteOf_23 : decode cX2_byteOf 23 = .ok (.lushr, 1) := by decide +kernel
theorem dX2_byteOf_24 : decode cX2_byteOf 24 = .ok (.l2i, 1) := by decide +kernel
theorem dX2_byteOf_25 : decode cX2_byteOf 25 = .ok (.sipush 255, 3) := by decide +kernel
theorem dX2_byteOf_28 : decode cX2_byteOf 28 = .ok (.iand, 1) := by decide +kernel
theorem dX2_byteOf_29 : decode cX2_byteOf 29 = .ok (.ireturn, 1) := by decide +kernel
theorem dX2_changeByte_0 : decode cX2_changeByte 0 = .ok (.aload_n 0, 1) := by decide +kernel
theorem dX2_changeByte_1 : decode cX2_changeByte 1 = .ok (.getfield 9, 3) := by decide +kernel
theorem dX2_changeByte_4 : decode cX2_changeByte 4 = .ok (.iload_n 1, 1) := by decide +kernel
theorem dX2_changeByte_5 : decode cX2_changeByte 5 = .ok (.invokevirtual 21, 3) := by decide +kernel
theorem dX2_changeByte_8 : decode cX2_changeByte 8 = .ok (.iload_n 2, 1) := by decide +kernel
theorem dX2_changeByte_9 : decode cX2_changeByte 9 = .ok (.iconst 3, 1) := by decide +kernel
theorem dX2_changeByte_10 : decode cX2_changeByte 10 = .ok (.ishr, 1) := by decide +kernel
theorem dX2_changeByte_11 : decode cX2_changeByte 11 = .ok (.iadd, 1) := by decide +kernel
theorem dX2_changeByte_12 : decode cX2_changeByte 12 = .ok (.istore 4, 2) := by decide +kernel
theorem dX2_changeByte_14 : decode cX2_changeByte 14 = .ok (.aload_n 0, 1) := by decide +kernel
theorem dX2_changeByte_15 : decode cX2_changeByte 15 = .ok (.getfield 9, 3) := by decide +kernel
theorem dX2_changeByte_18 : decode cX2_changeByte 18 = .ok (.iload 4, 2) := by decide +kernel
theorem dX2_changeByte_20 : decode cX2_changeByte 20 = .ok (.invokevirtual 25, 3) := by decide +kernel
theorem dX2_changeByte_23 : decode cX2_changeByte 23 = .ok (.ldc2_w 32, 3) := by decide +kernel
theorem dX2_changeByte_26 : decode cX2_changeByte 26 = .ok (.iload_n 2, 1) := by decide +kernel
theorem dX2_changeByte_27 : decode cX2_changeByte 27 = .ok (.invokestatic 29, 3) := by decide +kernel
theorem dX2_changeByte_30 : decode cX2_changeByte 30 = .ok (.lshl, 1) := by decide +kernel
theorem dX2_changeByte_31 : decode cX2_changeByte 31 = .ok (.ldc2_w 34, 3) := by decide +kernel
theorem dX2_changeByte_34 : decode cX2_changeByte 34 = .ok (.lxor, 1) := by decide +kernel
theorem dX2_changeByte_35 : decode cX2_changeByte 35 = .ok (.land, 1) := by decide +kernel
theorem dX2_changeByte_36 : decode cX2_changeByte 36 = .ok (.lstore 5, 2) := by decide +kernel
theorem dX2_changeByte_38 : decode cX2_changeByte 38 = .ok (.aload_n 0, 1) := by decide +kernel
theorem dX2_changeByte_39 : decode cX2_changeByte 39 = .ok (.getfield 9, 3) := by decide +kernel
theorem dX2_changeByte_42 : decode cX2_changeByte 42 = .ok (.iload 4, 2) := by decide +kernel
theorem dX2_changeByte_44 : decode cX2_changeByte 44 = .ok (.lload 5, 2) := by decide +kernel
theorem dX2_changeByte_46 : decode cX2_changeByte 46 = .ok (.iload_n 3, 1) := by decide +kernel
theorem dX2_changeByte_47 : decode cX2_changeByte 47 = .ok (.i2l, 1) := by decide +kernel
theorem dX2_changeByte_48 : decode cX2_changeByte 48 = .ok (.ldc2_w 32, 3) := by decide +kernel
theorem dX2_changeByte_51 : decode cX2_changeByte 51 = .ok (.land, 1) := by decide +kernel
theorem dX2_changeByte_52 : decode cX2_changeByte 52 = .ok (.iload_n 2, 1) := by decide +kernel
theorem dX2_changeByte_53 : decode cX2_changeByte 53 = .ok (.invokestatic 29, 3) := by decide +kernel
theorem dX2_changeByte_56 : decode cX2_changeByte 56 = .ok (.lshl, 1) := by decide +kernel
theorem dX2_changeByte_57 : decode cX2_changeByte 57 = .ok (.lor, 1) := by decide +kernel
theorem dX2_changeByte_58 : decode cX2_changeByte 58 = .ok (.invokevirtual 36, 3) := by decide +kernel
theorem dX2_changeByte_61 : decode cX2_changeByte 61 = .ok (.return_, 1) := by decide +kernel
theorem dX2_order_0 : decode cX2_order 0 = .ok (.aload_n 0, 1) := by decide +kernel
theorem dX2_order_1 : decode cX2_order 1 = .ok (.getfield 9, 3) := by decide +kernel
theorem dX2_order_4 : decode cX2_order 4 = .ok (.iload_n 1, 1) := by decide +kernel
theorem dX2_order_5 : decode cX2_order 5 = .ok (.invokevirtual 40, 3) := by decide +kernel
theorem dX2_order_8 : decode cX2_order 8 = .ok (.aload_n 0, 1) := by decide +kernel
theorem dX2_order_9 : decode cX2_order 9 = .ok (.getfield 9, 3) := by decide +kernel
theorem dX2_order_12 : decode cX2_order 12 = .ok (.iload_n 2, 1) := by decide +kernel
theorem dX2_order_13 : decode cX2_order 13 = .ok (.invokevirtual 40, 3) := by decide +kernel
theorem dX2_order_16 : decode cX2_order 16 = .ok (.invokestatic 43, 3) := by decide +kernel
theorem dX2_order_19 : decode cX2_order 19 = .ok (.invokestatic 48, 3) := by decide +kernel
theorem dX2_order_22 : decode cX2_order 22 = .ok (.istore_n 3, 1) := by decide +kernel
theorem dX2_order_23 : decode cX2_order 23 = .ok (.iconst 0, 1) := by decide +kernel
theorem dX2_order_24 : decode cX2_order 24 = .ok (.istore 4, 2) := by decide +kernel
theorem dX2_order_26 : decode cX2_order 26 = .ok (.iload 4, 2) := by decide +kernel
theorem dX2_order_28 : decode cX2_order 28 = .ok (.iload_n 3, 1) := by decide +kernel
theorem dX2_order_29 : decode cX2_order 29 = .ok (.if_icmp .ge 52, 3) := by decide +kernel
theorem dX2_order_32 : decode cX2_order 32 = .ok (.aload_n 0, 1) := by decide +kernel
theorem dX2_order_33 : decode cX2_order 33 = .ok (.iload_n 1, 1) := by decide +kernel
theorem dX2_order_34 : decode cX2_order 34 = .ok (.iload 4, 2) := by decide +kernel
theorem dX2_order_36 : decode cX2_order 36 = .ok (.invokevirtual 51, 3) := by decide +kernel
theorem dX2_order_39 : decode cX2_order 39 = .ok (.ldc2_w 55, 3) := by decide +kernel
theorem dX2_order_42 : decode cX2_order 42 = .ok (.lxor, 1) := by decide +kernel
theorem dX2_order_43 : decode cX2_order 43 = .ok (.aload_n 0, 1) := by decide +kernel
theorem dX2_order_44 : decode cX2_order 44 = .ok (.iload_n 2, 1) := by decide +kernel
theorem dX2_order_45 : decode cX2_order 45 = .ok (.iload 4, 2) := by decide +kernel
theorem dX2_order_47 : decode cX2_order 47 = .ok (.invokevirtual 51, 3) := by decide +kernel
theorem dX2_order_50 : decode cX2_order 50 = .ok (.ldc2_w 55, 3) := by decide +kernel
theorem dX2_order_53 : decode cX2_order 53 = .ok (.lxor, 1) := by decide +kernel
theorem dX2_order_54 : decode cX2_order 54 = .ok (.invokestatic 57, 3) := by decide +kernel
theorem dX2_order_57 : decode cX2_order 57 = .ok (.istore 5, 2) := by decide +kernel
theorem dX2_order_59 : decode cX2_order 59 = .ok (.iload 5, 2) := by decide +kernel
theorem dX2_order_61 : decode cX2_order 61 = .ok (.ifCond .eq 14, 3) := by decide +kernel
theorem dX2_order_64 : decode cX2_order 64 = .ok (.iload 5, 2) := by decide +kernel
theorem dX2_order_66 : decode cX2_order 66 = .ok (.ifCond .ge 7, 3) := by decide +kernel
theorem dX2_order_69 : decode cX2_order 69 = .ok (.iconst (-1), 1) := by decide +kernel
theorem dX2_order_70 : decode cX2_order 70 = .ok (.goto 4, 3) := by decide +kernel
theorem dX2_order_73 : decode cX2_order 73 = .ok (.iconst 1, 1) := by decide +kernel
theorem dX2_order_74 : decode cX2_order 74 = .ok (.ireturn, 1) := by decide +kernel
theorem dX2_order_75 : decode cX2_order 75 = .ok (.iinc 4 1, 3) := by decide +kernel
theorem dX2_order_78 : decode cX2_order 78 = .ok (.goto (-52), 3) := by decide +kernel
theorem dX2_order_81 : decode cX2_order 81 = .ok (.aload_n 0, 1) := by decide +kernel
theorem dX2_order_82 : decode cX2_order 82 = .ok (.getfield 9, 3) := by decide +kernel
theorem dX2_order_85 : decode cX2_order 85 = .ok (.iload_n 1, 1) := by decide +kernel
theorem dX2_order_86 : decode cX2_order 86 = .ok (.invokevirtual 40, 3) := by decide +kernel
theorem dX2_order_89 : decode cX2_order 89 = .ok (.aload_n 0, 1) := by decide +kernel
theorem dX2_order_90 : decode cX2_order 90 = .ok (.getfield 9, 3) := by decide +kernel
theorem dX2_order_93 : decode cX2_order 93 = .ok (.iload_n 2, 1) := by decide +kernel
theorem dX2_order_94 : decode cX2_order 94 = .ok (.invokevirtual 40, 3) := by decide +kernel
theorem dX2_order_97 : decode cX2_order 97 = .ok (.invokestatic 63, 3) := by decide +kernel
theorem dX2_order_100 : decode cX2_order 100 = .ok (.ireturn, 1) := by decide +kernel
theorem dX2_alike_0 : decode cX2_alike 0 = .ok (.aload_n 0, 1) := by decide +kernel
theorem dX2_alike_1 : decode cX2_alike 1 = .ok (.getfield 9, 3) := by decide +kernel
theorem dX2_alike_4 : decode cX2_alike 4 = .ok (.iload_n 1, 1) := by decide +kernel
theorem dX2_alike_5 : decode cX2_alike 5 = .ok (.invokevirtual 40, 3) := by decide +kernel
theorem dX2_alike_8 : decode cX2_alike 8 = .ok (.istore_n 3, 1) := by decide +kernel
theorem dX2_alike_9 : decode cX2_alike 9 = .ok (.iload_n 3, 1) := by decide +kernel
theorem dX2_alike_10 : decode cX2_alike 10 = .ok (.aload_n 0, 1) := by decide +kernel
theorem dX2_alike_11 : decode cX2_alike 11 = .ok (.getfield 9, 3) := by decide +kernel
theorem dX2_alike_14 : decode cX2_alike 14 = .ok (.iload_n 2, 1) := by decide +kernel
theorem dX2_alike_15 : decode cX2_alike 15 = .ok (.invokevirtual 40, 3) := by decide +kernel
theorem dX2_alike_18 : decode cX2_alike 18 = .ok (.if_icmp .eq 5, 3) := by decide +kernel
theorem dX2_alike_21 : decode cX2_alike 21 = .ok (.iconst 0, 1) := by decide +kernel
theorem dX2_alike_22 : decode cX2_alike 22 = .ok (.ireturn, 1) := by decide +kernel
theorem dX2_alike_23 : decode cX2_alike 23 = .ok (.iload_n 3, 1) := by decide +kernel
theorem dX2_alike_24 : decode cX2_alike 24 = .ok (.invokestatic 48, 3) := by decide +kernel
theorem dX2_alike_27 : decode cX2_alike 27 = .ok (.istore 4, 2) := by decide +kernel
theorem dX2_alike_29 : decode cX2_alike 29 = .ok (.iconst 0, 1) := by decide +kernel
theorem dX2_alike_30 : decode cX2_alike 30 = .ok (.istore 5, 2) := by decide +kernel
theorem dX2_alike_32 : decode cX2_alike 32 = .ok (.iload 5, 2) := by decide +kernel
theorem dX2_alike_34 : decode cX2_alike 34 = .ok (.iload 4, 2) := by decide +kernel
theorem dX2_alike_36 : decode cX2_alike 36 = .ok (.if_icmp .ge 51, 3) := by decide +kernel
theorem dX2_alike_39 : decode cX2_alike 39 = .ok (.aload_n 0, 1) := by decide +kernel
theorem dX2_alike_40 : decode cX2_alike 40 = .ok (.getfield 9, 3) := by decide +kernel
theorem dX2_alike_43 : decode cX2_alike 43 = .ok (.aload_n 0, 1) := by decide +kernel
theorem dX2_alike_44 : decode cX2_alike 44 = .ok (.getfield 9, 3) := by decide +kernel
theorem dX2_alike_47 : decode cX2_alike 47 = .ok (.iload_n 1, 1) := by decide +kernel
theorem dX2_alike_48 : decode cX2_alike 48 = .ok (.invokevirtual 21, 3) := by decide +kernel
theorem dX2_alike_51 : decode cX2_alike 51 = .ok (.iload 5, 2) := by decide +kernel
theorem dX2_alike_53 : decode cX2_alike 53 = .ok (.iadd, 1) := by decide +kernel
theorem dX2_alike_54 : decode cX2_alike 54 = .ok (.invokevirtual 25, 3) := by decide +kernel
theorem dX2_alike_57 : decode cX2_alike 57 = .ok (.aload_n 0, 1) := by decide +kernel
theorem dX2_alike_58 : decode cX2_alike 58 = .ok (.getfield 9, 3) := by decide +kernel
theorem dX2_alike_61 : decode cX2_alike 61 = .ok (.aload_n 0, 1) := by decide +kernel
theorem dX2_alike_62 : decode cX2_alike 62 = .ok (.getfield 9, 3) := by decide +kernel
theorem dX2_alike_65 : decode cX2_alike 65 = .ok (.iload_n 2, 1) := by decide +kernel
theorem dX2_alike_66 : decode cX2_alike 66 = .ok (.invokevirtual 21, 3) := by decide +kernel
theorem dX2_alike_69 : decode cX2_alike 69 = .ok (.iload 5, 2) := by decide +kernel
theorem dX2_alike_71 : decode cX2_alike 71 = .ok (.iadd, 1) := by decide +kernel
theorem dX2_alike_72 : decode cX2_alike 72 = .ok (.invokevirtual 25, 3) := by decide +kernel
theorem dX2_alike_75 : decode cX2_alike 75 = .ok (.lcmp, 1) := by decide +kernel
theorem dX2_alike_76 : decode cX2_alike 76 = .ok (.ifCond .eq 5, 3) := by decide +kernel
theorem dX2_alike_79 : decode cX2_alike 79 = .ok (.iconst 0, 1) := by decide +kernel
theorem dX2_alike_80 : decode cX2_alike 80 = .ok (.ireturn, 1) := by decide +kernel
theorem dX2_alike_81 : decode cX2_alike 81 = .ok (.iinc 5 1, 3) := by decide +kernel
theorem dX2_alike_84 : decode cX2_alike 84 = .ok (.goto (-52), 3) := by decide +kernel
theorem dX2_alike_87 : decode cX2_alike 87 = .ok (.iconst 1, 1) := by decide +kernel
theorem dX2_alike_88 : decode cX2_alike 88 = .ok (.ireturn, 1) := by decide +kernel
theorem dX2_joined_0 : decode cX2_joined 0 = .ok (.aload_n 0, 1) := by decide +kernel
theorem dX2_joined_1 : decode cX2_joined 1 = .ok (.getfield 9, 3) := by decide +kernel
theorem dX2_joined_4 : decode cX2_joined 4 = .ok (.iload_n 1, 1) := by decide +kernel
theorem dX2_joined_5 : decode cX2_joined 5 = .ok (.invokevirtual 40, 3) := by decide +kernel
theorem dX2_joined_8 : decode cX2_joined 8 = .ok (.istore_n 3, 1) := by decide +kernel
theorem dX2_joined_9 : decode cX2_joined 9 = .ok (.iload_n 3, 1) := by decide +kernel
theorem dX2_joined_10 : decode cX2_joined 10 = .ok (.aload_n 0, 1) := by decide +kernel
theorem dX2_joined_11 : decode cX2_joined 11 = .ok (.getfield 9, 3) := by decide +kernel
theorem dX2_joined_14 : decode cX2_joined 14 = .ok (.iload_n 2, 1) := by decide +kernel
theorem dX2_joined_15 : decode cX2_joined 15 = .ok (.invokevirtual 40, 3) := by decide +kernel
theorem dX2_joined_18 : decode cX2_joined 18 = .ok (.iadd, 1) := by decide +kernel
theorem dX2_joined_19 : decode cX2_joined 19 = .ok (.istore 4, 2) := by decide +kernel
theorem dX2_joined_21 : decode cX2_joined 21 = .ok (.aload_n 0, 1) := by decide +kernel
theorem dX2_joined_22 : decode cX2_joined 22 = .ok (.getfield 9, 3) := by decide +kernel
theorem dX2_joined_25 : decode cX2_joined 25 = .ok (.iconst 3, 1) := by decide +kernel
theorem dX2_joined_26 : decode cX2_joined 26 = .ok (.iload 4, 2) := by decide +kernel
theorem dX2_joined_28 : decode cX2_joined 28 = .ok (.invokevirtual 67, 3) := by decide +kernel
theorem dX2_joined_31 : decode cX2_joined 31 = .ok (.istore 5, 2) := by decide +kernel
theorem dX2_joined_33 : decode cX2_joined 33 = .ok (.iconst 0, 1) := by decide +kernel
theorem dX2_joined_34 : decode cX2_joined 34 = .ok (.istore 6, 2) := by decide +kernel
theorem dX2_joined_36 : decode cX2_joined 36 = .ok (.iload 6, 2) := by decide +kernel
theorem dX2_joined_38 : decode cX2_joined 38 = .ok (.iload 4, 2) := by decide +kernel
theorem dX2_joined_40 : decode cX2_joined 40 = .ok (.invokestatic 48, 3) := by decide +kernel
theorem dX2_joined_43 : decode cX2_joined 43 = .ok (.if_icmp .ge 48, 3) := by decide +kernel
theorem dX2_joined_46 : decode cX2_joined 46 = .ok (.aload_n 0, 1) := by decide +kernel
theorem dX2_joined_47 : decode cX2_joined 47 = .ok (.getfield 9, 3) := by decide +kernel
theorem dX2_joined_50 : decode cX2_joined 50 = .ok (.aload_n 0, 1) := by decide +kernel
theorem dX2_joined_51 : decode cX2_joined 51 = .ok (.getfield 9, 3) := by decide +kernel
theorem dX2_joined_54 : decode cX2_joined 54 = .ok (.iload 5, 2) := by decide +kernel
theorem dX2_joined_56 : decode cX2_joined 56 = .ok (.invokevirtual 21, 3) := by decide +kernel
theorem dX2_joined_59 : decode cX2_joined 59 = .ok (.iload 6, 2) := by decide +kernel
theorem dX2_joined_61 : decode cX2_joined 61 = .ok (.iadd, 1) := by decide +kernel
theorem dX2_joined_62 : decode cX2_joined 62 = .ok (.aload_n 0, 1) := by decide +kernel
theorem dX2_joined_63 : decode cX2_joined 63 = .ok (.iload_n 1, 1) := by decide +kernel
theorem dX2_joined_64 : decode cX2_joined 64 = .ok (.iload 6, 2) := by decide +kernel
theorem dX2_joined_66 : decode cX2_joined 66 = .ok (.invokevirtual 51, 3) := by decide +kernel
theorem dX2_joined_69 : decode cX2_joined 69 = .ok (.aload_n 0, 1) := by decide +kernel
theorem dX2_joined_70 : decode cX2_joined 70 = .ok (.iload_n 2, 1) := by decide +kernel
theorem dX2_joined_71 : decode cX2_joined 71 = .ok (.bipush 8, 2) := by decide +kernel
theorem dX2_joined_73 : decode cX2_joined 73 = .ok (.iload 6, 2) := by decide +kernel
theorem dX2_joined_75 : decode cX2_joined 75 = .ok (.imul, 1) := by decide +kernel
theorem dX2_joined_76 : decode cX2_joined 76 = .ok (.iload_n 3, 1) := by decide +kernel
theorem dX2_joined_77 : decode cX2_joined 77 = .ok (.isub, 1) := by decide +kernel
theorem dX2_joined_78 : decode cX2_joined 78 = .ok (.invokevirtual 70, 3) := by decide +kernel
theorem dX2_joined_81 : decode cX2_joined 81 = .ok (.lor, 1) := by decide +kernel
theorem dX2_joined_82 : decode cX2_joined 82 = .ok (.invokevirtual 36, 3) := by decide +kernel
theorem dX2_joined_85 : decode cX2_joined 85 = .ok (.iinc 6 1, 3) := by decide +kernel
theorem dX2_joined_88 : decode cX2_joined 88 = .ok (.goto (-52), 3) := by decide +kernel
theorem dX2_joined_91 : decode cX2_joined 91 = .ok (.iload 5, 2) := by decide +kernel
theorem dX2_joined_93 : decode cX2_joined 93 = .ok (.ireturn, 1) := by decide +kernel
theorem dX2_partOf_0 : decode cX2_partOf 0 = .ok (.iload_n 3, 1) := by decide +kernel
theorem dX2_partOf_1 : decode cX2_partOf 1 = .ok (.iload_n 2, 1) := by decide +kernel
theorem dX2_partOf_2 : decode cX2_partOf 2 = .ok (.isub, 1) := by decide +kernel
theorem dX2_partOf_3 : decode cX2_partOf 3 = .ok (.istore 4, 2) := by decide +kernel
theorem dX2_partOf_5 : decode cX2_partOf 5 = .ok (.aload_n 0, 1) := by decide +kernel
theorem dX2_partOf_6 : decode cX2_partOf 6 = .ok (.getfield 9, 3) := by decide +kernel
theorem dX2_partOf_9 : decode cX2_partOf 9 = .ok (.iconst 3, 1) := by decide +kernel
theorem dX2_partOf_10 : decode cX2_partOf 10 = .ok (.iload 4, 2) := by decide +kernel
theorem dX2_partOf_12 : decode cX2_partOf 12 = .ok (.invokevirtual 67, 3) := by decide +kernel
theorem dX2_partOf_15 : decode cX2_partOf 15 = .ok (.istore 5, 2) := by decide +kernel
theorem dX2_partOf_17 : decode cX2_partOf 17 = .ok (.iconst 0, 1) := by decide +kernel
theorem dX2_partOf_18 : decode cX2_partOf 18 = .ok (.istore 6, 2) := by decide +kernel
theorem dX2_partOf_20 : decode cX2_partOf 20 = .ok (.iload 6, 2) := by decide +kernel
theorem dX2_partOf_22 : decode cX2_partOf 22 = .ok (.iload 4, 2) := by decide +kernel
theorem dX2_partOf_24 : decode cX2_partOf 24 = .ok (.invokestatic 48, 3) := by decide +kernel
theorem dX2_partOf_27 : decode cX2_partOf 27 = .ok (.if_icmp .ge 66, 3) := by decide +kernel
theorem dX2_partOf_30 : decode cX2_partOf 30 = .ok (.iconst 0, 1) := by decide +kernel
theorem dX2_partOf_31 : decode cX2_partOf 31 = .ok (.bipush 8, 2) := by decide +kernel
theorem dX2_partOf_33 : decode cX2_partOf 33 = .ok (.iload 6, 2) := by decide +kernel
theorem dX2_partOf_35 : decode cX2_partOf 35 = .ok (.iconst 1, 1) := by decide +kernel
theorem dX2_partOf_36 : decode cX2_partOf 36 = .ok (.iadd, 1) := by decide +kernel
theorem dX2_partOf_37 : decode cX2_partOf 37 = .ok (.imul, 1) := by decide +kernel
theorem dX2_partOf_38 : decode cX2_partOf 38 = .ok (.iload 4, 2) := by decide +kernel
theorem dX2_partOf_40 : decode cX2_partOf 40 = .ok (.isub, 1) := by decide +kernel
theorem dX2_partOf_41 : decode cX2_partOf 41 = .ok (.invokestatic 73, 3) := by decide +kernel
theorem dX2_partOf_44 : decode cX2_partOf 44 = .ok (.istore 7, 2) := by decide +kernel
theorem dX2_partOf_46 : decode cX2_partOf 46 = .ok (.aload_n 0, 1) := by decide +kernel
theorem dX2_partOf_47 : decode cX2_partOf 47 = .ok (.getfield 9, 3) := by decide +kernel
theorem dX2_partOf_50 : decode cX2_partOf 50 = .ok (.aload_n 0, 1) := by decide +kernel
theorem dX2_partOf_51 : decode cX2_partOf 51 = .ok (.getfield 9, 3) := by decide +kernel
theorem dX2_partOf_54 : decode cX2_partOf 54 = .ok (.iload 5, 2) := by decide +kernel
theorem dX2_partOf_56 : decode cX2_partOf 56 = .ok (.invokevirtual 21, 3) := by decide +kernel
theorem dX2_partOf_59 : decode cX2_partOf 59 = .ok (.iload 6, 2) := by decide +kernel
theorem dX2_partOf_61 : decode cX2_partOf 61 = .ok (.iadd, 1) := by decide +kernel
theorem dX2_partOf_62 : decode cX2_partOf 62 = .ok (.aload_n 0, 1) := by decide +kernel
theorem dX2_partOf_63 : decode cX2_partOf 63 = .ok (.iload_n 1, 1) := by decide +kernel
theorem dX2_partOf_64 : decode cX2_partOf 64 = .ok (.iload_n 2, 1) := by decide +kernel
theorem dX2_partOf_65 : decode cX2_partOf 65 = .ok (.bipush 8, 2) := by decide +kernel
theorem dX2_partOf_67 : decode cX2_partOf 67 = .ok (.iload 6, 2) := by decide +kernel
theorem dX2_partOf_69 : decode cX2_partOf 69 = .ok (.imul, 1) := by decide +kernel
theorem dX2_partOf_70 : decode cX2_partOf 70 = .ok (.iadd, 1) := by decide +kernel
theorem dX2_partOf_71 : decode cX2_partOf 71 = .ok (.invokevirtual 70, 3) := by decide +kernel
theorem dX2_partOf_74 : decode cX2_partOf 74 = .ok (.ldc2_w 34, 3) := by decide +kernel
theorem dX2_partOf_77 : decode cX2_partOf 77 = .ok (.bipush 8, 2) := by decide +kernel
theorem dX2_partOf_79 : decode cX2_partOf 79 = .ok (.iload 7, 2) := by decide +kernel
theorem dX2_partOf_81 : decode cX2_partOf 81 = .ok (.imul, 1) := by decide +kernel
theorem dX2_partOf_82 : decode cX2_partOf 82 = .ok (.lshl, 1) := by decide +kernel
theorem dX2_partOf_83 : decode cX2_partOf 83 = .ok (.land, 1) := by decide +kernel
theorem dX2_partOf_84 : decode cX2_partOf 84 = .ok (.invokevirtual 36, 3) := by decide +kernel
theorem dX2_partOf_87 : decode cX2_partOf 87 = .ok (.iinc 6 1, 3) := by decide +kernel
theorem dX2_partOf_90 : decode cX2_partOf 90 = .ok (.goto (-70), 3) := by decide +kernel
theorem dX2_partOf_93 : decode cX2_partOf 93 = .ok (.iload 5, 2) := by decide +kernel
theorem dX2_partOf_95 : decode cX2_partOf 95 = .ok (.ireturn, 1) := by decide +kernel
theorem dX2_eightFrom_0 : decode cX2_eightFrom 0 = .ok (.bipush 8, 2) := by decide +kernel
theorem dX2_eightFrom_2 : decode cX2_eightFrom 2 = .ok (.iload_n 2, 1) := by decide +kernel
theorem dX2_eightFrom_3 : decode cX2_eightFrom 3 = .ok (.bipush 7, 2) := by decide +kernel
theorem dX2_eightFrom_5 : decode cX2_eightFrom 5 = .ok (.iand, 1) := by decide +kernel
theorem dX2_eightFrom_6 : decode cX2_eightFrom 6 = .ok (.imul, 1) := by decide +kernel
theorem dX2_eightFrom_7 : decode cX2_eightFrom 7 = .ok (.istore_n 3, 1) := by decide +kernel
theorem dX2_eightFrom_8 : decode cX2_eightFrom 8 = .ok (.aload_n 0, 1) := by decide +kernel
theorem dX2_eightFrom_9 : decode cX2_eightFrom 9 = .ok (.iload_n 1, 1) := by decide +kernel
theorem dX2_eightFrom_10 : decode cX2_eightFrom 10 = .ok (.iload_n 2, 1) := by decide +kernel
theorem dX2_eightFrom_11 : decode cX2_eightFrom 11 = .ok (.iconst 3, 1) := by decide +kernel
theorem dX2_eightFrom_12 : decode cX2_eightFrom 12 = .ok (.ishr, 1) := by decide +kernel
theorem dX2_eightFrom_13 : decode cX2_eightFrom 13 = .ok (.invokevirtual 51, 3) := by decide +kernel
theorem dX2_eightFrom_16 : decode cX2_eightFrom 16 = .ok (.iload_n 3, 1) := by decide +kernel
theorem dX2_eightFrom_17 : decode cX2_eightFrom 17 = .ok (.lshl, 1) := by decide +kernel
theorem dX2_eightFrom_18 : decode cX2_eightFrom 18 = .ok (.lstore 4, 2) := by decide +kernel
theorem dX2_eightFrom_20 : decode cX2_eightFrom 20 = .ok (.iload_n 3, 1) := by decide +kernel
theorem dX2_eightFrom_21 : decode cX2_eightFrom 21 = .ok (.ifCond .ne 8, 3) := by decide +kernel
theorem dX2_eightFrom_24 : decode cX2_eightFrom 24 = .ok (.lload 4, 2) := by decide +kernel
theorem dX2_eightFrom_26 : decode cX2_eightFrom 26 = .ok (.goto 21, 3) := by decide +kernel
theorem dX2_eightFrom_29 : decode cX2_eightFrom 29 = .ok (.lload 4, 2) := by decide +kernel
theorem dX2_eightFrom_31 : decode cX2_eightFrom 31 = .ok (.aload_n 0, 1) := by decide +kernel
theorem dX2_eightFrom_32 : decode cX2_eightFrom 32 = .ok (.iload_n 1, 1) := by decide +kernel
theorem dX2_eightFrom_33 : decode cX2_eightFrom 33 = .ok (.iload_n 2, 1) := by decide +kernel
theorem dX2_eightFrom_34 : decode cX2_eightFrom 34 = .ok (.iconst 3, 1) := by decide +kernel
theorem dX2_eightFrom_35 : decode cX2_eightFrom 35 = .ok (.ishr, 1) := by decide +kernel
theorem dX2_eightFrom_36 : decode cX2_eightFrom 36 = .ok (.iconst 1, 1) := by decide +kernel
theorem dX2_eightFrom_37 : decode cX2_eightFrom 37 = .ok (.iadd, 1) := by decide +kernel
theorem dX2_eightFrom_38 : decode cX2_eightFrom 38 = .ok (.invokevirtual 51, 3) := by decide +kernel
theorem dX2_eightFrom_41 : decode cX2_eightFrom 41 = .ok (.bipush 64, 2) := by decide +kernel
theorem dX2_eightFrom_43 : decode cX2_eightFrom 43 = .ok (.iload_n 3, 1) := by decide +kernel
theorem dX2_eightFrom_44 : decode cX2_eightFrom 44 = .ok (.isub, 1) := by decide +kernel
theorem dX2_eightFrom_45 : decode cX2_eightFrom 45 = .ok (.lushr, 1) := by decide +kernel
theorem dX2_eightFrom_46 : decode cX2_eightFrom 46 = .ok (.lor, 1) := by decide +kernel
theorem dX2_eightFrom_47 : decode cX2_eightFrom 47 = .ok (.lreturn, 1) := by decide +kernel
theorem dX2_wordOf_0 : decode cX2_wordOf 0 = .ok (.iload_n 2, 1) := by decide +kernel
theorem dX2_wordOf_1 : decode cX2_wordOf 1 = .ok (.ifCond .lt 18, 3) := by decide +kernel
theorem dX2_wordOf_4 : decode cX2_wordOf 4 = .ok (.iload_n 2, 1) := by decide +kernel
theorem dX2_wordOf_5 : decode cX2_wordOf 5 = .ok (.aload_n 0, 1) := by decide +kernel
theorem dX2_wordOf_6 : decode cX2_wordOf 6 = .ok (.getfield 9, 3) := by decide +kernel
theorem dX2_wordOf_9 : decode cX2_wordOf 9 = .ok (.iload_n 1, 1) := by decide +kernel
theorem dX2_wordOf_10 : decode cX2_wordOf 10 = .ok (.invokevirtual 40, 3) := by decide +kernel
theorem dX2_wordOf_13 : decode cX2_wordOf 13 = .ok (.invokestatic 48, 3) := by decide +kernel
theorem dX2_wordOf_16 : decode cX2_wordOf 16 = .ok (.if_icmp .lt 7, 3) := by decide +kernel
theorem dX2_wordOf_19 : decode cX2_wordOf 19 = .ok (.lconst 0, 1) := by decide +kernel
theorem dX2_wordOf_20 : decode cX2_wordOf 20 = .ok (.goto 20, 3) := by decide +kernel
theorem dX2_wordOf_23 : decode cX2_wordOf 23 = .ok (.aload_n 0, 1) := by decide +kernel
theorem dX2_wordOf_24 : decode cX2_wordOf 24 = .ok (.getfield 9, 3) := by decide +kernel
theorem dX2_wordOf_27 : decode cX2_wordOf 27 = .ok (.aload_n 0, 1) := by decide +kernel
theorem dX2_wordOf_28 : decode cX2_wordOf 28 = .ok (.getfield 9, 3) := by decide +kernel
theorem dX2_wordOf_31 : decode cX2_wordOf 31 = .ok (.iload_n 1, 1) := by decide +kernel
theorem dX2_wordOf_32 : decode cX2_wordOf 32 = .ok (.invokevirtual 21, 3) := by decide +kernel
theorem dX2_wordOf_35 : decode cX2_wordOf 35 = .ok (.iload_n 2, 1) := by decide +kernel
theorem dX2_wordOf_36 : decode cX2_wordOf 36 = .ok (.iadd, 1) := by decide +kernel
theorem dX2_wordOf_37 : decode cX2_wordOf 37 = .ok (.invokevirtual 25, 3) := by decide +kernel
theorem dX2_wordOf_40 : decode cX2_wordOf 40 = .ok (.lreturn, 1) := by decide +kernel
theorem dX2_shiftOf_0 : decode cX2_shiftOf 0 = .ok (.bipush 56, 2) := by decide +kernel
theorem dX2_shiftOf_2 : decode cX2_shiftOf 2 = .ok (.bipush 8, 2) := by decide +kernel
theorem dX2_shiftOf_4 : decode cX2_shiftOf 4 = .ok (.iload_n 0, 1) := by decide +kernel
theorem dX2_shiftOf_5 : decode cX2_shiftOf 5 = .ok (.bipush 7, 2) := by decide +kernel
theorem dX2_shiftOf_7 : decode cX2_shiftOf 7 = .ok (.iand, 1) := by decide +kernel
theorem dX2_shiftOf_8 : decode cX2_shiftOf 8 = .ok (.imul, 1) := by decide +kernel
theorem dX2_shiftOf_9 : decode cX2_shiftOf 9 = .ok (.isub, 1) := by decide +kernel
theorem dX2_shiftOf_10 : decode cX2_shiftOf 10 = .ok (.ireturn, 1) := by decide +kernel
