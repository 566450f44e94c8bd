theorem dX1_init_0 : decode cX1_init 0 = .ok (.aload_n 0, 1) := by decide +kernel
theorem dX1_init_1 : decode cX1_init 1 = .ok (.invokespecial 3, 3) := by decide +kernel
theorem dX1_init_4 : decode cX1_init 4 = .ok (.aload_n 0, 1) := by decide +kernel
theorem dX1_init_5 : decode cX1_init 5 = .ok (.aload_n 1, 1) := by decide +kernel
theorem dX1_init_6 : decode cX1_init 6 = .ok (.putfield 9, 3) := by decide +kernel
theorem dX1_init_9 : decode cX1_init 9 = .ok (.aload_n 0, 1) := by decide +kernel
theorem dX1_init_10 : decode cX1_init 10 = .ok (.aload_n 2, 1) := by decide +kernel
theorem dX1_init_11 : decode cX1_init 11 = .ok (.putfield 15, 3) := by decide +kernel
theorem dX1_init_14 : decode cX1_init 14 = .ok (.return_, 1) := by decide +kernel
theorem dX1_newMap_0 : decode cX1_newMap 0 = .ok (.bipush 8, 2) := by decide +kernel
theorem dX1_newMap_2 : decode cX1_newMap 2 = .ok (.iconst 3, 1) := by decide +kernel
theorem dX1_newMap_3 : decode cX1_newMap 3 = .ok (.iload_n 1, 1) := by decide +kernel
theorem dX1_newMap_4 : decode cX1_newMap 4 = .ok (.iadd, 1) := by decide +kernel
theorem dX1_newMap_5 : decode cX1_newMap 5 = .ok (.iload_n 2, 1) := by decide +kernel
theorem dX1_newMap_6 : decode cX1_newMap 6 = .ok (.iadd, 1) := by decide +kernel
theorem dX1_newMap_7 : decode cX1_newMap 7 = .ok (.imul, 1) := by decide +kernel
theorem dX1_newMap_8 : decode cX1_newMap 8 = .ok (.istore 4, 2) := by decide +kernel
theorem dX1_newMap_10 : decode cX1_newMap 10 = .ok (.aload_n 0, 1) := by decide +kernel
theorem dX1_newMap_11 : decode cX1_newMap 11 = .ok (.getfield 9, 3) := by decide +kernel
theorem dX1_newMap_14 : decode cX1_newMap 14 = .ok (.bipush 7, 2) := by decide +kernel
theorem dX1_newMap_16 : decode cX1_newMap 16 = .ok (.iload 4, 2) := by decide +kernel
theorem dX1_newMap_18 : decode cX1_newMap 18 = .ok (.iadd, 1) := by decide +kernel
theorem dX1_newMap_19 : decode cX1_newMap 19 = .ok (.invokevirtual 19, 3) := by decide +kernel
theorem dX1_newMap_22 : decode cX1_newMap 22 = .ok (.aload_n 0, 1) := by decide +kernel
theorem dX1_newMap_23 : decode cX1_newMap 23 = .ok (.getfield 9, 3) := by decide +kernel
theorem dX1_newMap_26 : decode cX1_newMap 26 = .ok (.iconst 4, 1) := by decide +kernel
theorem dX1_newMap_27 : decode cX1_newMap 27 = .ok (.iconst 5, 1) := by decide +kernel
theorem dX1_newMap_28 : decode cX1_newMap 28 = .ok (.invokevirtual 25, 3) := by decide +kernel
theorem dX1_newMap_31 : decode cX1_newMap 31 = .ok (.istore 5, 2) := by decide +kernel
theorem dX1_newMap_33 : decode cX1_newMap 33 = .ok (.aload_n 0, 1) := by decide +kernel
theorem dX1_newMap_34 : decode cX1_newMap 34 = .ok (.iload 5, 2) := by decide +kernel
theorem dX1_newMap_36 : decode cX1_newMap 36 = .ok (.iconst 1, 1) := by decide +kernel
theorem dX1_newMap_37 : decode cX1_newMap 37 = .ok (.iload_n 1, 1) := by decide +kernel
theorem dX1_newMap_38 : decode cX1_newMap 38 = .ok (.iload_n 2, 1) := by decide +kernel
theorem dX1_newMap_39 : decode cX1_newMap 39 = .ok (.iconst 3, 1) := by decide +kernel
theorem dX1_newMap_40 : decode cX1_newMap 40 = .ok (.ishl, 1) := by decide +kernel
theorem dX1_newMap_41 : decode cX1_newMap 41 = .ok (.ior, 1) := by decide +kernel
theorem dX1_newMap_42 : decode cX1_newMap 42 = .ok (.iload_n 3, 1) := by decide +kernel
theorem dX1_newMap_43 : decode cX1_newMap 43 = .ok (.bipush 6, 2) := by decide +kernel
theorem dX1_newMap_45 : decode cX1_newMap 45 = .ok (.ishl, 1) := by decide +kernel
theorem dX1_newMap_46 : decode cX1_newMap 46 = .ok (.ior, 1) := by decide +kernel
theorem dX1_newMap_47 : decode cX1_newMap 47 = .ok (.invokevirtual 29, 3) := by decide +kernel
theorem dX1_newMap_50 : decode cX1_newMap 50 = .ok (.aload_n 0, 1) := by decide +kernel
theorem dX1_newMap_51 : decode cX1_newMap 51 = .ok (.iload 5, 2) := by decide +kernel
theorem dX1_newMap_53 : decode cX1_newMap 53 = .ok (.aload_n 0, 1) := by decide +kernel
theorem dX1_newMap_54 : decode cX1_newMap 54 = .ok (.getfield 9, 3) := by decide +kernel
theorem dX1_newMap_57 : decode cX1_newMap 57 = .ok (.iconst 5, 1) := by decide +kernel
theorem dX1_newMap_58 : decode cX1_newMap 58 = .ok (.iload 4, 2) := by decide +kernel
theorem dX1_newMap_60 : decode cX1_newMap 60 = .ok (.invokevirtual 25, 3) := by decide +kernel
theorem dX1_newMap_63 : decode cX1_newMap 63 = .ok (.bipush 8, 2) := by decide +kernel
theorem dX1_newMap_65 : decode cX1_newMap 65 = .ok (.invokevirtual 33, 3) := by decide +kernel
theorem dX1_newMap_68 : decode cX1_newMap 68 = .ok (.iload 5, 2) := by decide +kernel
theorem dX1_newMap_70 : decode cX1_newMap 70 = .ok (.ireturn, 1) := by decide +kernel
theorem dX1_entries_0 : decode cX1_entries 0 = .ok (.aload_n 0, 1) := by decide +kernel
theorem dX1_entries_1 : decode cX1_entries 1 = .ok (.iload_n 1, 1) := by decide +kernel
theorem dX1_entries_2 : decode cX1_entries 2 = .ok (.iconst 2, 1) := by decide +kernel
theorem dX1_entries_3 : decode cX1_entries 3 = .ok (.invokevirtual 36, 3) := by decide +kernel
theorem dX1_entries_6 : decode cX1_entries 6 = .ok (.ireturn, 1) := by decide +kernel
theorem dX1_capacity_0 : decode cX1_capacity 0 = .ok (.aload_n 0, 1) := by decide +kernel
theorem dX1_capacity_1 : decode cX1_capacity 1 = .ok (.iload_n 1, 1) := by decide +kernel
theorem dX1_capacity_2 : decode cX1_capacity 2 = .ok (.iconst 1, 1) := by decide +kernel
theorem dX1_capacity_3 : decode cX1_capacity 3 = .ok (.invokevirtual 36, 3) := by decide +kernel
theorem dX1_capacity_6 : decode cX1_capacity 6 = .ok (.bipush 10, 2) := by decide +kernel
theorem dX1_capacity_8 : decode cX1_capacity 8 = .ok (.iushr, 1) := by decide +kernel
theorem dX1_capacity_9 : decode cX1_capacity 9 = .ok (.ireturn, 1) := by decide +kernel
theorem dX1_entryWords_0 : decode cX1_entryWords 0 = .ok (.aload_n 0, 1) := by decide +kernel
theorem dX1_entryWords_1 : decode cX1_entryWords 1 = .ok (.iload_n 1, 1) := by decide +kernel
theorem dX1_entryWords_2 : decode cX1_entryWords 2 = .ok (.iconst 1, 1) := by decide +kernel
theorem dX1_entryWords_3 : decode cX1_entryWords 3 = .ok (.invokevirtual 36, 3) := by decide +kernel
theorem dX1_entryWords_6 : decode cX1_entryWords 6 = .ok (.istore_n 2, 1) := by decide +kernel
theorem dX1_entryWords_7 : decode cX1_entryWords 7 = .ok (.iload_n 2, 1) := by decide +kernel
theorem dX1_entryWords_8 : decode cX1_entryWords 8 = .ok (.bipush 7, 2) := by decide +kernel
theorem dX1_entryWords_10 : decode cX1_entryWords 10 = .ok (.iand, 1) := by decide +kernel
theorem dX1_entryWords_11 : decode cX1_entryWords 11 = .ok (.iload_n 2, 1) := by decide +kernel
theorem dX1_entryWords_12 : decode cX1_entryWords 12 = .ok (.iconst 3, 1) := by decide +kernel
theorem dX1_entryWords_13 : decode cX1_entryWords 13 = .ok (.iushr, 1) := by decide +kernel
theorem dX1_entryWords_14 : decode cX1_entryWords 14 = .ok (.bipush 7, 2) := by decide +kernel
theorem dX1_entryWords_16 : decode cX1_entryWords 16 = .ok (.iand, 1) := by decide +kernel
theorem dX1_entryWords_17 : decode cX1_entryWords 17 = .ok (.iadd, 1) := by decide +kernel
theorem dX1_entryWords_18 : decode cX1_entryWords 18 = .ok (.ireturn, 1) := by decide +kernel
theorem dX1_hasTextualKey_0 : decode cX1_hasTextualKey 0 = .ok (.iconst 0, 1) := by decide +kernel
theorem dX1_hasTextualKey_1 : decode cX1_hasTextualKey 1 = .ok (.istore_n 3, 1) := by decide +kernel
theorem dX1_hasTextualKey_2 : decode cX1_hasTextualKey 2 = .ok (.iload_n 3, 1) := by decide +kernel
theorem dX1_hasTextualKey_3 : decode cX1_hasTextualKey 3 = .ok (.aload_n 0, 1) := by decide +kernel
theorem dX1_hasTextualKey_4 : decode cX1_hasTextualKey 4 = .ok (.iload_n 1, 1) := by decide +kernel
theorem dX1_hasTextualKey_5 : decode cX1_hasTextualKey 5 = .ok (.invokevirtual 39, 3) := by decide +kernel
theorem dX1_hasTextualKey_8 : decode cX1_hasTextualKey 8 = .ok (.if_icmp .ge 44, 3) := by decide +kernel
theorem dX1_hasTextualKey_11 : decode cX1_hasTextualKey 11 = .ok (.aload_n 0, 1) := by decide +kernel
theorem dX1_hasTextualKey_12 : decode cX1_hasTextualKey 12 = .ok (.getfield 9, 3) := by decide +kernel
theorem dX1_hasTextualKey_15 : decode cX1_hasTextualKey 15 = .ok (.iload_n 2, 1) := by decide +kernel
theorem dX1_hasTextualKey_16 : decode cX1_hasTextualKey 16 = .ok (.iload_n 3, 1) := by decide +kernel
theorem dX1_hasTextualKey_17 : decode cX1_hasTextualKey 17 = .ok (.iadd, 1) := by decide +kernel
theorem dX1_hasTextualKey_18 : decode cX1_hasTextualKey 18 = .ok (.invokevirtual 43, 3) := by decide +kernel
theorem dX1_hasTextualKey_21 : decode cX1_hasTextualKey 21 = .ok (.istore 4, 2) := by decide +kernel
theorem dX1_hasTextualKey_23 : decode cX1_hasTextualKey 23 = .ok (.aload_n 0, 1) := by decide +kernel
theorem dX1_hasTextualKey_24 : decode cX1_hasTextualKey 24 = .ok (.iload_n 1, 1) := by decide +kernel
theorem dX1_hasTextualKey_25 : decode cX1_hasTextualKey 25 = .ok (.iload_n 3, 1) := by decide +kernel
theorem dX1_hasTextualKey_26 : decode cX1_hasTextualKey 26 = .ok (.invokevirtual 46, 3) := by decide +kernel
theorem dX1_hasTextualKey_29 : decode cX1_hasTextualKey 29 = .ok (.ifCond .eq 17, 3) := by decide +kernel
theorem dX1_hasTextualKey_32 : decode cX1_hasTextualKey 32 = .ok (.iload 4, 2) := by decide +kernel
theorem dX1_hasTextualKey_34 : decode cX1_hasTextualKey 34 = .ok (.iconst 3, 1) := by decide +kernel
theorem dX1_hasTextualKey_35 : decode cX1_hasTextualKey 35 = .ok (.if_icmp .eq 11, 3) := by decide +kernel
theorem dX1_hasTextualKey_38 : decode cX1_hasTextualKey 38 = .ok (.iload 4, 2) := by decide +kernel
theorem dX1_hasTextualKey_40 : decode cX1_hasTextualKey 40 = .ok (.iconst 1, 1) := by decide +kernel
theorem dX1_hasTextualKey_41 : decode cX1_hasTextualKey 41 = .ok (.if_icmp .eq 5, 3) := by decide +kernel
theorem dX1_hasTextualKey_44 : decode cX1_hasTextualKey 44 = .ok (.iconst 0, 1) := by decide +kernel
theorem dX1_hasTextualKey_45 : decode cX1_hasTextualKey 45 = .ok (.ireturn, 1) := by decide +kernel
theorem dX1_hasTextualKey_46 : decode cX1_hasTextualKey 46 = .ok (.iinc 3 1, 3) := by decide +kernel
theorem dX1_hasTextualKey_49 : decode cX1_hasTextualKey 49 = .ok (.goto (-47), 3) := by decide +kernel
theorem dX1_hasTextualKey_52 : decode cX1_hasTextualKey 52 = .ok (.iconst 1, 1) := by decide +kernel
theorem dX1_hasTextualKey_53 : decode cX1_hasTextualKey 53 = .ok (.ireturn, 1) := by decide +kernel
theorem dX1_enter_0 : decode cX1_enter 0 = .ok (.aload_n 0, 1) := by decide +kernel
theorem dX1_enter_1 : decode cX1_enter 1 = .ok (.iload_n 1, 1) := by decide +kernel
theorem dX1_enter_2 : decode cX1_enter 2 = .ok (.aload_n 0, 1) := by decide +kernel
theorem dX1_enter_3 : decode cX1_enter 3 = .ok (.getfield 9, 3) := by decide +kernel
theorem dX1_enter_6 : decode cX1_enter 6 = .ok (.iload_n 2, 1) := by decide +kernel
theorem dX1_enter_7 : decode cX1_enter 7 = .ok (.invokevirtual 50, 3) := by decide +kernel
theorem dX1_enter_10 : decode cX1_enter 10 = .ok (.iload_n 3, 1) := by decide +kernel
theorem dX1_enter_11 : decode cX1_enter 11 = .ok (.iadd, 1) := by decide +kernel
theorem dX1_enter_12 : decode cX1_enter 12 = .ok (.invokevirtual 53, 3) := by decide +kernel
theorem dX1_enter_15 : decode cX1_enter 15 = .ok (.istore 4, 2) := by decide +kernel
theorem dX1_enter_17 : decode cX1_enter 17 = .ok (.iload 4, 2) := by decide +kernel
theorem dX1_enter_19 : decode cX1_enter 19 = .ok (.iconst (-1), 1) := by decide +kernel
theorem dX1_enter_20 : decode cX1_enter 20 = .ok (.if_icmp .eq 49, 3) := by decide +kernel
theorem dX1_enter_23 : decode cX1_enter 23 = .ok (.aload_n 0, 1) := by decide +kernel
theorem dX1_enter_24 : decode cX1_enter 24 = .ok (.iload_n 1, 1) := by decide +kernel
theorem dX1_enter_25 : decode cX1_enter 25 = .ok (.invokevirtual 39, 3) := by decide +kernel
theorem dX1_enter_28 : decode cX1_enter 28 = .ok (.istore 5, 2) := by decide +kernel
theorem dX1_enter_30 : decode cX1_enter 30 = .ok (.aload_n 0, 1) := by decide +kernel
theorem dX1_enter_31 : decode cX1_enter 31 = .ok (.getfield 9, 3) := by decide +kernel
theorem dX1_enter_34 : decode cX1_enter 34 = .ok (.iload 4, 2) := by decide +kernel
theorem dX1_enter_36 : decode cX1_enter 36 = .ok (.iconst 3, 1) := by decide +kernel
theorem dX1_enter_37 : decode cX1_enter 37 = .ok (.iadd, 1) := by decide +kernel
theorem dX1_enter_38 : decode cX1_enter 38 = .ok (.iload 5, 2) := by decide +kernel
theorem dX1_enter_40 : decode cX1_enter 40 = .ok (.iadd, 1) := by decide +kernel
theorem dX1_enter_41 : decode cX1_enter 41 = .ok (.aload_n 0, 1) := by decide +kernel
theorem dX1_enter_42 : decode cX1_enter 42 = .ok (.getfield 9, 3) := by decide +kernel
theorem dX1_enter_45 : decode cX1_enter 45 = .ok (.iload_n 2, 1) := by decide +kernel
theorem dX1_enter_46 : decode cX1_enter 46 = .ok (.invokevirtual 50, 3) := by decide +kernel
theorem dX1_enter_49 : decode cX1_enter 49 = .ok (.iload_n 3, 1) := by decide +kernel
theorem dX1_enter_50 : decode cX1_enter 50 = .ok (.iadd, 1) := by decide +kernel
theorem dX1_enter_51 : decode cX1_enter 51 = .ok (.iload 5, 2) := by decide +kernel
theorem dX1_enter_53 : decode cX1_enter 53 = .ok (.iadd, 1) := by decide +kernel
theorem dX1_enter_54 : decode cX1_enter 54 = .ok (.aload_n 0, 1) := by decide +kernel
theorem dX1_enter_55 : decode cX1_enter 55 = .ok (.iload_n 1, 1) := by decide +kernel
theorem dX1_enter_56 : decode cX1_enter 56 = .ok (.invokevirtual 56, 3) := by decide +kernel
theorem dX1_enter_59 : decode cX1_enter 59 = .ok (.invokevirtual 59, 3) := by decide +kernel
theorem dX1_enter_62 : decode cX1_enter 62 = .ok (.aload_n 0, 1) := by decide +kernel
theorem dX1_enter_63 : decode cX1_enter 63 = .ok (.iload 4, 2) := by decide +kernel
theorem dX1_enter_65 : decode cX1_enter 65 = .ok (.invokevirtual 62, 3) := by decide +kernel
theorem dX1_enter_68 : decode cX1_enter 68 = .ok (.ireturn, 1) := by decide +kernel
theorem dX1_enter_69 : decode cX1_enter 69 = .ok (.aload_n 0, 1) := by decide +kernel
theorem dX1_enter_70 : decode cX1_enter 70 = .ok (.iload_n 1, 1) := by decide +kernel
theorem dX1_enter_71 : decode cX1_enter 71 = .ok (.iconst 4, 1) := by decide +kernel
theorem dX1_enter_72 : decode cX1_enter 72 = .ok (.invokevirtual 36, 3) := by decide +kernel
theorem dX1_enter_75 : decode cX1_enter 75 = .ok (.aload_n 0, 1) := by decide +kernel
theorem dX1_enter_76 : decode cX1_enter 76 = .ok (.iload_n 1, 1) := by decide +kernel
theorem dX1_enter_77 : decode cX1_enter 77 = .ok (.invokevirtual 65, 3) := by decide +kernel
theorem dX1_enter_80 : decode cX1_enter 80 = .ok (.if_icmp .lt 33, 3) := by decide +kernel
theorem dX1_enter_83 : decode cX1_enter 83 = .ok (.aload_n 0, 1) := by decide +kernel
theorem dX1_enter_84 : decode cX1_enter 84 = .ok (.iload_n 1, 1) := by decide +kernel
theorem dX1_enter_85 : decode cX1_enter 85 = .ok (.invokevirtual 68, 3) := by decide +kernel
theorem dX1_enter_88 : decode cX1_enter 88 = .ok (.istore 5, 2) := by decide +kernel
theorem dX1_enter_90 : decode cX1_enter 90 = .ok (.aload_n 0, 1) := by decide +kernel
theorem dX1_enter_91 : decode cX1_enter 91 = .ok (.iload_n 1, 1) := by decide +kernel
theorem dX1_enter_92 : decode cX1_enter 92 = .ok (.aload_n 0, 1) := by decide +kernel
theorem dX1_enter_93 : decode cX1_enter 93 = .ok (.getfield 9, 3) := by decide +kernel
theorem dX1_enter_96 : decode cX1_enter 96 = .ok (.iconst 5, 1) := by decide +kernel
theorem dX1_enter_97 : decode cX1_enter 97 = .ok (.iload 5, 2) := by decide +kernel
theorem dX1_enter_99 : decode cX1_enter 99 = .ok (.aload_n 0, 1) := by decide +kernel
theorem dX1_enter_100 : decode cX1_enter 100 = .ok (.iload_n 1, 1) := by decide +kernel
theorem dX1_enter_101 : decode cX1_enter 101 = .ok (.invokevirtual 71, 3) := by decide +kernel
theorem dX1_enter_104 : decode cX1_enter 104 = .ok (.imul, 1) := by decide +kernel
theorem dX1_enter_105 : decode cX1_enter 105 = .ok (.invokevirtual 74, 3) := by decide +kernel
theorem dX1_enter_108 : decode cX1_enter 108 = .ok (.iload 5, 2) := by decide +kernel
theorem dX1_enter_110 : decode cX1_enter 110 = .ok (.invokevirtual 77, 3) := by decide +kernel
theorem dX1_enter_113 : decode cX1_enter 113 = .ok (.aload_n 0, 1) := by decide +kernel
theorem dX1_enter_114 : decode cX1_enter 114 = .ok (.iload_n 1, 1) := by decide +kernel
theorem dX1_enter_115 : decode cX1_enter 115 = .ok (.aload_n 0, 1) := by decide +kernel
theorem dX1_enter_116 : decode cX1_enter 116 = .ok (.getfield 9, 3) := by decide +kernel
theorem dX1_enter_119 : decode cX1_enter 119 = .ok (.iload_n 2, 1) := by decide +kernel
theorem dX1_enter_120 : decode cX1_enter 120 = .ok (.invokevirtual 50, 3) := by decide +kernel
theorem dX1_enter_123 : decode cX1_enter 123 = .ok (.iload_n 3, 1) := by decide +kernel
theorem dX1_enter_124 : decode cX1_enter 124 = .ok (.iadd, 1) := by decide +kernel
theorem dX1_enter_125 : decode cX1_enter 125 = .ok (.invokevirtual 80, 3) := by decide +kernel
theorem dX1_enter_128 : decode cX1_enter 128 = .ok (.ireturn, 1) := by decide +kernel
theorem dX1_fetch_0 : decode cX1_fetch 0 = .ok (.aload_n 0, 1) := by decide +kernel
theorem dX1_fetch_1 : decode cX1_fetch 1 = .ok (.iload_n 1, 1) := by decide +kernel
theorem dX1_fetch_2 : decode cX1_fetch 2 = .ok (.iload_n 2, 1) := by decide +kernel
theorem dX1_fetch_3 : decode cX1_fetch 3 = .ok (.invokevirtual 53, 3) := by decide +kernel
theorem dX1_fetch_6 : decode cX1_fetch 6 = .ok (.istore_n 3, 1) := by decide +kernel
theorem dX1_fetch_7 : decode cX1_fetch 7 = .ok (.iload_n 3, 1) := by decide +kernel
theorem dX1_fetch_8 : decode cX1_fetch 8 = .ok (.iconst (-1), 1) := by decide +kernel
theorem dX1_fetch_9 : decode cX1_fetch 9 = .ok (.if_icmp .ne 5, 3) := by decide +kernel
theorem dX1_fetch_12 : decode cX1_fetch 12 = .ok (.iconst (-1), 1) := by decide +kernel
theorem dX1_fetch_13 : decode cX1_fetch 13 = .ok (.ireturn, 1) := by decide +kernel
theorem dX1_fetch_14 : decode cX1_fetch 14 = .ok (.aload_n 0, 1) := by decide +kernel
theorem dX1_fetch_15 : decode cX1_fetch 15 = .ok (.iload_n 1, 1) := by decide +kernel
theorem dX1_fetch_16 : decode cX1_fetch 16 = .ok (.invokevirtual 39, 3) := by decide +kernel
theorem dX1_fetch_19 : decode cX1_fetch 19 = .ok (.istore 4, 2) := by decide +kernel
theorem dX1_fetch_21 : decode cX1_fetch 21 = .ok (.aload_n 0, 1) := by decide +kernel
theorem dX1_fetch_22 : decode cX1_fetch 22 = .ok (.getfield 9, 3) := by decide +kernel
theorem dX1_fetch_25 : decode cX1_fetch 25 = .ok (.iload_n 2, 1) := by decide +kernel
theorem dX1_fetch_26 : decode cX1_fetch 26 = .ok (.iload 4, 2) := by decide +kernel
theorem dX1_fetch_28 : decode cX1_fetch 28 = .ok (.iadd, 1) := by decide +kernel
theorem dX1_fetch_29 : decode cX1_fetch 29 = .ok (.iload_n 3, 1) := by decide +kernel
theorem dX1_fetch_30 : decode cX1_fetch 30 = .ok (.iconst 3, 1) := by decide +kernel
theorem dX1_fetch_31 : decode cX1_fetch 31 = .ok (.iadd, 1) := by decide +kernel
theorem dX1_fetch_32 : decode cX1_fetch 32 = .ok (.iload 4, 2) := by decide +kernel
theorem dX1_fetch_34 : decode cX1_fetch 34 = .ok (.iadd, 1) := by decide +kernel
theorem dX1_fetch_35 : decode cX1_fetch 35 = .ok (.aload_n 0, 1) := by decide +kernel
theorem dX1_fetch_36 : decode cX1_fetch 36 = .ok (.iload_n 1, 1) := by decide +kernel
theorem dX1_fetch_37 : decode cX1_fetch 37 = .ok (.invokevirtual 56, 3) := by decide +kernel
theorem dX1_fetch_40 : decode cX1_fetch 40 = .ok (.invokevirtual 59, 3) := by decide +kernel
theorem dX1_fetch_43 : decode cX1_fetch 43 = .ok (.aload_n 0, 1) := by decide +kernel
theorem dX1_fetch_44 : decode cX1_fetch 44 = .ok (.iload_n 3, 1) := by decide +kernel
theorem dX1_fetch_45 : decode cX1_fetch 45 = .ok (.invokevirtual 62, 3) := by decide +kernel
theorem dX1_fetch_48 : decode cX1_fetch 48 = .ok (.ireturn, 1) := by decide +kernel
theorem dX1_erase_0 : decode cX1_erase 0 = .ok (.aload_n 0, 1) := by decide +kernel
theorem dX1_erase_1 : decode cX1_erase 1 = .ok (.iload_n 1, 1) := by decide +kernel
theorem dX1_erase_2 : decode cX1_erase 2 = .ok (.iload_n 2, 1) := by decide +kernel
theorem dX1_erase_3 : decode cX1_erase 3 = .ok (.invokevirtual 53, 3) := by decide +kernel
theorem dX1_erase_6 : decode cX1_erase 6 = .ok (.istore_n 3, 1) := by decide +kernel
theorem dX1_erase_7 : decode cX1_erase 7 = .ok (.iload_n 3, 1) := by decide +kernel
theorem dX1_erase_8 : decode cX1_erase 8 = .ok (.iconst (-1), 1) := by decide +kernel
theorem dX1_erase_9 : decode cX1_erase 9 = .ok (.if_icmp .ne 5, 3) := by decide +kernel
theorem dX1_erase_12 : decode cX1_erase 12 = .ok (.iconst (-1), 1) := by decide +kernel
theorem dX1_erase_13 : decode cX1_erase 13 = .ok (.ireturn, 1) := by decide +kernel
theorem dX1_erase_14 : decode cX1_erase 14 = .ok (.aload_n 0, 1) := by decide +kernel
theorem dX1_erase_15 : decode cX1_erase 15 = .ok (.iload_n 3, 1) := by decide +kernel
theorem dX1_erase_16 : decode cX1_erase 16 = .ok (.invokevirtual 62, 3) := by decide +kernel
theorem dX1_erase_19 : decode cX1_erase 19 = .ok (.istore 4, 2) := by decide +kernel
theorem dX1_erase_21 : decode cX1_erase 21 = .ok (.aload_n 0, 1) := by decide +kernel
theorem dX1_erase_22 : decode cX1_erase 22 = .ok (.getfield 9, 3) := by decide +kernel
theorem dX1_erase_25 : decode cX1_erase 25 = .ok (.iload_n 3, 1) := by decide +kernel
theorem dX1_erase_26 : decode cX1_erase 26 = .ok (.aload_n 0, 1) := by decide +kernel
theorem dX1_erase_27 : decode cX1_erase 27 = .ok (.iload_n 1, 1) := by decide +kernel
theorem dX1_erase_28 : decode cX1_erase 28 = .ok (.invokevirtual 71, 3) := by decide +kernel
theorem dX1_erase_31 : decode cX1_erase 31 = .ok (.invokevirtual 83, 3) := by decide +kernel
theorem dX1_erase_34 : decode cX1_erase 34 = .ok (.aload_n 0, 1) := by decide +kernel
theorem dX1_erase_35 : decode cX1_erase 35 = .ok (.iload_n 1, 1) := by decide +kernel
theorem dX1_erase_36 : decode cX1_erase 36 = .ok (.iconst 2, 1) := by decide +kernel
theorem dX1_erase_37 : decode cX1_erase 37 = .ok (.aload_n 0, 1) := by decide +kernel
theorem dX1_erase_38 : decode cX1_erase 38 = .ok (.iload_n 1, 1) := by decide +kernel
theorem dX1_erase_39 : decode cX1_erase 39 = .ok (.invokevirtual 87, 3) := by decide +kernel
theorem dX1_erase_42 : decode cX1_erase 42 = .ok (.iconst 1, 1) := by decide +kernel
theorem dX1_erase_43 : decode cX1_erase 43 = .ok (.isub, 1) := by decide +kernel
theorem dX1_erase_44 : decode cX1_erase 44 = .ok (.invokevirtual 29, 3) := by decide +kernel
theorem dX1_erase_47 : decode cX1_erase 47 = .ok (.iload 4, 2) := by decide +kernel
theorem dX1_erase_49 : decode cX1_erase 49 = .ok (.ireturn, 1) := by decide +kernel
theorem dX1_slotFrom_0 : decode cX1_slotFrom 0 = .ok (.aload_n 0, 1) := by decide +kernel
theorem dX1_slotFrom_1 : decode cX1_slotFrom 1 = .ok (.iload_n 1, 1) := by decide +kernel
theorem dX1_slotFrom_2 : decode cX1_slotFrom 2 = .ok (.invokevirtual 71, 3) := by decide +kernel
theorem dX1_slotFrom_5 : decode cX1_slotFrom 5 = .ok (.istore_n 3, 1) := by decide +kernel
theorem dX1_slotFrom_6 : decode cX1_slotFrom 6 = .ok (.aload_n 0, 1) := by decide +kernel
theorem dX1_slotFrom_7 : decode cX1_slotFrom 7 = .ok (.iload_n 1, 1) := by decide +kernel
theorem dX1_slotFrom_8 : decode cX1_slotFrom 8 = .ok (.iload_n 3, 1) := by decide +kernel
theorem dX1_slotFrom_9 : decode cX1_slotFrom 9 = .ok (.invokevirtual 90, 3) := by decide +kernel
theorem dX1_slotFrom_12 : decode cX1_slotFrom 12 = .ok (.istore 4, 2) := by decide +kernel
theorem dX1_slotFrom_14 : decode cX1_slotFrom 14 = .ok (.aload_n 0, 1) := by decide +kernel
theorem dX1_slotFrom_15 : decode cX1_slotFrom 15 = .ok (.iload_n 1, 1) := by decide +kernel
theorem dX1_slotFrom_16 : decode cX1_slotFrom 16 = .ok (.invokevirtual 93, 3) := by decide +kernel
theorem dX1_slotFrom_19 : decode cX1_slotFrom 19 = .ok (.istore 5, 2) := by decide +kernel
theorem dX1_slotFrom_21 : decode cX1_slotFrom 21 = .ok (.iload 5, 2) := by decide +kernel
theorem dX1_slotFrom_23 : decode cX1_slotFrom 23 = .ok (.iload 4, 2) := by decide +kernel
theorem dX1_slotFrom_25 : decode cX1_slotFrom 25 = .ok (.if_icmp .ge 35, 3) := by decide +kernel
theorem dX1_slotFrom_28 : decode cX1_slotFrom 28 = .ok (.aload_n 0, 1) := by decide +kernel
theorem dX1_slotFrom_29 : decode cX1_slotFrom 29 = .ok (.iload 5, 2) := by decide +kernel
theorem dX1_slotFrom_31 : decode cX1_slotFrom 31 = .ok (.invokevirtual 62, 3) := by decide +kernel
theorem dX1_slotFrom_34 : decode cX1_slotFrom 34 = .ok (.iconst (-1), 1) := by decide +kernel
theorem dX1_slotFrom_35 : decode cX1_slotFrom 35 = .ok (.if_icmp .eq 16, 3) := by decide +kernel
theorem dX1_slotFrom_38 : decode cX1_slotFrom 38 = .ok (.aload_n 0, 1) := by decide +kernel
theorem dX1_slotFrom_39 : decode cX1_slotFrom 39 = .ok (.iload 5, 2) := by decide +kernel
theorem dX1_slotFrom_41 : decode cX1_slotFrom 41 = .ok (.invokevirtual 62, 3) := by decide +kernel
theorem dX1_slotFrom_44 : decode cX1_slotFrom 44 = .ok (.iload_n 2, 1) := by decide +kernel
theorem dX1_slotFrom_45 : decode cX1_slotFrom 45 = .ok (.if_icmp .lt 6, 3) := by decide +kernel
theorem dX1_slotFrom_48 : decode cX1_slotFrom 48 = .ok (.iload 5, 2) := by decide +kernel
theorem dX1_slotFrom_50 : decode cX1_slotFrom 50 = .ok (.ireturn, 1) := by decide +kernel
theorem dX1_slotFrom_51 : decode cX1_slotFrom 51 = .ok (.iload 5, 2) := by decide +kernel
theorem dX1_slotFrom_53 : decode cX1_slotFrom 53 = .ok (.iload_n 3, 1) := by decide +kernel
theorem dX1_slotFrom_54 : decode cX1_slotFrom 54 = .ok (.iadd, 1) := by decide +kernel
theorem dX1_slotFrom_55 : decode cX1_slotFrom 55 = .ok (.istore 5, 2) := by decide +kernel
theorem dX1_slotFrom_57 : decode cX1_slotFrom 57 = .ok (.goto (-36), 3) := by decide +kernel
theorem dX1_slotFrom_60 : decode cX1_slotFrom 60 = .ok (.iconst (-1), 1) := by decide +kernel
theorem dX1_slotFrom_61 : decode cX1_slotFrom 61 = .ok (.ireturn, 1) := by decide +kernel
theorem dX1_readEntry_0 : decode cX1_readEntry 0 = .ok (.aload_n 0, 1) := by decide +kernel
theorem dX1_readEntry_1 : decode cX1_readEntry 1 = .ok (.getfield 9, 3) := by decide +kernel
theorem dX1_readEntry_4 : decode cX1_readEntry 4 = .ok (.iload_n 3, 1) := by decide +kernel
theorem dX1_readEntry_5 : decode cX1_readEntry 5 = .ok (.iload_n 2, 1) := by decide +kernel
theorem dX1_readEntry_6 : decode cX1_readEntry 6 = .ok (.iconst 3, 1) := by decide +kernel
theorem dX1_readEntry_7 : decode cX1_readEntry 7 = .ok (.iadd, 1) := by decide +kernel
theorem dX1_readEntry_8 : decode cX1_readEntry 8 = .ok (.aload_n 0, 1) := by decide +kernel
theorem dX1_readEntry_9 : decode cX1_readEntry 9 = .ok (.iload_n 1, 1) := by decide +kernel
theorem dX1_readEntry_10 : decode cX1_readEntry 10 = .ok (.invokevirtual 96, 3) := by decide +kernel
theorem dX1_readEntry_13 : decode cX1_readEntry 13 = .ok (.invokevirtual 59, 3) := by decide +kernel
theorem dX1_readEntry_16 : decode cX1_readEntry 16 = .ok (.return_, 1) := by decide +kernel
theorem dX1_orderIn_0 : decode cX1_orderIn 0 = .ok (.aload_n 0, 1) := by decide +kernel
theorem dX1_orderIn_1 : decode cX1_orderIn 1 = .ok (.getfield 9, 3) := by decide +kernel
theorem dX1_orderIn_4 : decode cX1_orderIn 4 = .ok (.iload_n 1, 1) := by decide +kernel
theorem dX1_orderIn_5 : decode cX1_orderIn 5 = .ok (.invokevirtual 99, 3) := by decide +kernel
theorem dX1_orderIn_8 : decode cX1_orderIn 8 = .ok (.l2i, 1) := by decide +kernel
theorem dX1_orderIn_9 : decode cX1_orderIn 9 = .ok (.iconst 1, 1) := by decide +kernel
theorem dX1_orderIn_10 : decode cX1_orderIn 10 = .ok (.isub, 1) := by decide +kernel
theorem dX1_orderIn_11 : decode cX1_orderIn 11 = .ok (.ireturn, 1) := by decide +kernel
theorem dX1_slotOfKey_0 : decode cX1_slotOfKey 0 = .ok (.aload_n 0, 1) := by decide +kernel
theorem dX1_slotOfKey_1 : decode cX1_slotOfKey 1 = .ok (.iload_n 1, 1) := by decide +kernel
theorem dX1_slotOfKey_2 : decode cX1_slotOfKey 2 = .ok (.invokevirtual 71, 3) := by decide +kernel
theorem dX1_slotOfKey_5 : decode cX1_slotOfKey 5 = .ok (.istore_n 3, 1) := by decide +kernel
theorem dX1_slotOfKey_6 : decode cX1_slotOfKey 6 = .ok (.aload_n 0, 1) := by decide +kernel
theorem dX1_slotOfKey_7 : decode cX1_slotOfKey 7 = .ok (.iload_n 1, 1) := by decide +kernel
theorem dX1_slotOfKey_8 : decode cX1_slotOfKey 8 = .ok (.iload_n 3, 1) := by decide +kernel
theorem dX1_slotOfKey_9 : decode cX1_slotOfKey 9 = .ok (.invokevirtual 90, 3) := by decide +kernel
theorem dX1_slotOfKey_12 : decode cX1_slotOfKey 12 = .ok (.istore 4, 2) := by decide +kernel
theorem dX1_slotOfKey_14 : decode cX1_slotOfKey 14 = .ok (.aload_n 0, 1) := by decide +kernel
theorem dX1_slotOfKey_15 : decode cX1_slotOfKey 15 = .ok (.iload_n 1, 1) := by decide +kernel
theorem dX1_slotOfKey_16 : decode cX1_slotOfKey 16 = .ok (.invokevirtual 93, 3) := by decide +kernel
theorem dX1_slotOfKey_19 : decode cX1_slotOfKey 19 = .ok (.istore 5, 2) := by decide +kernel
theorem dX1_slotOfKey_21 : decode cX1_slotOfKey 21 = .ok (.iload 5, 2) := by decide +kernel
theorem dX1_slotOfKey_23 : decode cX1_slotOfKey 23 = .ok (.iload 4, 2) := by decide +kernel
theorem dX1_slotOfKey_25 : decode cX1_slotOfKey 25 = .ok (.if_icmp .ge 38, 3) := by decide +kernel
theorem dX1_slotOfKey_28 : decode cX1_slotOfKey 28 = .ok (.aload_n 0, 1) := by decide +kernel
theorem dX1_slotOfKey_29 : decode cX1_slotOfKey 29 = .ok (.iload 5, 2) := by decide +kernel
theorem dX1_slotOfKey_31 : decode cX1_slotOfKey 31 = .ok (.invokevirtual 62, 3) := by decide +kernel
theorem dX1_slotOfKey_34 : decode cX1_slotOfKey 34 = .ok (.iconst (-1), 1) := by decide +kernel
theorem dX1_slotOfKey_35 : decode cX1_slotOfKey 35 = .ok (.if_icmp .eq 19, 3) := by decide +kernel
theorem dX1_slotOfKey_38 : decode cX1_slotOfKey 38 = .ok (.aload_n 0, 1) := by decide +kernel
theorem dX1_slotOfKey_39 : decode cX1_slotOfKey 39 = .ok (.iload_n 1, 1) := by decide +kernel
theorem dX1_slotOfKey_40 : decode cX1_slotOfKey 40 = .ok (.iload 5, 2) := by decide +kernel
theorem dX1_slotOfKey_42 : decode cX1_slotOfKey 42 = .ok (.iconst 3, 1) := by decide +kernel
theorem dX1_slotOfKey_43 : decode cX1_slotOfKey 43 = .ok (.iadd, 1) := by decide +kernel
theorem dX1_slotOfKey_44 : decode cX1_slotOfKey 44 = .ok (.iload_n 2, 1) := by decide +kernel
theorem dX1_slotOfKey_45 : decode cX1_slotOfKey 45 = .ok (.invokevirtual 103, 3) := by decide +kernel
theorem dX1_slotOfKey_48 : decode cX1_slotOfKey 48 = .ok (.ifCond .eq 6, 3) := by decide +kernel
theorem dX1_slotOfKey_51 : decode cX1_slotOfKey 51 = .ok (.iload 5, 2) := by decide +kernel
theorem dX1_slotOfKey_53 : decode cX1_slotOfKey 53 = .ok (.ireturn, 1) := by decide +kernel
theorem dX1_slotOfKey_54 : decode cX1_slotOfKey 54 = .ok (.iload 5, 2) := by decide +kernel
theorem dX1_slotOfKey_56 : decode cX1_slotOfKey 56 = .ok (.iload_n 3, 1) := by decide +kernel
theorem dX1_slotOfKey_57 : decode cX1_slotOfKey 57 = .ok (.iadd, 1) := by decide +kernel
theorem dX1_slotOfKey_58 : decode cX1_slotOfKey 58 = .ok (.istore 5, 2) := by decide +kernel
theorem dX1_slotOfKey_60 : decode cX1_slotOfKey 60 = .ok (.goto (-39), 3) := by decide +kernel
theorem dX1_slotOfKey_63 : decode cX1_slotOfKey 63 = .ok (.iconst (-1), 1) := by decide +kernel
theorem dX1_slotOfKey_64 : decode cX1_slotOfKey 64 = .ok (.ireturn, 1) := by decide +kernel
theorem dX1_alikeKeys_0 : decode cX1_alikeKeys 0 = .ok (.iconst 0, 1) := by decide +kernel
theorem dX1_alikeKeys_1 : decode cX1_alikeKeys 1 = .ok (.istore 4, 2) := by decide +kernel
theorem dX1_alikeKeys_3 : decode cX1_alikeKeys 3 = .ok (.iload 4, 2) := by decide +kernel
theorem dX1_alikeKeys_5 : decode cX1_alikeKeys 5 = .ok (.aload_n 0, 1) := by decide +kernel
theorem dX1_alikeKeys_6 : decode cX1_alikeKeys 6 = .ok (.iload_n 1, 1) := by decide +kernel
theorem dX1_alikeKeys_7 : decode cX1_alikeKeys 7 = .ok (.invokevirtual 39, 3) := by decide +kernel
theorem dX1_alikeKeys_10 : decode cX1_alikeKeys 10 = .ok (.if_icmp .ge 75, 3) := by decide +kernel
theorem dX1_alikeKeys_13 : decode cX1_alikeKeys 13 = .ok (.aload_n 0, 1) := by decide +kernel
theorem dX1_alikeKeys_14 : decode cX1_alikeKeys 14 = .ok (.iload_n 1, 1) := by decide +kernel
theorem dX1_alikeKeys_15 : decode cX1_alikeKeys 15 = .ok (.iload 4, 2) := by decide +kernel
theorem dX1_alikeKeys_17 : decode cX1_alikeKeys 17 = .ok (.invokevirtual 46, 3) := by decide +kernel
theorem dX1_alikeKeys_20 : decode cX1_alikeKeys 20 = .ok (.ifCond .eq 35, 3) := by decide +kernel
theorem dX1_alikeKeys_23 : decode cX1_alikeKeys 23 = .ok (.aload_n 0, 1) := by decide +kernel
theorem dX1_alikeKeys_24 : decode cX1_alikeKeys 24 = .ok (.getfield 15, 3) := by decide +kernel
theorem dX1_alikeKeys_27 : decode cX1_alikeKeys 27 = .ok (.aload_n 0, 1) := by decide +kernel
theorem dX1_alikeKeys_28 : decode cX1_alikeKeys 28 = .ok (.getfield 9, 3) := by decide +kernel
theorem dX1_alikeKeys_31 : decode cX1_alikeKeys 31 = .ok (.iload_n 2, 1) := by decide +kernel
theorem dX1_alikeKeys_32 : decode cX1_alikeKeys 32 = .ok (.iload 4, 2) := by decide +kernel
theorem dX1_alikeKeys_34 : decode cX1_alikeKeys 34 = .ok (.iadd, 1) := by decide +kernel
theorem dX1_alikeKeys_35 : decode cX1_alikeKeys 35 = .ok (.invokevirtual 107, 3) := by decide +kernel
theorem dX1_alikeKeys_38 : decode cX1_alikeKeys 38 = .ok (.aload_n 0, 1) := by decide +kernel
theorem dX1_alikeKeys_39 : decode cX1_alikeKeys 39 = .ok (.getfield 9, 3) := by decide +kernel
theorem dX1_alikeKeys_42 : decode cX1_alikeKeys 42 = .ok (.iload_n 3, 1) := by decide +kernel
theorem dX1_alikeKeys_43 : decode cX1_alikeKeys 43 = .ok (.iload 4, 2) := by decide +kernel
theorem dX1_alikeKeys_45 : decode cX1_alikeKeys 45 = .ok (.iadd, 1) := by decide +kernel
theorem dX1_alikeKeys_46 : decode cX1_alikeKeys 46 = .ok (.invokevirtual 107, 3) := by decide +kernel
theorem dX1_alikeKeys_49 : decode cX1_alikeKeys 49 = .ok (.invokevirtual 110, 3) := by decide +kernel
theorem dX1_alikeKeys_52 : decode cX1_alikeKeys 52 = .ok (.goto 18, 3) := by decide +kernel
theorem dX1_alikeKeys_55 : decode cX1_alikeKeys 55 = .ok (.aload_n 0, 1) := by decide +kernel
theorem dX1_alikeKeys_56 : decode cX1_alikeKeys 56 = .ok (.getfield 9, 3) := by decide +kernel
theorem dX1_alikeKeys_59 : decode cX1_alikeKeys 59 = .ok (.iload_n 2, 1) := by decide +kernel
theorem dX1_alikeKeys_60 : decode cX1_alikeKeys 60 = .ok (.iload 4, 2) := by decide +kernel
theorem dX1_alikeKeys_62 : decode cX1_alikeKeys 62 = .ok (.iadd, 1) := by decide +kernel
theorem dX1_alikeKeys_63 : decode cX1_alikeKeys 63 = .ok (.iload_n 3, 1) := by decide +kernel
theorem dX1_alikeKeys_64 : decode cX1_alikeKeys 64 = .ok (.iload 4, 2) := by decide +kernel
theorem dX1_alikeKeys_66 : decode cX1_alikeKeys 66 = .ok (.iadd, 1) := by decide +kernel
theorem dX1_alikeKeys_67 : decode cX1_alikeKeys 67 = .ok (.invokevirtual 115, 3) := by decide +kernel
theorem dX1_alikeKeys_70 : decode cX1_alikeKeys 70 = .ok (.istore 5, 2) := by decide +kernel
theorem dX1_alikeKeys_72 : decode cX1_alikeKeys 72 = .ok (.iload 5, 2) := by decide +kernel
theorem dX1_alikeKeys_74 : decode cX1_alikeKeys 74 = .ok (.ifCond .ne 5, 3) := by decide +kernel
theorem dX1_alikeKeys_77 : decode cX1_alikeKeys 77 = .ok (.iconst 0, 1) := by decide +kernel
theorem dX1_alikeKeys_78 : decode cX1_alikeKeys 78 = .ok (.ireturn, 1) := by decide +kernel
theorem dX1_alikeKeys_79 : decode cX1_alikeKeys 79 = .ok (.iinc 4 1, 3) := by decide +kernel
theorem dX1_alikeKeys_82 : decode cX1_alikeKeys 82 = .ok (.goto (-79), 3) := by decide +kernel
theorem dX1_alikeKeys_85 : decode cX1_alikeKeys 85 = .ok (.iconst 1, 1) := by decide +kernel
theorem dX1_alikeKeys_86 : decode cX1_alikeKeys 86 = .ok (.ireturn, 1) := by decide +kernel
theorem dX1_append_0 : decode cX1_append 0 = .ok (.aload_n 0, 1) := by decide +kernel
theorem dX1_append_1 : decode cX1_append 1 = .ok (.iload_n 1, 1) := by decide +kernel
theorem dX1_append_2 : decode cX1_append 2 = .ok (.aload_n 0, 1) := by decide +kernel
theorem dX1_append_3 : decode cX1_append 3 = .ok (.iload_n 1, 1) := by decide +kernel
theorem dX1_append_4 : decode cX1_append 4 = .ok (.invokevirtual 71, 3) := by decide +kernel
theorem dX1_append_7 : decode cX1_append 7 = .ok (.invokevirtual 90, 3) := by decide +kernel
theorem dX1_append_10 : decode cX1_append 10 = .ok (.istore_n 3, 1) := by decide +kernel
theorem dX1_append_11 : decode cX1_append 11 = .ok (.aload_n 0, 1) := by decide +kernel
theorem dX1_append_12 : decode cX1_append 12 = .ok (.iload_n 1, 1) := by decide +kernel
theorem dX1_append_13 : decode cX1_append 13 = .ok (.iconst 3, 1) := by decide +kernel
theorem dX1_append_14 : decode cX1_append 14 = .ok (.invokevirtual 36, 3) := by decide +kernel
theorem dX1_append_17 : decode cX1_append 17 = .ok (.istore 4, 2) := by decide +kernel
theorem dX1_append_19 : decode cX1_append 19 = .ok (.aload_n 0, 1) := by decide +kernel
theorem dX1_append_20 : decode cX1_append 20 = .ok (.getfield 9, 3) := by decide +kernel
theorem dX1_append_23 : decode cX1_append 23 = .ok (.iload_n 3, 1) := by decide +kernel
theorem dX1_append_24 : decode cX1_append 24 = .ok (.iload 4, 2) := by decide +kernel
theorem dX1_append_26 : decode cX1_append 26 = .ok (.iconst 1, 1) := by decide +kernel
theorem dX1_append_27 : decode cX1_append 27 = .ok (.iadd, 1) := by decide +kernel
theorem dX1_append_28 : decode cX1_append 28 = .ok (.i2l, 1) := by decide +kernel
theorem dX1_append_29 : decode cX1_append 29 = .ok (.invokevirtual 118, 3) := by decide +kernel
theorem dX1_append_32 : decode cX1_append 32 = .ok (.aload_n 0, 1) := by decide +kernel
theorem dX1_append_33 : decode cX1_append 33 = .ok (.getfield 9, 3) := by decide +kernel
theorem dX1_append_36 : decode cX1_append 36 = .ok (.iload_n 3, 1) := by decide +kernel
theorem dX1_append_37 : decode cX1_append 37 = .ok (.iconst 3, 1) := by decide +kernel
theorem dX1_append_38 : decode cX1_append 38 = .ok (.iadd, 1) := by decide +kernel
theorem dX1_append_39 : decode cX1_append 39 = .ok (.iload_n 2, 1) := by decide +kernel
theorem dX1_append_40 : decode cX1_append 40 = .ok (.aload_n 0, 1) := by decide +kernel
theorem dX1_append_41 : decode cX1_append 41 = .ok (.iload_n 1, 1) := by decide +kernel
theorem dX1_append_42 : decode cX1_append 42 = .ok (.invokevirtual 96, 3) := by decide +kernel
theorem dX1_append_45 : decode cX1_append 45 = .ok (.invokevirtual 59, 3) := by decide +kernel
theorem dX1_append_48 : decode cX1_append 48 = .ok (.aload_n 0, 1) := by decide +kernel
theorem dX1_append_49 : decode cX1_append 49 = .ok (.iload_n 1, 1) := by decide +kernel
theorem dX1_append_50 : decode cX1_append 50 = .ok (.iload_n 3, 1) := by decide +kernel
theorem dX1_append_51 : decode cX1_append 51 = .ok (.iconst 3, 1) := by decide +kernel
theorem dX1_append_52 : decode cX1_append 52 = .ok (.iadd, 1) := by decide +kernel
theorem dX1_append_53 : decode cX1_append 53 = .ok (.invokevirtual 122, 3) := by decide +kernel
theorem dX1_append_56 : decode cX1_append 56 = .ok (.aload_n 0, 1) := by decide +kernel
theorem dX1_append_57 : decode cX1_append 57 = .ok (.iload_n 1, 1) := by decide +kernel
theorem dX1_append_58 : decode cX1_append 58 = .ok (.iconst 4, 1) := by decide +kernel
theorem dX1_append_59 : decode cX1_append 59 = .ok (.aload_n 0, 1) := by decide +kernel
theorem dX1_append_60 : decode cX1_append 60 = .ok (.iload_n 1, 1) := by decide +kernel
theorem dX1_append_61 : decode cX1_append 61 = .ok (.iconst 4, 1) := by decide +kernel
theorem dX1_append_62 : decode cX1_append 62 = .ok (.invokevirtual 36, 3) := by decide +kernel
theorem dX1_append_65 : decode cX1_append 65 = .ok (.iconst 1, 1) := by decide +kernel
theorem dX1_append_66 : decode cX1_append 66 = .ok (.iadd, 1) := by decide +kernel
theorem dX1_append_67 : decode cX1_append 67 = .ok (.invokevirtual 29, 3) := by decide +kernel
theorem dX1_append_70 : decode cX1_append 70 = .ok (.aload_n 0, 1) := by decide +kernel
theorem dX1_append_71 : decode cX1_append 71 = .ok (.iload_n 1, 1) := by decide +kernel
theorem dX1_append_72 : decode cX1_append 72 = .ok (.iconst 3, 1) := by decide +kernel
theorem dX1_append_73 : decode cX1_append 73 = .ok (.iload 4, 2) := by decide +kernel
theorem dX1_append_75 : decode cX1_append 75 = .ok (.iconst 1, 1) := by decide +kernel
theorem dX1_append_76 : decode cX1_append 76 = .ok (.iadd, 1) := by decide +kernel
theorem dX1_append_77 : decode cX1_append 77 = .ok (.invokevirtual 29, 3) := by decide +kernel
theorem dX1_append_80 : decode cX1_append 80 = .ok (.aload_n 0, 1) := by decide +kernel
theorem dX1_append_81 : decode cX1_append 81 = .ok (.iload_n 1, 1) := by decide +kernel
theorem dX1_append_82 : decode cX1_append 82 = .ok (.iconst 2, 1) := by decide +kernel
theorem dX1_append_83 : decode cX1_append 83 = .ok (.aload_n 0, 1) := by decide +kernel
theorem dX1_append_84 : decode cX1_append 84 = .ok (.iload_n 1, 1) := by decide +kernel
theorem dX1_append_85 : decode cX1_append 85 = .ok (.invokevirtual 87, 3) := by decide +kernel
theorem dX1_append_88 : decode cX1_append 88 = .ok (.iconst 1, 1) := by decide +kernel
theorem dX1_append_89 : decode cX1_append 89 = .ok (.iadd, 1) := by decide +kernel
theorem dX1_append_90 : decode cX1_append 90 = .ok (.invokevirtual 29, 3) := by decide +kernel
theorem dX1_append_93 : decode cX1_append 93 = .ok (.iload 4, 2) := by decide +kernel
theorem dX1_append_95 : decode cX1_append 95 = .ok (.ireturn, 1) := by decide +kernel
theorem dX1_freezeTexts_0 : decode cX1_freezeTexts 0 = .ok (.iconst 0, 1) := by decide +kernel
theorem dX1_freezeTexts_1 : decode cX1_freezeTexts 1 = .ok (.istore_n 3, 1) := by decide +kernel
theorem dX1_freezeTexts_2 : decode cX1_freezeTexts 2 = .ok (.iload_n 3, 1) := by decide +kernel
theorem dX1_freezeTexts_3 : decode cX1_freezeTexts 3 = .ok (.aload_n 0, 1) := by decide +kernel
theorem dX1_freezeTexts_4 : decode cX1_freezeTexts 4 = .ok (.iload_n 1, 1) := by decide +kernel
theorem dX1_freezeTexts_5 : decode cX1_freezeTexts 5 = .ok (.invokevirtual 39, 3) := by decide +kernel
theorem dX1_freezeTexts_8 : decode cX1_freezeTexts 8 = .ok (.if_icmp .ge 44, 3) := by decide +kernel
theorem dX1_freezeTexts_11 : decode cX1_freezeTexts 11 = .ok (.aload_n 0, 1) := by decide +kernel
theorem dX1_freezeTexts_12 : decode cX1_freezeTexts 12 = .ok (.getfield 9, 3) := by decide +kernel
theorem dX1_freezeTexts_15 : decode cX1_freezeTexts 15 = .ok (.iload_n 2, 1) := by decide +kernel
theorem dX1_freezeTexts_16 : decode cX1_freezeTexts 16 = .ok (.iload_n 3, 1) := by decide +kernel
theorem dX1_freezeTexts_17 : decode cX1_freezeTexts 17 = .ok (.iadd, 1) := by decide +kernel
theorem dX1_freezeTexts_18 : decode cX1_freezeTexts 18 = .ok (.invokevirtual 107, 3) := by decide +kernel
theorem dX1_freezeTexts_21 : decode cX1_freezeTexts 21 = .ok (.istore 4, 2) := by decide +kernel
theorem dX1_freezeTexts_23 : decode cX1_freezeTexts 23 = .ok (.aload_n 0, 1) := by decide +kernel
theorem dX1_freezeTexts_24 : decode cX1_freezeTexts 24 = .ok (.iload_n 1, 1) := by decide +kernel
theorem dX1_freezeTexts_25 : decode cX1_freezeTexts 25 = .ok (.iload_n 3, 1) := by decide +kernel
theorem dX1_freezeTexts_26 : decode cX1_freezeTexts 26 = .ok (.invokevirtual 46, 3) := by decide +kernel
theorem dX1_freezeTexts_29 : decode cX1_freezeTexts 29 = .ok (.ifCond .eq 17, 3) := by decide +kernel
theorem dX1_freezeTexts_32 : decode cX1_freezeTexts 32 = .ok (.iload 4, 2) := by decide +kernel
theorem dX1_freezeTexts_34 : decode cX1_freezeTexts 34 = .ok (.ifCond .eq 12, 3) := by decide +kernel
theorem dX1_freezeTexts_37 : decode cX1_freezeTexts 37 = .ok (.aload_n 0, 1) := by decide +kernel
theorem dX1_freezeTexts_38 : decode cX1_freezeTexts 38 = .ok (.getfield 9, 3) := by decide +kernel
theorem dX1_freezeTexts_41 : decode cX1_freezeTexts 41 = .ok (.iload 4, 2) := by decide +kernel
theorem dX1_freezeTexts_43 : decode cX1_freezeTexts 43 = .ok (.invokevirtual 125, 3) := by decide +kernel
theorem dX1_freezeTexts_46 : decode cX1_freezeTexts 46 = .ok (.iinc 3 1, 3) := by decide +kernel
theorem dX1_freezeTexts_49 : decode cX1_freezeTexts 49 = .ok (.goto (-47), 3) := by decide +kernel
theorem dX1_freezeTexts_52 : decode cX1_freezeTexts 52 = .ok (.return_, 1) := by decide +kernel
theorem dX1_nextCapacity_0 : decode cX1_nextCapacity 0 = .ok (.aload_n 0, 1) := by decide +kernel
theorem dX1_nextCapacity_1 : decode cX1_nextCapacity 1 = .ok (.iload_n 1, 1) := by decide +kernel
theorem dX1_nextCapacity_2 : decode cX1_nextCapacity 2 = .ok (.invokevirtual 65, 3) := by decide +kernel
theorem dX1_nextCapacity_5 : decode cX1_nextCapacity 5 = .ok (.istore_n 2, 1) := by decide +kernel
theorem dX1_nextCapacity_6 : decode cX1_nextCapacity 6 = .ok (.iconst 4, 1) := by decide +kernel
theorem dX1_nextCapacity_7 : decode cX1_nextCapacity 7 = .ok (.aload_n 0, 1) := by decide +kernel
theorem dX1_nextCapacity_8 : decode cX1_nextCapacity 8 = .ok (.iload_n 1, 1) := by decide +kernel
theorem dX1_nextCapacity_9 : decode cX1_nextCapacity 9 = .ok (.invokevirtual 87, 3) := by decide +kernel
theorem dX1_nextCapacity_12 : decode cX1_nextCapacity 12 = .ok (.imul, 1) := by decide +kernel
theorem dX1_nextCapacity_13 : decode cX1_nextCapacity 13 = .ok (.iconst 3, 1) := by decide +kernel
theorem dX1_nextCapacity_14 : decode cX1_nextCapacity 14 = .ok (.iload_n 2, 1) := by decide +kernel
theorem dX1_nextCapacity_15 : decode cX1_nextCapacity 15 = .ok (.imul, 1) := by decide +kernel
theorem dX1_nextCapacity_16 : decode cX1_nextCapacity 16 = .ok (.if_icmp .lt 9, 3) := by decide +kernel
theorem dX1_nextCapacity_19 : decode cX1_nextCapacity 19 = .ok (.iconst 2, 1) := by decide +kernel
theorem dX1_nextCapacity_20 : decode cX1_nextCapacity 20 = .ok (.iload_n 2, 1) := by decide +kernel
theorem dX1_nextCapacity_21 : decode cX1_nextCapacity 21 = .ok (.imul, 1) := by decide +kernel
theorem dX1_nextCapacity_22 : decode cX1_nextCapacity 22 = .ok (.goto 4, 3) := by decide +kernel
theorem dX1_nextCapacity_25 : decode cX1_nextCapacity 25 = .ok (.iload_n 2, 1) := by decide +kernel
theorem dX1_nextCapacity_26 : decode cX1_nextCapacity 26 = .ok (.ireturn, 1) := by decide +kernel
theorem dX1_moveEntries_0 : decode cX1_moveEntries 0 = .ok (.aload_n 0, 1) := by decide +kernel
theorem dX1_moveEntries_1 : decode cX1_moveEntries 1 = .ok (.getfield 9, 3) := by decide +kernel
theorem dX1_moveEntries_4 : decode cX1_moveEntries 4 = .ok (.iload_n 2, 1) := by decide +kernel
theorem dX1_moveEntries_5 : decode cX1_moveEntries 5 = .ok (.invokevirtual 50, 3) := by decide +kernel
theorem dX1_moveEntries_8 : decode cX1_moveEntries 8 = .ok (.istore 4, 2) := by decide +kernel
theorem dX1_moveEntries_10 : decode cX1_moveEntries 10 = .ok (.aload_n 0, 1) := by decide +kernel
theorem dX1_moveEntries_11 : decode cX1_moveEntries 11 = .ok (.iload_n 1, 1) := by decide +kernel
theorem dX1_moveEntries_12 : decode cX1_moveEntries 12 = .ok (.invokevirtual 71, 3) := by decide +kernel
theorem dX1_moveEntries_15 : decode cX1_moveEntries 15 = .ok (.istore 5, 2) := by decide +kernel
theorem dX1_moveEntries_17 : decode cX1_moveEntries 17 = .ok (.aload_n 0, 1) := by decide +kernel
theorem dX1_moveEntries_18 : decode cX1_moveEntries 18 = .ok (.iload_n 1, 1) := by decide +kernel
theorem dX1_moveEntries_19 : decode cX1_moveEntries 19 = .ok (.iload 5, 2) := by decide +kernel
theorem dX1_moveEntries_21 : decode cX1_moveEntries 21 = .ok (.invokevirtual 90, 3) := by decide +kernel
theorem dX1_moveEntries_24 : decode cX1_moveEntries 24 = .ok (.istore 6, 2) := by decide +kernel
theorem dX1_moveEntries_26 : decode cX1_moveEntries 26 = .ok (.aload_n 0, 1) := by decide +kernel
theorem dX1_moveEntries_27 : decode cX1_moveEntries 27 = .ok (.iload_n 1, 1) := by decide +kernel
theorem dX1_moveEntries_28 : decode cX1_moveEntries 28 = .ok (.invokevirtual 93, 3) := by decide +kernel
theorem dX1_moveEntries_31 : decode cX1_moveEntries 31 = .ok (.istore 7, 2) := by decide +kernel
theorem dX1_moveEntries_33 : decode cX1_moveEntries 33 = .ok (.iload 7, 2) := by decide +kernel
theorem dX1_moveEntries_35 : decode cX1_moveEntries 35 = .ok (.iload 6, 2) := by decide +kernel
theorem dX1_moveEntries_37 : decode cX1_moveEntries 37 = .ok (.if_icmp .ge 43, 3) := by decide +kernel
theorem dX1_moveEntries_40 : decode cX1_moveEntries 40 = .ok (.aload_n 0, 1) := by decide +kernel
theorem dX1_moveEntries_41 : decode cX1_moveEntries 41 = .ok (.iload 7, 2) := by decide +kernel
theorem dX1_moveEntries_43 : decode cX1_moveEntries 43 = .ok (.invokevirtual 62, 3) := by decide +kernel
theorem dX1_moveEntries_46 : decode cX1_moveEntries 46 = .ok (.iconst (-1), 1) := by decide +kernel
theorem dX1_moveEntries_47 : decode cX1_moveEntries 47 = .ok (.if_icmp .eq 23, 3) := by decide +kernel
theorem dX1_moveEntries_50 : decode cX1_moveEntries 50 = .ok (.aload_n 0, 1) := by decide +kernel
theorem dX1_moveEntries_51 : decode cX1_moveEntries 51 = .ok (.getfield 9, 3) := by decide +kernel
theorem dX1_moveEntries_54 : decode cX1_moveEntries 54 = .ok (.iload 4, 2) := by decide +kernel
theorem dX1_moveEntries_56 : decode cX1_moveEntries 56 = .ok (.iload 7, 2) := by decide +kernel
theorem dX1_moveEntries_58 : decode cX1_moveEntries 58 = .ok (.iload 5, 2) := by decide +kernel
theorem dX1_moveEntries_60 : decode cX1_moveEntries 60 = .ok (.invokevirtual 59, 3) := by decide +kernel
theorem dX1_moveEntries_63 : decode cX1_moveEntries 63 = .ok (.iload 4, 2) := by decide +kernel
theorem dX1_moveEntries_65 : decode cX1_moveEntries 65 = .ok (.iload 5, 2) := by decide +kernel
theorem dX1_moveEntries_67 : decode cX1_moveEntries 67 = .ok (.iadd, 1) := by decide +kernel
theorem dX1_moveEntries_68 : decode cX1_moveEntries 68 = .ok (.istore 4, 2) := by decide +kernel
theorem dX1_moveEntries_70 : decode cX1_moveEntries 70 = .ok (.iload 7, 2) := by decide +kernel
theorem dX1_moveEntries_72 : decode cX1_moveEntries 72 = .ok (.iload 5, 2) := by decide +kernel
theorem dX1_moveEntries_74 : decode cX1_moveEntries 74 = .ok (.iadd, 1) := by decide +kernel
theorem dX1_moveEntries_75 : decode cX1_moveEntries 75 = .ok (.istore 7, 2) := by decide +kernel
theorem dX1_moveEntries_77 : decode cX1_moveEntries 77 = .ok (.goto (-44), 3) := by decide +kernel
theorem dX1_moveEntries_80 : decode cX1_moveEntries 80 = .ok (.aload_n 0, 1) := by decide +kernel
theorem dX1_moveEntries_81 : decode cX1_moveEntries 81 = .ok (.iload_n 1, 1) := by decide +kernel
theorem dX1_moveEntries_82 : decode cX1_moveEntries 82 = .ok (.iload_n 2, 1) := by decide +kernel
theorem dX1_moveEntries_83 : decode cX1_moveEntries 83 = .ok (.iload_n 3, 1) := by decide +kernel
theorem dX1_moveEntries_84 : decode cX1_moveEntries 84 = .ok (.invokevirtual 33, 3) := by decide +kernel
theorem dX1_moveEntries_87 : decode cX1_moveEntries 87 = .ok (.aload_n 0, 1) := by decide +kernel
theorem dX1_moveEntries_88 : decode cX1_moveEntries 88 = .ok (.iload_n 1, 1) := by decide +kernel
theorem dX1_moveEntries_89 : decode cX1_moveEntries 89 = .ok (.iconst 4, 1) := by decide +kernel
theorem dX1_moveEntries_90 : decode cX1_moveEntries 90 = .ok (.aload_n 0, 1) := by decide +kernel
theorem dX1_moveEntries_91 : decode cX1_moveEntries 91 = .ok (.iload_n 1, 1) := by decide +kernel
theorem dX1_moveEntries_92 : decode cX1_moveEntries 92 = .ok (.invokevirtual 87, 3) := by decide +kernel
theorem dX1_moveEntries_95 : decode cX1_moveEntries 95 = .ok (.invokevirtual 29, 3) := by decide +kernel
theorem dX1_moveEntries_98 : decode cX1_moveEntries 98 = .ok (.return_, 1) := by decide +kernel
theorem dX1_useTable_0 : decode cX1_useTable 0 = .ok (.aload_n 0, 1) := by decide +kernel
theorem dX1_useTable_1 : decode cX1_useTable 1 = .ok (.getfield 9, 3) := by decide +kernel
theorem dX1_useTable_4 : decode cX1_useTable 4 = .ok (.aload_n 0, 1) := by decide +kernel
theorem dX1_useTable_5 : decode cX1_useTable 5 = .ok (.getfield 9, 3) := by decide +kernel
theorem dX1_useTable_8 : decode cX1_useTable 8 = .ok (.iload_n 1, 1) := by decide +kernel
theorem dX1_useTable_9 : decode cX1_useTable 9 = .ok (.invokevirtual 50, 3) := by decide +kernel
theorem dX1_useTable_12 : decode cX1_useTable 12 = .ok (.iconst 0, 1) := by decide +kernel
theorem dX1_useTable_13 : decode cX1_useTable 13 = .ok (.iadd, 1) := by decide +kernel
theorem dX1_useTable_14 : decode cX1_useTable 14 = .ok (.iload_n 2, 1) := by decide +kernel
theorem dX1_useTable_15 : decode cX1_useTable 15 = .ok (.iconst 0, 1) := by decide +kernel
theorem dX1_useTable_16 : decode cX1_useTable 16 = .ok (.invokevirtual 128, 3) := by decide +kernel
theorem dX1_useTable_19 : decode cX1_useTable 19 = .ok (.aload_n 0, 1) := by decide +kernel
theorem dX1_useTable_20 : decode cX1_useTable 20 = .ok (.iload_n 1, 1) := by decide +kernel
theorem dX1_useTable_21 : decode cX1_useTable 21 = .ok (.iconst 1, 1) := by decide +kernel
theorem dX1_useTable_22 : decode cX1_useTable 22 = .ok (.invokevirtual 36, 3) := by decide +kernel
theorem dX1_useTable_25 : decode cX1_useTable 25 = .ok (.sipush 1023, 3) := by decide +kernel
theorem dX1_useTable_28 : decode cX1_useTable 28 = .ok (.iand, 1) := by decide +kernel
theorem dX1_useTable_29 : decode cX1_useTable 29 = .ok (.istore 4, 2) := by decide +kernel
theorem dX1_useTable_31 : decode cX1_useTable 31 = .ok (.aload_n 0, 1) := by decide +kernel
theorem dX1_useTable_32 : decode cX1_useTable 32 = .ok (.iload_n 1, 1) := by decide +kernel
theorem dX1_useTable_33 : decode cX1_useTable 33 = .ok (.iconst 1, 1) := by decide +kernel
theorem dX1_useTable_34 : decode cX1_useTable 34 = .ok (.iload 4, 2) := by decide +kernel
theorem dX1_useTable_36 : decode cX1_useTable 36 = .ok (.iload_n 3, 1) := by decide +kernel
theorem dX1_useTable_37 : decode cX1_useTable 37 = .ok (.bipush 10, 2) := by decide +kernel
theorem dX1_useTable_39 : decode cX1_useTable 39 = .ok (.ishl, 1) := by decide +kernel
theorem dX1_useTable_40 : decode cX1_useTable 40 = .ok (.ior, 1) := by decide +kernel
theorem dX1_useTable_41 : decode cX1_useTable 41 = .ok (.invokevirtual 29, 3) := by decide +kernel
theorem dX1_useTable_44 : decode cX1_useTable 44 = .ok (.return_, 1) := by decide +kernel
theorem dX1_slotsStart_0 : decode cX1_slotsStart 0 = .ok (.aload_n 0, 1) := by decide +kernel
theorem dX1_slotsStart_1 : decode cX1_slotsStart 1 = .ok (.getfield 9, 3) := by decide +kernel
theorem dX1_slotsStart_4 : decode cX1_slotsStart 4 = .ok (.aload_n 0, 1) := by decide +kernel
theorem dX1_slotsStart_5 : decode cX1_slotsStart 5 = .ok (.getfield 9, 3) := by decide +kernel
theorem dX1_slotsStart_8 : decode cX1_slotsStart 8 = .ok (.aload_n 0, 1) := by decide +kernel
theorem dX1_slotsStart_9 : decode cX1_slotsStart 9 = .ok (.getfield 9, 3) := by decide +kernel
theorem dX1_slotsStart_12 : decode cX1_slotsStart 12 = .ok (.iload_n 1, 1) := by decide +kernel
theorem dX1_slotsStart_13 : decode cX1_slotsStart 13 = .ok (.invokevirtual 50, 3) := by decide +kernel
theorem dX1_slotsStart_16 : decode cX1_slotsStart 16 = .ok (.iconst 0, 1) := by decide +kernel
theorem dX1_slotsStart_17 : decode cX1_slotsStart 17 = .ok (.iadd, 1) := by decide +kernel
theorem dX1_slotsStart_18 : decode cX1_slotsStart 18 = .ok (.invokevirtual 107, 3) := by decide +kernel
theorem dX1_slotsStart_21 : decode cX1_slotsStart 21 = .ok (.invokevirtual 50, 3) := by decide +kernel
theorem dX1_slotsStart_24 : decode cX1_slotsStart 24 = .ok (.ireturn, 1) := by decide +kernel
theorem dX1_slotsEnd_0 : decode cX1_slotsEnd 0 = .ok (.aload_n 0, 1) := by decide +kernel
theorem dX1_slotsEnd_1 : decode cX1_slotsEnd 1 = .ok (.iload_n 1, 1) := by decide +kernel
theorem dX1_slotsEnd_2 : decode cX1_slotsEnd 2 = .ok (.invokevirtual 93, 3) := by decide +kernel
theorem dX1_slotsEnd_5 : decode cX1_slotsEnd 5 = .ok (.aload_n 0, 1) := by decide +kernel
theorem dX1_slotsEnd_6 : decode cX1_slotsEnd 6 = .ok (.iload_n 1, 1) := by decide +kernel
theorem dX1_slotsEnd_7 : decode cX1_slotsEnd 7 = .ok (.iconst 4, 1) := by decide +kernel
theorem dX1_slotsEnd_8 : decode cX1_slotsEnd 8 = .ok (.invokevirtual 36, 3) := by decide +kernel
theorem dX1_slotsEnd_11 : decode cX1_slotsEnd 11 = .ok (.iload_n 2, 1) := by decide +kernel
theorem dX1_slotsEnd_12 : decode cX1_slotsEnd 12 = .ok (.imul, 1) := by decide +kernel
theorem dX1_slotsEnd_13 : decode cX1_slotsEnd 13 = .ok (.iadd, 1) := by decide +kernel
theorem dX1_slotsEnd_14 : decode cX1_slotsEnd 14 = .ok (.ireturn, 1) := by decide +kernel
theorem dX1_slotWords_0 : decode cX1_slotWords 0 = .ok (.iconst 3, 1) := by decide +kernel
theorem dX1_slotWords_1 : decode cX1_slotWords 1 = .ok (.aload_n 0, 1) := by decide +kernel
theorem dX1_slotWords_2 : decode cX1_slotWords 2 = .ok (.iload_n 1, 1) := by decide +kernel
theorem dX1_slotWords_3 : decode cX1_slotWords 3 = .ok (.invokevirtual 96, 3) := by decide +kernel
theorem dX1_slotWords_6 : decode cX1_slotWords 6 = .ok (.iadd, 1) := by decide +kernel
theorem dX1_slotWords_7 : decode cX1_slotWords 7 = .ok (.ireturn, 1) := by decide +kernel
theorem dX1_keyWords_0 : decode cX1_keyWords 0 = .ok (.aload_n 0, 1) := by decide +kernel
theorem dX1_keyWords_1 : decode cX1_keyWords 1 = .ok (.iload_n 1, 1) := by decide +kernel
theorem dX1_keyWords_2 : decode cX1_keyWords 2 = .ok (.iconst 1, 1) := by decide +kernel
theorem dX1_keyWords_3 : decode cX1_keyWords 3 = .ok (.invokevirtual 36, 3) := by decide +kernel
theorem dX1_keyWords_6 : decode cX1_keyWords 6 = .ok (.bipush 7, 2) := by decide +kernel
theorem dX1_keyWords_8 : decode cX1_keyWords 8 = .ok (.iand, 1) := by decide +kernel
theorem dX1_keyWords_9 : decode cX1_keyWords 9 = .ok (.ireturn, 1) := by decide +kernel
theorem dX1_valueWords_0 : decode cX1_valueWords 0 = .ok (.aload_n 0, 1) := by decide +kernel
theorem dX1_valueWords_1 : decode cX1_valueWords 1 = .ok (.iload_n 1, 1) := by decide +kernel
theorem dX1_valueWords_2 : decode cX1_valueWords 2 = .ok (.iconst 1, 1) := by decide +kernel
theorem dX1_valueWords_3 : decode cX1_valueWords 3 = .ok (.invokevirtual 36, 3) := by decide +kernel
theorem dX1_valueWords_6 : decode cX1_valueWords 6 = .ok (.iconst 3, 1) := by decide +kernel
theorem dX1_valueWords_7 : decode cX1_valueWords 7 = .ok (.iushr, 1) := by decide +kernel
theorem dX1_valueWords_8 : decode cX1_valueWords 8 = .ok (.bipush 7, 2) := by decide +kernel
theorem dX1_valueWords_10 : decode cX1_valueWords 10 = .ok (.iand, 1) := by decide +kernel
theorem dX1_valueWords_11 : decode cX1_valueWords 11 = .ok (.ireturn, 1) := by decide +kernel
theorem dX1_isTextual_0 : decode cX1_isTextual 0 = .ok (.aload_n 0, 1) := by decide +kernel
theorem dX1_isTextual_1 : decode cX1_isTextual 1 = .ok (.iload_n 1, 1) := by decide +kernel
theorem dX1_isTextual_2 : decode cX1_isTextual 2 = .ok (.iconst 1, 1) := by decide +kernel
theorem dX1_isTextual_3 : decode cX1_isTextual 3 = .ok (.invokevirtual 36, 3) := by decide +kernel
theorem dX1_isTextual_6 : decode cX1_isTextual 6 = .ok (.bipush 6, 2) := by decide +kernel
theorem dX1_isTextual_8 : decode cX1_isTextual 8 = .ok (.iload_n 2, 1) := by decide +kernel
theorem dX1_isTextual_9 : decode cX1_isTextual 9 = .ok (.iadd, 1) := by decide +kernel
theorem dX1_isTextual_10 : decode cX1_isTextual 10 = .ok (.iushr, 1) := by decide +kernel
theorem dX1_isTextual_11 : decode cX1_isTextual 11 = .ok (.iconst 1, 1) := by decide +kernel
theorem dX1_isTextual_12 : decode cX1_isTextual 12 = .ok (.iand, 1) := by decide +kernel
theorem dX1_isTextual_13 : decode cX1_isTextual 13 = .ok (.ifCond .eq 7, 3) := by decide +kernel
theorem dX1_isTextual_16 : decode cX1_isTextual 16 = .ok (.iconst 1, 1) := by decide +kernel
theorem dX1_isTextual_17 : decode cX1_isTextual 17 = .ok (.goto 4, 3) := by decide +kernel
theorem dX1_isTextual_20 : decode cX1_isTextual 20 = .ok (.iconst 0, 1) := by decide +kernel
theorem dX1_isTextual_21 : decode cX1_isTextual 21 = .ok (.ireturn, 1) := by decide +kernel
theorem dX1_field_0 : decode cX1_field 0 = .ok (.aload_n 0, 1) := by decide +kernel
theorem dX1_field_1 : decode cX1_field 1 = .ok (.getfield 9, 3) := by decide +kernel
theorem dX1_field_4 : decode cX1_field 4 = .ok (.aload_n 0, 1) := by decide +kernel
theorem dX1_field_5 : decode cX1_field 5 = .ok (.getfield 9, 3) := by decide +kernel
theorem dX1_field_8 : decode cX1_field 8 = .ok (.iload_n 1, 1) := by decide +kernel
theorem dX1_field_9 : decode cX1_field 9 = .ok (.invokevirtual 50, 3) := by decide +kernel
theorem dX1_field_12 : decode cX1_field 12 = .ok (.iload_n 2, 1) := by decide +kernel
theorem dX1_field_13 : decode cX1_field 13 = .ok (.iadd, 1) := by decide +kernel
theorem dX1_field_14 : decode cX1_field 14 = .ok (.invokevirtual 99, 3) := by decide +kernel
theorem dX1_field_17 : decode cX1_field 17 = .ok (.l2i, 1) := by decide +kernel
theorem dX1_field_18 : decode cX1_field 18 = .ok (.ireturn, 1) := by decide +kernel
theorem dX1_setField_0 : decode cX1_setField 0 = .ok (.aload_n 0, 1) := by decide +kernel
theorem dX1_setField_1 : decode cX1_setField 1 = .ok (.getfield 9, 3) := by decide +kernel
theorem dX1_setField_4 : decode cX1_setField 4 = .ok (.aload_n 0, 1) := by decide +kernel
theorem dX1_setField_5 : decode cX1_setField 5 = .ok (.getfield 9, 3) := by decide +kernel
theorem dX1_setField_8 : decode cX1_setField 8 = .ok (.iload_n 1, 1) := by decide +kernel
theorem dX1_setField_9 : decode cX1_setField 9 = .ok (.invokevirtual 50, 3) := by decide +kernel
theorem dX1_setField_12 : decode cX1_setField 12 = .ok (.iload_n 2, 1) := by decide +kernel
theorem dX1_setField_13 : decode cX1_setField 13 = .ok (.iadd, 1) := by decide +kernel
theorem dX1_setField_14 : decode cX1_setField 14 = .ok (.iload_n 3, 1) := by decide +kernel
theorem dX1_setField_15 : decode cX1_setField 15 = .ok (.i2l, 1) := by decide +kernel
theorem dX1_setField_16 : decode cX1_setField 16 = .ok (.invokevirtual 118, 3) := by decide +kernel
theorem dX1_setField_19 : decode cX1_setField 19 = .ok (.return_, 1) := by decide +kernel
