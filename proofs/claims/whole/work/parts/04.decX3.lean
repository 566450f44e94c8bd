theorem dX3_init_0 : decode cX3_init 0 = .ok (.aload_n 0, 1) := by decide +kernel
theorem dX3_init_1 : decode cX3_init 1 = .ok (.invokespecial 1, 3) := by decide +kernel
theorem dX3_init_4 : decode cX3_init 4 = .ok (.aload_n 0, 1) := by decide +kernel
theorem dX3_init_5 : decode cX3_init 5 = .ok (.new 7, 3) := by decide +kernel
theorem dX3_init_8 : decode cX3_init 8 = .ok (.dup, 1) := by decide +kernel
theorem dX3_init_9 : decode cX3_init 9 = .ok (.bipush 64, 2) := by decide +kernel
theorem dX3_init_11 : decode cX3_init 11 = .ok (.ldc 11, 2) := by decide +kernel
theorem dX3_init_13 : decode cX3_init 13 = .ok (.iload_n 1, 1) := by decide +kernel
theorem dX3_init_14 : decode cX3_init 14 = .ok (.invokestatic 12, 3) := by decide +kernel
theorem dX3_init_17 : decode cX3_init 17 = .ok (.invokestatic 18, 3) := by decide +kernel
theorem dX3_init_20 : decode cX3_init 20 = .ok (.invokespecial 21, 3) := by decide +kernel
theorem dX3_init_23 : decode cX3_init 23 = .ok (.putfield 24, 3) := by decide +kernel
theorem dX3_init_26 : decode cX3_init 26 = .ok (.aload_n 0, 1) := by decide +kernel
theorem dX3_init_27 : decode cX3_init 27 = .ok (.new 28, 3) := by decide +kernel
theorem dX3_init_30 : decode cX3_init 30 = .ok (.dup, 1) := by decide +kernel
theorem dX3_init_31 : decode cX3_init 31 = .ok (.aload_n 0, 1) := by decide +kernel
theorem dX3_init_32 : decode cX3_init 32 = .ok (.getfield 24, 3) := by decide +kernel
theorem dX3_init_35 : decode cX3_init 35 = .ok (.invokespecial 30, 3) := by decide +kernel
theorem dX3_init_38 : decode cX3_init 38 = .ok (.putfield 33, 3) := by decide +kernel
theorem dX3_init_41 : decode cX3_init 41 = .ok (.aload_n 0, 1) := by decide +kernel
theorem dX3_init_42 : decode cX3_init 42 = .ok (.new 37, 3) := by decide +kernel
theorem dX3_init_45 : decode cX3_init 45 = .ok (.dup, 1) := by decide +kernel
theorem dX3_init_46 : decode cX3_init 46 = .ok (.aload_n 0, 1) := by decide +kernel
theorem dX3_init_47 : decode cX3_init 47 = .ok (.getfield 24, 3) := by decide +kernel
theorem dX3_init_50 : decode cX3_init 50 = .ok (.aload_n 0, 1) := by decide +kernel
theorem dX3_init_51 : decode cX3_init 51 = .ok (.getfield 33, 3) := by decide +kernel
theorem dX3_init_54 : decode cX3_init 54 = .ok (.invokespecial 39, 3) := by decide +kernel
theorem dX3_init_57 : decode cX3_init 57 = .ok (.putfield 42, 3) := by decide +kernel
theorem dX3_init_60 : decode cX3_init 60 = .ok (.return_, 1) := by decide +kernel
theorem dX3_number_0 : decode cX3_number 0 = .ok (.iload_n 1, 1) := by decide +kernel
theorem dX3_number_1 : decode cX3_number 1 = .ok (.invokestatic 46, 3) := by decide +kernel
theorem dX3_number_4 : decode cX3_number 4 = .ok (.aload_n 0, 1) := by decide +kernel
theorem dX3_number_5 : decode cX3_number 5 = .ok (.getfield 24, 3) := by decide +kernel
theorem dX3_number_8 : decode cX3_number 8 = .ok (.iload_n 1, 1) := by decide +kernel
theorem dX3_number_9 : decode cX3_number 9 = .ok (.lload_n 2, 1) := by decide +kernel
theorem dX3_number_10 : decode cX3_number 10 = .ok (.invokevirtual 49, 3) := by decide +kernel
theorem dX3_number_13 : decode cX3_number 13 = .ok (.return_, 1) := by decide +kernel
theorem dX3_nil_0 : decode cX3_nil 0 = .ok (.iload_n 1, 1) := by decide +kernel
theorem dX3_nil_1 : decode cX3_nil 1 = .ok (.invokestatic 46, 3) := by decide +kernel
theorem dX3_nil_4 : decode cX3_nil 4 = .ok (.aload_n 0, 1) := by decide +kernel
theorem dX3_nil_5 : decode cX3_nil 5 = .ok (.getfield 24, 3) := by decide +kernel
theorem dX3_nil_8 : decode cX3_nil 8 = .ok (.iload_n 1, 1) := by decide +kernel
theorem dX3_nil_9 : decode cX3_nil 9 = .ok (.iconst 0, 1) := by decide +kernel
theorem dX3_nil_10 : decode cX3_nil 10 = .ok (.iconst 0, 1) := by decide +kernel
theorem dX3_nil_11 : decode cX3_nil 11 = .ok (.invokevirtual 53, 3) := by decide +kernel
theorem dX3_nil_14 : decode cX3_nil 14 = .ok (.return_, 1) := by decide +kernel
theorem dX3_move_0 : decode cX3_move 0 = .ok (.iload_n 1, 1) := by decide +kernel
theorem dX3_move_1 : decode cX3_move 1 = .ok (.invokestatic 46, 3) := by decide +kernel
theorem dX3_move_4 : decode cX3_move 4 = .ok (.iload_n 2, 1) := by decide +kernel
theorem dX3_move_5 : decode cX3_move 5 = .ok (.invokestatic 46, 3) := by decide +kernel
theorem dX3_move_8 : decode cX3_move 8 = .ok (.aload_n 0, 1) := by decide +kernel
theorem dX3_move_9 : decode cX3_move 9 = .ok (.getfield 24, 3) := by decide +kernel
theorem dX3_move_12 : decode cX3_move 12 = .ok (.iload_n 1, 1) := by decide +kernel
theorem dX3_move_13 : decode cX3_move 13 = .ok (.iload_n 2, 1) := by decide +kernel
theorem dX3_move_14 : decode cX3_move 14 = .ok (.invokevirtual 57, 3) := by decide +kernel
theorem dX3_move_17 : decode cX3_move 17 = .ok (.return_, 1) := by decide +kernel
theorem dX3_make_0 : decode cX3_make 0 = .ok (.iload_n 1, 1) := by decide +kernel
theorem dX3_make_1 : decode cX3_make 1 = .ok (.invokestatic 46, 3) := by decide +kernel
theorem dX3_make_4 : decode cX3_make 4 = .ok (.iload_n 2, 1) := by decide +kernel
theorem dX3_make_5 : decode cX3_make 5 = .ok (.iconst 0, 1) := by decide +kernel
theorem dX3_make_6 : decode cX3_make 6 = .ok (.sipush 4096, 3) := by decide +kernel
theorem dX3_make_9 : decode cX3_make 9 = .ok (.invokestatic 61, 3) := by decide +kernel
theorem dX3_make_12 : decode cX3_make 12 = .ok (.aload_n 0, 1) := by decide +kernel
theorem dX3_make_13 : decode cX3_make 13 = .ok (.iload_n 1, 1) := by decide +kernel
theorem dX3_make_14 : decode cX3_make 14 = .ok (.aload_n 0, 1) := by decide +kernel
theorem dX3_make_15 : decode cX3_make 15 = .ok (.getfield 24, 3) := by decide +kernel
theorem dX3_make_18 : decode cX3_make 18 = .ok (.iconst 2, 1) := by decide +kernel
theorem dX3_make_19 : decode cX3_make 19 = .ok (.iload_n 2, 1) := by decide +kernel
theorem dX3_make_20 : decode cX3_make 20 = .ok (.invokevirtual 64, 3) := by decide +kernel
theorem dX3_make_23 : decode cX3_make 23 = .ok (.invokevirtual 67, 3) := by decide +kernel
theorem dX3_make_26 : decode cX3_make 26 = .ok (.ireturn, 1) := by decide +kernel
theorem dX3_text_0 : decode cX3_text 0 = .ok (.iload_n 1, 1) := by decide +kernel
theorem dX3_text_1 : decode cX3_text 1 = .ok (.invokestatic 46, 3) := by decide +kernel
theorem dX3_text_4 : decode cX3_text 4 = .ok (.iload_n 2, 1) := by decide +kernel
theorem dX3_text_5 : decode cX3_text 5 = .ok (.iconst 0, 1) := by decide +kernel
theorem dX3_text_6 : decode cX3_text 6 = .ok (.ldc 70, 2) := by decide +kernel
theorem dX3_text_8 : decode cX3_text 8 = .ok (.invokestatic 61, 3) := by decide +kernel
theorem dX3_text_11 : decode cX3_text 11 = .ok (.aload_n 0, 1) := by decide +kernel
theorem dX3_text_12 : decode cX3_text 12 = .ok (.iload_n 1, 1) := by decide +kernel
theorem dX3_text_13 : decode cX3_text 13 = .ok (.aload_n 0, 1) := by decide +kernel
theorem dX3_text_14 : decode cX3_text 14 = .ok (.getfield 24, 3) := by decide +kernel
theorem dX3_text_17 : decode cX3_text 17 = .ok (.iconst 3, 1) := by decide +kernel
theorem dX3_text_18 : decode cX3_text 18 = .ok (.iload_n 2, 1) := by decide +kernel
theorem dX3_text_19 : decode cX3_text 19 = .ok (.invokevirtual 64, 3) := by decide +kernel
theorem dX3_text_22 : decode cX3_text 22 = .ok (.invokevirtual 67, 3) := by decide +kernel
theorem dX3_text_25 : decode cX3_text 25 = .ok (.ireturn, 1) := by decide +kernel
theorem dX3_map_0 : decode cX3_map 0 = .ok (.iload_n 1, 1) := by decide +kernel
theorem dX3_map_1 : decode cX3_map 1 = .ok (.invokestatic 46, 3) := by decide +kernel
theorem dX3_map_4 : decode cX3_map 4 = .ok (.iload_n 2, 1) := by decide +kernel
theorem dX3_map_5 : decode cX3_map 5 = .ok (.iconst 1, 1) := by decide +kernel
theorem dX3_map_6 : decode cX3_map 6 = .ok (.iconst 4, 1) := by decide +kernel
theorem dX3_map_7 : decode cX3_map 7 = .ok (.invokestatic 61, 3) := by decide +kernel
theorem dX3_map_10 : decode cX3_map 10 = .ok (.iload_n 3, 1) := by decide +kernel
theorem dX3_map_11 : decode cX3_map 11 = .ok (.iconst 0, 1) := by decide +kernel
theorem dX3_map_12 : decode cX3_map 12 = .ok (.iconst 4, 1) := by decide +kernel
theorem dX3_map_13 : decode cX3_map 13 = .ok (.invokestatic 61, 3) := by decide +kernel
theorem dX3_map_16 : decode cX3_map 16 = .ok (.iload 4, 2) := by decide +kernel
theorem dX3_map_18 : decode cX3_map 18 = .ok (.iconst 0, 1) := by decide +kernel
theorem dX3_map_19 : decode cX3_map 19 = .ok (.iconst 1, 1) := by decide +kernel
theorem dX3_map_20 : decode cX3_map 20 = .ok (.iload_n 2, 1) := by decide +kernel
theorem dX3_map_21 : decode cX3_map 21 = .ok (.ishl, 1) := by decide +kernel
theorem dX3_map_22 : decode cX3_map 22 = .ok (.iconst 1, 1) := by decide +kernel
theorem dX3_map_23 : decode cX3_map 23 = .ok (.isub, 1) := by decide +kernel
theorem dX3_map_24 : decode cX3_map 24 = .ok (.invokestatic 61, 3) := by decide +kernel
theorem dX3_map_27 : decode cX3_map 27 = .ok (.aload_n 0, 1) := by decide +kernel
theorem dX3_map_28 : decode cX3_map 28 = .ok (.iload_n 1, 1) := by decide +kernel
theorem dX3_map_29 : decode cX3_map 29 = .ok (.aload_n 0, 1) := by decide +kernel
theorem dX3_map_30 : decode cX3_map 30 = .ok (.getfield 42, 3) := by decide +kernel
theorem dX3_map_33 : decode cX3_map 33 = .ok (.iload_n 2, 1) := by decide +kernel
theorem dX3_map_34 : decode cX3_map 34 = .ok (.iload_n 3, 1) := by decide +kernel
theorem dX3_map_35 : decode cX3_map 35 = .ok (.iload 4, 2) := by decide +kernel
theorem dX3_map_37 : decode cX3_map 37 = .ok (.invokevirtual 71, 3) := by decide +kernel
theorem dX3_map_40 : decode cX3_map 40 = .ok (.invokevirtual 67, 3) := by decide +kernel
theorem dX3_map_43 : decode cX3_map 43 = .ok (.ireturn, 1) := by decide +kernel
theorem dX3_join_0 : decode cX3_join 0 = .ok (.iload_n 1, 1) := by decide +kernel
theorem dX3_join_1 : decode cX3_join 1 = .ok (.invokestatic 46, 3) := by decide +kernel
theorem dX3_join_4 : decode cX3_join 4 = .ok (.iload_n 2, 1) := by decide +kernel
theorem dX3_join_5 : decode cX3_join 5 = .ok (.invokestatic 46, 3) := by decide +kernel
theorem dX3_join_8 : decode cX3_join 8 = .ok (.iload_n 3, 1) := by decide +kernel
theorem dX3_join_9 : decode cX3_join 9 = .ok (.invokestatic 46, 3) := by decide +kernel
theorem dX3_join_12 : decode cX3_join 12 = .ok (.aload_n 0, 1) := by decide +kernel
theorem dX3_join_13 : decode cX3_join 13 = .ok (.iload_n 2, 1) := by decide +kernel
theorem dX3_join_14 : decode cX3_join 14 = .ok (.invokevirtual 75, 3) := by decide +kernel
theorem dX3_join_17 : decode cX3_join 17 = .ok (.istore 4, 2) := by decide +kernel
theorem dX3_join_19 : decode cX3_join 19 = .ok (.aload_n 0, 1) := by decide +kernel
theorem dX3_join_20 : decode cX3_join 20 = .ok (.iload_n 3, 1) := by decide +kernel
theorem dX3_join_21 : decode cX3_join 21 = .ok (.invokevirtual 75, 3) := by decide +kernel
theorem dX3_join_24 : decode cX3_join 24 = .ok (.istore 5, 2) := by decide +kernel
theorem dX3_join_26 : decode cX3_join 26 = .ok (.aload_n 0, 1) := by decide +kernel
theorem dX3_join_27 : decode cX3_join 27 = .ok (.getfield 24, 3) := by decide +kernel
theorem dX3_join_30 : decode cX3_join 30 = .ok (.iload 4, 2) := by decide +kernel
theorem dX3_join_32 : decode cX3_join 32 = .ok (.invokevirtual 79, 3) := by decide +kernel
theorem dX3_join_35 : decode cX3_join 35 = .ok (.aload_n 0, 1) := by decide +kernel
theorem dX3_join_36 : decode cX3_join 36 = .ok (.getfield 24, 3) := by decide +kernel
theorem dX3_join_39 : decode cX3_join 39 = .ok (.iload 5, 2) := by decide +kernel
theorem dX3_join_41 : decode cX3_join 41 = .ok (.invokevirtual 79, 3) := by decide +kernel
theorem dX3_join_44 : decode cX3_join 44 = .ok (.iadd, 1) := by decide +kernel
theorem dX3_join_45 : decode cX3_join 45 = .ok (.ldc 70, 2) := by decide +kernel
theorem dX3_join_47 : decode cX3_join 47 = .ok (.if_icmp .le 13, 3) := by decide +kernel
theorem dX3_join_50 : decode cX3_join 50 = .ok (.new 82, 3) := by decide +kernel
theorem dX3_join_53 : decode cX3_join 53 = .ok (.dup, 1) := by decide +kernel
theorem dX3_join_54 : decode cX3_join 54 = .ok (.ldc 84, 2) := by decide +kernel
theorem dX3_join_56 : decode cX3_join 56 = .ok (.invokespecial 86, 3) := by decide +kernel
theorem dX3_join_59 : decode cX3_join 59 = .ok (.athrow, 1) := by decide +kernel
theorem dX3_join_60 : decode cX3_join 60 = .ok (.aload_n 0, 1) := by decide +kernel
theorem dX3_join_61 : decode cX3_join 61 = .ok (.iload_n 1, 1) := by decide +kernel
theorem dX3_join_62 : decode cX3_join 62 = .ok (.aload_n 0, 1) := by decide +kernel
theorem dX3_join_63 : decode cX3_join 63 = .ok (.getfield 33, 3) := by decide +kernel
theorem dX3_join_66 : decode cX3_join 66 = .ok (.iload 4, 2) := by decide +kernel
theorem dX3_join_68 : decode cX3_join 68 = .ok (.iload 5, 2) := by decide +kernel
theorem dX3_join_70 : decode cX3_join 70 = .ok (.invokevirtual 89, 3) := by decide +kernel
theorem dX3_join_73 : decode cX3_join 73 = .ok (.invokevirtual 67, 3) := by decide +kernel
theorem dX3_join_76 : decode cX3_join 76 = .ok (.ireturn, 1) := by decide +kernel
theorem dX3_part_0 : decode cX3_part 0 = .ok (.iload_n 1, 1) := by decide +kernel
theorem dX3_part_1 : decode cX3_part 1 = .ok (.invokestatic 46, 3) := by decide +kernel
theorem dX3_part_4 : decode cX3_part 4 = .ok (.iload_n 2, 1) := by decide +kernel
theorem dX3_part_5 : decode cX3_part 5 = .ok (.invokestatic 46, 3) := by decide +kernel
theorem dX3_part_8 : decode cX3_part 8 = .ok (.aload_n 0, 1) := by decide +kernel
theorem dX3_part_9 : decode cX3_part 9 = .ok (.iload_n 2, 1) := by decide +kernel
theorem dX3_part_10 : decode cX3_part 10 = .ok (.invokevirtual 75, 3) := by decide +kernel
theorem dX3_part_13 : decode cX3_part 13 = .ok (.istore 5, 2) := by decide +kernel
theorem dX3_part_15 : decode cX3_part 15 = .ok (.iload_n 3, 1) := by decide +kernel
theorem dX3_part_16 : decode cX3_part 16 = .ok (.ifCond .lt 23, 3) := by decide +kernel
theorem dX3_part_19 : decode cX3_part 19 = .ok (.iload 4, 2) := by decide +kernel
theorem dX3_part_21 : decode cX3_part 21 = .ok (.iload_n 3, 1) := by decide +kernel
theorem dX3_part_22 : decode cX3_part 22 = .ok (.if_icmp .lt 17, 3) := by decide +kernel
theorem dX3_part_25 : decode cX3_part 25 = .ok (.iload 4, 2) := by decide +kernel
theorem dX3_part_27 : decode cX3_part 27 = .ok (.aload_n 0, 1) := by decide +kernel
theorem dX3_part_28 : decode cX3_part 28 = .ok (.getfield 24, 3) := by decide +kernel
theorem dX3_part_31 : decode cX3_part 31 = .ok (.iload 5, 2) := by decide +kernel
theorem dX3_part_33 : decode cX3_part 33 = .ok (.invokevirtual 79, 3) := by decide +kernel
theorem dX3_part_36 : decode cX3_part 36 = .ok (.if_icmp .le 13, 3) := by decide +kernel
theorem dX3_part_39 : decode cX3_part 39 = .ok (.new 92, 3) := by decide +kernel
theorem dX3_part_42 : decode cX3_part 42 = .ok (.dup, 1) := by decide +kernel
theorem dX3_part_43 : decode cX3_part 43 = .ok (.ldc 94, 2) := by decide +kernel
theorem dX3_part_45 : decode cX3_part 45 = .ok (.invokespecial 96, 3) := by decide +kernel
theorem dX3_part_48 : decode cX3_part 48 = .ok (.athrow, 1) := by decide +kernel
theorem dX3_part_49 : decode cX3_part 49 = .ok (.aload_n 0, 1) := by decide +kernel
theorem dX3_part_50 : decode cX3_part 50 = .ok (.iload_n 1, 1) := by decide +kernel
theorem dX3_part_51 : decode cX3_part 51 = .ok (.aload_n 0, 1) := by decide +kernel
theorem dX3_part_52 : decode cX3_part 52 = .ok (.getfield 33, 3) := by decide +kernel
theorem dX3_part_55 : decode cX3_part 55 = .ok (.iload 5, 2) := by decide +kernel
theorem dX3_part_57 : decode cX3_part 57 = .ok (.iload_n 3, 1) := by decide +kernel
theorem dX3_part_58 : decode cX3_part 58 = .ok (.iload 4, 2) := by decide +kernel
theorem dX3_part_60 : decode cX3_part 60 = .ok (.invokevirtual 97, 3) := by decide +kernel
theorem dX3_part_63 : decode cX3_part 63 = .ok (.invokevirtual 67, 3) := by decide +kernel
theorem dX3_part_66 : decode cX3_part 66 = .ok (.ireturn, 1) := by decide +kernel
theorem dX3_compare_0 : decode cX3_compare 0 = .ok (.iload_n 1, 1) := by decide +kernel
theorem dX3_compare_1 : decode cX3_compare 1 = .ok (.invokestatic 46, 3) := by decide +kernel
theorem dX3_compare_4 : decode cX3_compare 4 = .ok (.iload_n 2, 1) := by decide +kernel
theorem dX3_compare_5 : decode cX3_compare 5 = .ok (.invokestatic 46, 3) := by decide +kernel
theorem dX3_compare_8 : decode cX3_compare 8 = .ok (.aload_n 0, 1) := by decide +kernel
theorem dX3_compare_9 : decode cX3_compare 9 = .ok (.iload_n 1, 1) := by decide +kernel
theorem dX3_compare_10 : decode cX3_compare 10 = .ok (.invokevirtual 75, 3) := by decide +kernel
theorem dX3_compare_13 : decode cX3_compare 13 = .ok (.istore_n 3, 1) := by decide +kernel
theorem dX3_compare_14 : decode cX3_compare 14 = .ok (.aload_n 0, 1) := by decide +kernel
theorem dX3_compare_15 : decode cX3_compare 15 = .ok (.iload_n 2, 1) := by decide +kernel
theorem dX3_compare_16 : decode cX3_compare 16 = .ok (.invokevirtual 75, 3) := by decide +kernel
theorem dX3_compare_19 : decode cX3_compare 19 = .ok (.istore 4, 2) := by decide +kernel
theorem dX3_compare_21 : decode cX3_compare 21 = .ok (.aload_n 0, 1) := by decide +kernel
theorem dX3_compare_22 : decode cX3_compare 22 = .ok (.getfield 33, 3) := by decide +kernel
theorem dX3_compare_25 : decode cX3_compare 25 = .ok (.iload_n 3, 1) := by decide +kernel
theorem dX3_compare_26 : decode cX3_compare 26 = .ok (.iload 4, 2) := by decide +kernel
theorem dX3_compare_28 : decode cX3_compare 28 = .ok (.invokevirtual 100, 3) := by decide +kernel
theorem dX3_compare_31 : decode cX3_compare 31 = .ok (.ireturn, 1) := by decide +kernel
theorem dX3_byteAt_0 : decode cX3_byteAt 0 = .ok (.iload_n 1, 1) := by decide +kernel
theorem dX3_byteAt_1 : decode cX3_byteAt 1 = .ok (.invokestatic 46, 3) := by decide +kernel
theorem dX3_byteAt_4 : decode cX3_byteAt 4 = .ok (.aload_n 0, 1) := by decide +kernel
theorem dX3_byteAt_5 : decode cX3_byteAt 5 = .ok (.iload_n 1, 1) := by decide +kernel
theorem dX3_byteAt_6 : decode cX3_byteAt 6 = .ok (.invokevirtual 75, 3) := by decide +kernel
theorem dX3_byteAt_9 : decode cX3_byteAt 9 = .ok (.istore_n 3, 1) := by decide +kernel
theorem dX3_byteAt_10 : decode cX3_byteAt 10 = .ok (.aload_n 0, 1) := by decide +kernel
theorem dX3_byteAt_11 : decode cX3_byteAt 11 = .ok (.iload_n 3, 1) := by decide +kernel
theorem dX3_byteAt_12 : decode cX3_byteAt 12 = .ok (.iload_n 2, 1) := by decide +kernel
theorem dX3_byteAt_13 : decode cX3_byteAt 13 = .ok (.invokevirtual 103, 3) := by decide +kernel
theorem dX3_byteAt_16 : decode cX3_byteAt 16 = .ok (.aload_n 0, 1) := by decide +kernel
theorem dX3_byteAt_17 : decode cX3_byteAt 17 = .ok (.getfield 33, 3) := by decide +kernel
theorem dX3_byteAt_20 : decode cX3_byteAt 20 = .ok (.iload_n 3, 1) := by decide +kernel
theorem dX3_byteAt_21 : decode cX3_byteAt 21 = .ok (.iload_n 2, 1) := by decide +kernel
theorem dX3_byteAt_22 : decode cX3_byteAt 22 = .ok (.invokevirtual 106, 3) := by decide +kernel
theorem dX3_byteAt_25 : decode cX3_byteAt 25 = .ok (.ireturn, 1) := by decide +kernel
theorem dX3_setByte_0 : decode cX3_setByte 0 = .ok (.iload_n 1, 1) := by decide +kernel
theorem dX3_setByte_1 : decode cX3_setByte 1 = .ok (.invokestatic 46, 3) := by decide +kernel
theorem dX3_setByte_4 : decode cX3_setByte 4 = .ok (.aload_n 0, 1) := by decide +kernel
theorem dX3_setByte_5 : decode cX3_setByte 5 = .ok (.iload_n 1, 1) := by decide +kernel
theorem dX3_setByte_6 : decode cX3_setByte 6 = .ok (.invokevirtual 75, 3) := by decide +kernel
theorem dX3_setByte_9 : decode cX3_setByte 9 = .ok (.istore 4, 2) := by decide +kernel
theorem dX3_setByte_11 : decode cX3_setByte 11 = .ok (.aload_n 0, 1) := by decide +kernel
theorem dX3_setByte_12 : decode cX3_setByte 12 = .ok (.getfield 24, 3) := by decide +kernel
theorem dX3_setByte_15 : decode cX3_setByte 15 = .ok (.iload 4, 2) := by decide +kernel
theorem dX3_setByte_17 : decode cX3_setByte 17 = .ok (.invokevirtual 109, 3) := by decide +kernel
theorem dX3_setByte_20 : decode cX3_setByte 20 = .ok (.ifCond .eq 13, 3) := by decide +kernel
theorem dX3_setByte_23 : decode cX3_setByte 23 = .ok (.new 82, 3) := by decide +kernel
theorem dX3_setByte_26 : decode cX3_setByte 26 = .ok (.dup, 1) := by decide +kernel
theorem dX3_setByte_27 : decode cX3_setByte 27 = .ok (.ldc 113, 2) := by decide +kernel
theorem dX3_setByte_29 : decode cX3_setByte 29 = .ok (.invokespecial 86, 3) := by decide +kernel
theorem dX3_setByte_32 : decode cX3_setByte 32 = .ok (.athrow, 1) := by decide +kernel
theorem dX3_setByte_33 : decode cX3_setByte 33 = .ok (.aload_n 0, 1) := by decide +kernel
theorem dX3_setByte_34 : decode cX3_setByte 34 = .ok (.iload 4, 2) := by decide +kernel
theorem dX3_setByte_36 : decode cX3_setByte 36 = .ok (.iload_n 2, 1) := by decide +kernel
theorem dX3_setByte_37 : decode cX3_setByte 37 = .ok (.invokevirtual 103, 3) := by decide +kernel
theorem dX3_setByte_40 : decode cX3_setByte 40 = .ok (.aload_n 0, 1) := by decide +kernel
theorem dX3_setByte_41 : decode cX3_setByte 41 = .ok (.getfield 33, 3) := by decide +kernel
theorem dX3_setByte_44 : decode cX3_setByte 44 = .ok (.iload 4, 2) := by decide +kernel
theorem dX3_setByte_46 : decode cX3_setByte 46 = .ok (.iload_n 2, 1) := by decide +kernel
theorem dX3_setByte_47 : decode cX3_setByte 47 = .ok (.iload_n 3, 1) := by decide +kernel
theorem dX3_setByte_48 : decode cX3_setByte 48 = .ok (.invokevirtual 115, 3) := by decide +kernel
theorem dX3_setByte_51 : decode cX3_setByte 51 = .ok (.return_, 1) := by decide +kernel
theorem dX3_shift_0 : decode cX3_shift 0 = .ok (.iload_n 1, 1) := by decide +kernel
theorem dX3_shift_1 : decode cX3_shift 1 = .ok (.invokestatic 46, 3) := by decide +kernel
theorem dX3_shift_4 : decode cX3_shift 4 = .ok (.iload_n 2, 1) := by decide +kernel
theorem dX3_shift_5 : decode cX3_shift 5 = .ok (.invokestatic 46, 3) := by decide +kernel
theorem dX3_shift_8 : decode cX3_shift 8 = .ok (.aload_n 0, 1) := by decide +kernel
theorem dX3_shift_9 : decode cX3_shift 9 = .ok (.iload_n 2, 1) := by decide +kernel
theorem dX3_shift_10 : decode cX3_shift 10 = .ok (.invokevirtual 118, 3) := by decide +kernel
theorem dX3_shift_13 : decode cX3_shift 13 = .ok (.istore 4, 2) := by decide +kernel
theorem dX3_shift_15 : decode cX3_shift 15 = .ok (.aload_n 0, 1) := by decide +kernel
theorem dX3_shift_16 : decode cX3_shift 16 = .ok (.getfield 24, 3) := by decide +kernel
theorem dX3_shift_19 : decode cX3_shift 19 = .ok (.iload_n 2, 1) := by decide +kernel
theorem dX3_shift_20 : decode cX3_shift 20 = .ok (.invokevirtual 121, 3) := by decide +kernel
theorem dX3_shift_23 : decode cX3_shift 23 = .ok (.i2l, 1) := by decide +kernel
theorem dX3_shift_24 : decode cX3_shift 24 = .ok (.iload_n 3, 1) := by decide +kernel
theorem dX3_shift_25 : decode cX3_shift 25 = .ok (.i2l, 1) := by decide +kernel
theorem dX3_shift_26 : decode cX3_shift 26 = .ok (.ladd, 1) := by decide +kernel
theorem dX3_shift_27 : decode cX3_shift 27 = .ok (.lstore 5, 2) := by decide +kernel
theorem dX3_shift_29 : decode cX3_shift 29 = .ok (.lload 5, 2) := by decide +kernel
theorem dX3_shift_31 : decode cX3_shift 31 = .ok (.lconst 0, 1) := by decide +kernel
theorem dX3_shift_32 : decode cX3_shift 32 = .ok (.lcmp, 1) := by decide +kernel
theorem dX3_shift_33 : decode cX3_shift 33 = .ok (.ifCond .lt 19, 3) := by decide +kernel
theorem dX3_shift_36 : decode cX3_shift 36 = .ok (.lload 5, 2) := by decide +kernel
theorem dX3_shift_38 : decode cX3_shift 38 = .ok (.aload_n 0, 1) := by decide +kernel
theorem dX3_shift_39 : decode cX3_shift 39 = .ok (.getfield 24, 3) := by decide +kernel
theorem dX3_shift_42 : decode cX3_shift 42 = .ok (.iload 4, 2) := by decide +kernel
theorem dX3_shift_44 : decode cX3_shift 44 = .ok (.invokevirtual 79, 3) := by decide +kernel
theorem dX3_shift_47 : decode cX3_shift 47 = .ok (.i2l, 1) := by decide +kernel
theorem dX3_shift_48 : decode cX3_shift 48 = .ok (.lcmp, 1) := by decide +kernel
theorem dX3_shift_49 : decode cX3_shift 49 = .ok (.ifCond .le 13, 3) := by decide +kernel
theorem dX3_shift_52 : decode cX3_shift 52 = .ok (.new 92, 3) := by decide +kernel
theorem dX3_shift_55 : decode cX3_shift 55 = .ok (.dup, 1) := by decide +kernel
theorem dX3_shift_56 : decode cX3_shift 56 = .ok (.ldc 124, 2) := by decide +kernel
theorem dX3_shift_58 : decode cX3_shift 58 = .ok (.invokespecial 96, 3) := by decide +kernel
theorem dX3_shift_61 : decode cX3_shift 61 = .ok (.athrow, 1) := by decide +kernel
theorem dX3_shift_62 : decode cX3_shift 62 = .ok (.aload_n 0, 1) := by decide +kernel
theorem dX3_shift_63 : decode cX3_shift 63 = .ok (.getfield 24, 3) := by decide +kernel
theorem dX3_shift_66 : decode cX3_shift 66 = .ok (.iload_n 1, 1) := by decide +kernel
theorem dX3_shift_67 : decode cX3_shift 67 = .ok (.iload 4, 2) := by decide +kernel
theorem dX3_shift_69 : decode cX3_shift 69 = .ok (.lload 5, 2) := by decide +kernel
theorem dX3_shift_71 : decode cX3_shift 71 = .ok (.l2i, 1) := by decide +kernel
theorem dX3_shift_72 : decode cX3_shift 72 = .ok (.invokevirtual 53, 3) := by decide +kernel
theorem dX3_shift_75 : decode cX3_shift 75 = .ok (.return_, 1) := by decide +kernel
theorem dX3_load_0 : decode cX3_load 0 = .ok (.iload_n 1, 1) := by decide +kernel
theorem dX3_load_1 : decode cX3_load 1 = .ok (.invokestatic 46, 3) := by decide +kernel
theorem dX3_load_4 : decode cX3_load 4 = .ok (.iload_n 2, 1) := by decide +kernel
theorem dX3_load_5 : decode cX3_load 5 = .ok (.invokestatic 46, 3) := by decide +kernel
theorem dX3_load_8 : decode cX3_load 8 = .ok (.aload_n 0, 1) := by decide +kernel
theorem dX3_load_9 : decode cX3_load 9 = .ok (.iload_n 2, 1) := by decide +kernel
theorem dX3_load_10 : decode cX3_load 10 = .ok (.iload_n 3, 1) := by decide +kernel
theorem dX3_load_11 : decode cX3_load 11 = .ok (.invokevirtual 126, 3) := by decide +kernel
theorem dX3_load_14 : decode cX3_load 14 = .ok (.istore 4, 2) := by decide +kernel
theorem dX3_load_16 : decode cX3_load 16 = .ok (.aload_n 0, 1) := by decide +kernel
theorem dX3_load_17 : decode cX3_load 17 = .ok (.getfield 24, 3) := by decide +kernel
theorem dX3_load_20 : decode cX3_load 20 = .ok (.iload_n 1, 1) := by decide +kernel
theorem dX3_load_21 : decode cX3_load 21 = .ok (.iload 4, 2) := by decide +kernel
theorem dX3_load_23 : decode cX3_load 23 = .ok (.invokevirtual 57, 3) := by decide +kernel
theorem dX3_load_26 : decode cX3_load 26 = .ok (.return_, 1) := by decide +kernel
theorem dX3_store_0 : decode cX3_store 0 = .ok (.iload_n 1, 1) := by decide +kernel
theorem dX3_store_1 : decode cX3_store 1 = .ok (.invokestatic 46, 3) := by decide +kernel
theorem dX3_store_4 : decode cX3_store 4 = .ok (.iload_n 3, 1) := by decide +kernel
theorem dX3_store_5 : decode cX3_store 5 = .ok (.invokestatic 46, 3) := by decide +kernel
theorem dX3_store_8 : decode cX3_store 8 = .ok (.aload_n 0, 1) := by decide +kernel
theorem dX3_store_9 : decode cX3_store 9 = .ok (.iload_n 1, 1) := by decide +kernel
theorem dX3_store_10 : decode cX3_store 10 = .ok (.iload_n 2, 1) := by decide +kernel
theorem dX3_store_11 : decode cX3_store 11 = .ok (.invokevirtual 126, 3) := by decide +kernel
theorem dX3_store_14 : decode cX3_store 14 = .ok (.istore 4, 2) := by decide +kernel
theorem dX3_store_16 : decode cX3_store 16 = .ok (.aload_n 0, 1) := by decide +kernel
theorem dX3_store_17 : decode cX3_store 17 = .ok (.getfield 24, 3) := by decide +kernel
theorem dX3_store_20 : decode cX3_store 20 = .ok (.iload 4, 2) := by decide +kernel
theorem dX3_store_22 : decode cX3_store 22 = .ok (.iload_n 3, 1) := by decide +kernel
theorem dX3_store_23 : decode cX3_store 23 = .ok (.invokevirtual 57, 3) := by decide +kernel
theorem dX3_store_26 : decode cX3_store 26 = .ok (.return_, 1) := by decide +kernel
theorem dX3_copy_0 : decode cX3_copy 0 = .ok (.iload_n 1, 1) := by decide +kernel
theorem dX3_copy_1 : decode cX3_copy 1 = .ok (.invokestatic 46, 3) := by decide +kernel
theorem dX3_copy_4 : decode cX3_copy 4 = .ok (.iload_n 2, 1) := by decide +kernel
theorem dX3_copy_5 : decode cX3_copy 5 = .ok (.invokestatic 46, 3) := by decide +kernel
theorem dX3_copy_8 : decode cX3_copy 8 = .ok (.iload_n 3, 1) := by decide +kernel
theorem dX3_copy_9 : decode cX3_copy 9 = .ok (.iconst 0, 1) := by decide +kernel
theorem dX3_copy_10 : decode cX3_copy 10 = .ok (.sipush 4096, 3) := by decide +kernel
theorem dX3_copy_13 : decode cX3_copy 13 = .ok (.invokestatic 61, 3) := by decide +kernel
theorem dX3_copy_16 : decode cX3_copy 16 = .ok (.aload_n 0, 1) := by decide +kernel
theorem dX3_copy_17 : decode cX3_copy 17 = .ok (.iload_n 1, 1) := by decide +kernel
theorem dX3_copy_18 : decode cX3_copy 18 = .ok (.invokevirtual 118, 3) := by decide +kernel
theorem dX3_copy_21 : decode cX3_copy 21 = .ok (.pop, 1) := by decide +kernel
theorem dX3_copy_22 : decode cX3_copy 22 = .ok (.aload_n 0, 1) := by decide +kernel
theorem dX3_copy_23 : decode cX3_copy 23 = .ok (.iload_n 2, 1) := by decide +kernel
theorem dX3_copy_24 : decode cX3_copy 24 = .ok (.invokevirtual 118, 3) := by decide +kernel
theorem dX3_copy_27 : decode cX3_copy 27 = .ok (.pop, 1) := by decide +kernel
theorem dX3_copy_28 : decode cX3_copy 28 = .ok (.aload_n 0, 1) := by decide +kernel
theorem dX3_copy_29 : decode cX3_copy 29 = .ok (.iload_n 1, 1) := by decide +kernel
theorem dX3_copy_30 : decode cX3_copy 30 = .ok (.iload_n 3, 1) := by decide +kernel
theorem dX3_copy_31 : decode cX3_copy 31 = .ok (.invokevirtual 129, 3) := by decide +kernel
theorem dX3_copy_34 : decode cX3_copy 34 = .ok (.aload_n 0, 1) := by decide +kernel
theorem dX3_copy_35 : decode cX3_copy 35 = .ok (.iload_n 2, 1) := by decide +kernel
theorem dX3_copy_36 : decode cX3_copy 36 = .ok (.iload_n 3, 1) := by decide +kernel
theorem dX3_copy_37 : decode cX3_copy 37 = .ok (.invokevirtual 129, 3) := by decide +kernel
theorem dX3_copy_40 : decode cX3_copy 40 = .ok (.aload_n 0, 1) := by decide +kernel
theorem dX3_copy_41 : decode cX3_copy 41 = .ok (.getfield 24, 3) := by decide +kernel
theorem dX3_copy_44 : decode cX3_copy 44 = .ok (.aload_n 0, 1) := by decide +kernel
theorem dX3_copy_45 : decode cX3_copy 45 = .ok (.iload_n 1, 1) := by decide +kernel
theorem dX3_copy_46 : decode cX3_copy 46 = .ok (.invokevirtual 132, 3) := by decide +kernel
theorem dX3_copy_49 : decode cX3_copy 49 = .ok (.aload_n 0, 1) := by decide +kernel
theorem dX3_copy_50 : decode cX3_copy 50 = .ok (.iload_n 2, 1) := by decide +kernel
theorem dX3_copy_51 : decode cX3_copy 51 = .ok (.invokevirtual 132, 3) := by decide +kernel
theorem dX3_copy_54 : decode cX3_copy 54 = .ok (.iload_n 3, 1) := by decide +kernel
theorem dX3_copy_55 : decode cX3_copy 55 = .ok (.invokevirtual 135, 3) := by decide +kernel
theorem dX3_copy_58 : decode cX3_copy 58 = .ok (.return_, 1) := by decide +kernel
theorem dX3_put_0 : decode cX3_put 0 = .ok (.aload_n 0, 1) := by decide +kernel
theorem dX3_put_1 : decode cX3_put 1 = .ok (.iload_n 1, 1) := by decide +kernel
theorem dX3_put_2 : decode cX3_put 2 = .ok (.iload_n 2, 1) := by decide +kernel
theorem dX3_put_3 : decode cX3_put 3 = .ok (.invokevirtual 138, 3) := by decide +kernel
theorem dX3_put_6 : decode cX3_put 6 = .ok (.aload_n 0, 1) := by decide +kernel
theorem dX3_put_7 : decode cX3_put 7 = .ok (.iload_n 1, 1) := by decide +kernel
theorem dX3_put_8 : decode cX3_put 8 = .ok (.iload_n 2, 1) := by decide +kernel
theorem dX3_put_9 : decode cX3_put 9 = .ok (.invokevirtual 141, 3) := by decide +kernel
theorem dX3_put_12 : decode cX3_put 12 = .ok (.aload_n 0, 1) := by decide +kernel
theorem dX3_put_13 : decode cX3_put 13 = .ok (.getfield 42, 3) := by decide +kernel
theorem dX3_put_16 : decode cX3_put 16 = .ok (.aload_n 0, 1) := by decide +kernel
theorem dX3_put_17 : decode cX3_put 17 = .ok (.getfield 24, 3) := by decide +kernel
theorem dX3_put_20 : decode cX3_put 20 = .ok (.iload_n 1, 1) := by decide +kernel
theorem dX3_put_21 : decode cX3_put 21 = .ok (.invokevirtual 144, 3) := by decide +kernel
theorem dX3_put_24 : decode cX3_put 24 = .ok (.aload_n 0, 1) := by decide +kernel
theorem dX3_put_25 : decode cX3_put 25 = .ok (.getfield 24, 3) := by decide +kernel
theorem dX3_put_28 : decode cX3_put 28 = .ok (.iload_n 2, 1) := by decide +kernel
theorem dX3_put_29 : decode cX3_put 29 = .ok (.invokevirtual 144, 3) := by decide +kernel
theorem dX3_put_32 : decode cX3_put 32 = .ok (.aload_n 0, 1) := by decide +kernel
theorem dX3_put_33 : decode cX3_put 33 = .ok (.getfield 24, 3) := by decide +kernel
theorem dX3_put_36 : decode cX3_put 36 = .ok (.iload_n 2, 1) := by decide +kernel
theorem dX3_put_37 : decode cX3_put 37 = .ok (.invokevirtual 121, 3) := by decide +kernel
theorem dX3_put_40 : decode cX3_put 40 = .ok (.invokevirtual 147, 3) := by decide +kernel
theorem dX3_put_43 : decode cX3_put 43 = .ok (.ireturn, 1) := by decide +kernel
theorem dX3_get_0 : decode cX3_get 0 = .ok (.aload_n 0, 1) := by decide +kernel
theorem dX3_get_1 : decode cX3_get 1 = .ok (.iload_n 1, 1) := by decide +kernel
theorem dX3_get_2 : decode cX3_get 2 = .ok (.iload_n 2, 1) := by decide +kernel
theorem dX3_get_3 : decode cX3_get 3 = .ok (.invokevirtual 138, 3) := by decide +kernel
theorem dX3_get_6 : decode cX3_get 6 = .ok (.aload_n 0, 1) := by decide +kernel
theorem dX3_get_7 : decode cX3_get 7 = .ok (.iload_n 1, 1) := by decide +kernel
theorem dX3_get_8 : decode cX3_get 8 = .ok (.iload_n 2, 1) := by decide +kernel
theorem dX3_get_9 : decode cX3_get 9 = .ok (.invokevirtual 141, 3) := by decide +kernel
theorem dX3_get_12 : decode cX3_get 12 = .ok (.aload_n 0, 1) := by decide +kernel
theorem dX3_get_13 : decode cX3_get 13 = .ok (.getfield 42, 3) := by decide +kernel
theorem dX3_get_16 : decode cX3_get 16 = .ok (.aload_n 0, 1) := by decide +kernel
theorem dX3_get_17 : decode cX3_get 17 = .ok (.getfield 24, 3) := by decide +kernel
theorem dX3_get_20 : decode cX3_get 20 = .ok (.iload_n 1, 1) := by decide +kernel
theorem dX3_get_21 : decode cX3_get 21 = .ok (.invokevirtual 144, 3) := by decide +kernel
theorem dX3_get_24 : decode cX3_get 24 = .ok (.aload_n 0, 1) := by decide +kernel
theorem dX3_get_25 : decode cX3_get 25 = .ok (.iload_n 2, 1) := by decide +kernel
theorem dX3_get_26 : decode cX3_get 26 = .ok (.invokevirtual 132, 3) := by decide +kernel
theorem dX3_get_29 : decode cX3_get 29 = .ok (.invokevirtual 150, 3) := by decide +kernel
theorem dX3_get_32 : decode cX3_get 32 = .ok (.ireturn, 1) := by decide +kernel
theorem dX3_remove_0 : decode cX3_remove 0 = .ok (.aload_n 0, 1) := by decide +kernel
theorem dX3_remove_1 : decode cX3_remove 1 = .ok (.iload_n 1, 1) := by decide +kernel
theorem dX3_remove_2 : decode cX3_remove 2 = .ok (.iload_n 2, 1) := by decide +kernel
theorem dX3_remove_3 : decode cX3_remove 3 = .ok (.invokevirtual 138, 3) := by decide +kernel
theorem dX3_remove_6 : decode cX3_remove 6 = .ok (.aload_n 0, 1) := by decide +kernel
theorem dX3_remove_7 : decode cX3_remove 7 = .ok (.iload_n 1, 1) := by decide +kernel
theorem dX3_remove_8 : decode cX3_remove 8 = .ok (.iload_n 2, 1) := by decide +kernel
theorem dX3_remove_9 : decode cX3_remove 9 = .ok (.invokevirtual 141, 3) := by decide +kernel
theorem dX3_remove_12 : decode cX3_remove 12 = .ok (.aload_n 0, 1) := by decide +kernel
theorem dX3_remove_13 : decode cX3_remove 13 = .ok (.getfield 42, 3) := by decide +kernel
theorem dX3_remove_16 : decode cX3_remove 16 = .ok (.aload_n 0, 1) := by decide +kernel
theorem dX3_remove_17 : decode cX3_remove 17 = .ok (.getfield 24, 3) := by decide +kernel
theorem dX3_remove_20 : decode cX3_remove 20 = .ok (.iload_n 1, 1) := by decide +kernel
theorem dX3_remove_21 : decode cX3_remove 21 = .ok (.invokevirtual 144, 3) := by decide +kernel
theorem dX3_remove_24 : decode cX3_remove 24 = .ok (.aload_n 0, 1) := by decide +kernel
theorem dX3_remove_25 : decode cX3_remove 25 = .ok (.iload_n 2, 1) := by decide +kernel
theorem dX3_remove_26 : decode cX3_remove 26 = .ok (.invokevirtual 132, 3) := by decide +kernel
theorem dX3_remove_29 : decode cX3_remove 29 = .ok (.invokevirtual 153, 3) := by decide +kernel
theorem dX3_remove_32 : decode cX3_remove 32 = .ok (.ireturn, 1) := by decide +kernel
theorem dX3_next_0 : decode cX3_next 0 = .ok (.iload_n 1, 1) := by decide +kernel
theorem dX3_next_1 : decode cX3_next 1 = .ok (.invokestatic 46, 3) := by decide +kernel
theorem dX3_next_4 : decode cX3_next 4 = .ok (.aload_n 0, 1) := by decide +kernel
theorem dX3_next_5 : decode cX3_next 5 = .ok (.getfield 42, 3) := by decide +kernel
theorem dX3_next_8 : decode cX3_next 8 = .ok (.aload_n 0, 1) := by decide +kernel
theorem dX3_next_9 : decode cX3_next 9 = .ok (.iload_n 1, 1) := by decide +kernel
theorem dX3_next_10 : decode cX3_next 10 = .ok (.invokevirtual 156, 3) := by decide +kernel
theorem dX3_next_13 : decode cX3_next 13 = .ok (.iload_n 2, 1) := by decide +kernel
theorem dX3_next_14 : decode cX3_next 14 = .ok (.invokevirtual 159, 3) := by decide +kernel
theorem dX3_next_17 : decode cX3_next 17 = .ok (.istore_n 3, 1) := by decide +kernel
theorem dX3_next_18 : decode cX3_next 18 = .ok (.iload_n 3, 1) := by decide +kernel
theorem dX3_next_19 : decode cX3_next 19 = .ok (.iconst (-1), 1) := by decide +kernel
theorem dX3_next_20 : decode cX3_next 20 = .ok (.if_icmp .ne 7, 3) := by decide +kernel
theorem dX3_next_23 : decode cX3_next 23 = .ok (.iconst (-1), 1) := by decide +kernel
theorem dX3_next_24 : decode cX3_next 24 = .ok (.goto 11, 3) := by decide +kernel
theorem dX3_next_27 : decode cX3_next 27 = .ok (.aload_n 0, 1) := by decide +kernel
theorem dX3_next_28 : decode cX3_next 28 = .ok (.getfield 42, 3) := by decide +kernel
theorem dX3_next_31 : decode cX3_next 31 = .ok (.iload_n 3, 1) := by decide +kernel
theorem dX3_next_32 : decode cX3_next 32 = .ok (.invokevirtual 162, 3) := by decide +kernel
theorem dX3_next_35 : decode cX3_next 35 = .ok (.ireturn, 1) := by decide +kernel
theorem dX3_entry_0 : decode cX3_entry 0 = .ok (.aload_n 0, 1) := by decide +kernel
theorem dX3_entry_1 : decode cX3_entry 1 = .ok (.iload_n 1, 1) := by decide +kernel
theorem dX3_entry_2 : decode cX3_entry 2 = .ok (.iload_n 3, 1) := by decide +kernel
theorem dX3_entry_3 : decode cX3_entry 3 = .ok (.invokevirtual 138, 3) := by decide +kernel
theorem dX3_entry_6 : decode cX3_entry 6 = .ok (.aload_n 0, 1) := by decide +kernel
theorem dX3_entry_7 : decode cX3_entry 7 = .ok (.getfield 24, 3) := by decide +kernel
theorem dX3_entry_10 : decode cX3_entry 10 = .ok (.iload_n 1, 1) := by decide +kernel
theorem dX3_entry_11 : decode cX3_entry 11 = .ok (.invokevirtual 144, 3) := by decide +kernel
theorem dX3_entry_14 : decode cX3_entry 14 = .ok (.istore 4, 2) := by decide +kernel
theorem dX3_entry_16 : decode cX3_entry 16 = .ok (.aload_n 0, 1) := by decide +kernel
theorem dX3_entry_17 : decode cX3_entry 17 = .ok (.getfield 42, 3) := by decide +kernel
theorem dX3_entry_20 : decode cX3_entry 20 = .ok (.iload 4, 2) := by decide +kernel
theorem dX3_entry_22 : decode cX3_entry 22 = .ok (.iload_n 2, 1) := by decide +kernel
theorem dX3_entry_23 : decode cX3_entry 23 = .ok (.invokevirtual 159, 3) := by decide +kernel
theorem dX3_entry_26 : decode cX3_entry 26 = .ok (.istore 5, 2) := by decide +kernel
theorem dX3_entry_28 : decode cX3_entry 28 = .ok (.iload 5, 2) := by decide +kernel
theorem dX3_entry_30 : decode cX3_entry 30 = .ok (.iconst (-1), 1) := by decide +kernel
theorem dX3_entry_31 : decode cX3_entry 31 = .ok (.if_icmp .eq 16, 3) := by decide +kernel
theorem dX3_entry_34 : decode cX3_entry 34 = .ok (.aload_n 0, 1) := by decide +kernel
theorem dX3_entry_35 : decode cX3_entry 35 = .ok (.getfield 42, 3) := by decide +kernel
theorem dX3_entry_38 : decode cX3_entry 38 = .ok (.iload 5, 2) := by decide +kernel
theorem dX3_entry_40 : decode cX3_entry 40 = .ok (.invokevirtual 162, 3) := by decide +kernel
theorem dX3_entry_43 : decode cX3_entry 43 = .ok (.iload_n 2, 1) := by decide +kernel
theorem dX3_entry_44 : decode cX3_entry 44 = .ok (.if_icmp .eq 13, 3) := by decide +kernel
theorem dX3_entry_47 : decode cX3_entry 47 = .ok (.new 165, 3) := by decide +kernel
theorem dX3_entry_50 : decode cX3_entry 50 = .ok (.dup, 1) := by decide +kernel
theorem dX3_entry_51 : decode cX3_entry 51 = .ok (.ldc 167, 2) := by decide +kernel
theorem dX3_entry_53 : decode cX3_entry 53 = .ok (.invokespecial 169, 3) := by decide +kernel
theorem dX3_entry_56 : decode cX3_entry 56 = .ok (.athrow, 1) := by decide +kernel
theorem dX3_entry_57 : decode cX3_entry 57 = .ok (.aload_n 0, 1) := by decide +kernel
theorem dX3_entry_58 : decode cX3_entry 58 = .ok (.getfield 42, 3) := by decide +kernel
theorem dX3_entry_61 : decode cX3_entry 61 = .ok (.iload 4, 2) := by decide +kernel
theorem dX3_entry_63 : decode cX3_entry 63 = .ok (.iload 5, 2) := by decide +kernel
theorem dX3_entry_65 : decode cX3_entry 65 = .ok (.aload_n 0, 1) := by decide +kernel
theorem dX3_entry_66 : decode cX3_entry 66 = .ok (.iload_n 3, 1) := by decide +kernel
theorem dX3_entry_67 : decode cX3_entry 67 = .ok (.invokevirtual 132, 3) := by decide +kernel
theorem dX3_entry_70 : decode cX3_entry 70 = .ok (.invokevirtual 170, 3) := by decide +kernel
theorem dX3_entry_73 : decode cX3_entry 73 = .ok (.return_, 1) := by decide +kernel
theorem dX3_collect_0 : decode cX3_collect 0 = .ok (.aload_n 0, 1) := by decide +kernel
theorem dX3_collect_1 : decode cX3_collect 1 = .ok (.getfield 24, 3) := by decide +kernel
theorem dX3_collect_4 : decode cX3_collect 4 = .ok (.invokevirtual 173, 3) := by decide +kernel
theorem dX3_collect_7 : decode cX3_collect 7 = .ok (.ireturn, 1) := by decide +kernel
theorem dX3_eager_0 : decode cX3_eager 0 = .ok (.aload_n 0, 1) := by decide +kernel
theorem dX3_eager_1 : decode cX3_eager 1 = .ok (.getfield 24, 3) := by decide +kernel
theorem dX3_eager_4 : decode cX3_eager 4 = .ok (.iload_n 1, 1) := by decide +kernel
theorem dX3_eager_5 : decode cX3_eager 5 = .ok (.invokevirtual 177, 3) := by decide +kernel
theorem dX3_eager_8 : decode cX3_eager 8 = .ok (.return_, 1) := by decide +kernel
theorem dX3_tell_0 : decode cX3_tell 0 = .ok (.iload_n 1, 1) := by decide +kernel
theorem dX3_tell_1 : decode cX3_tell 1 = .ok (.invokestatic 46, 3) := by decide +kernel
theorem dX3_tell_4 : decode cX3_tell 4 = .ok (.iload_n 2, 1) := by decide +kernel
theorem dX3_tell_5 : decode cX3_tell 5 = .ok (.iconst 0, 1) := by decide +kernel
theorem dX3_tell_6 : decode cX3_tell 6 = .ok (.iconst 4, 1) := by decide +kernel
theorem dX3_tell_7 : decode cX3_tell 7 = .ok (.invokestatic 61, 3) := by decide +kernel
theorem dX3_tell_10 : decode cX3_tell 10 = .ok (.aload_n 0, 1) := by decide +kernel
theorem dX3_tell_11 : decode cX3_tell 11 = .ok (.getfield 24, 3) := by decide +kernel
theorem dX3_tell_14 : decode cX3_tell 14 = .ok (.iload_n 1, 1) := by decide +kernel
theorem dX3_tell_15 : decode cX3_tell 15 = .ok (.invokevirtual 181, 3) := by decide +kernel
theorem dX3_tell_18 : decode cX3_tell 18 = .ok (.istore_n 3, 1) := by decide +kernel
theorem dX3_tell_19 : decode cX3_tell 19 = .ok (.iload_n 2, 1) := by decide +kernel
theorem dX3_tell_20 : decode cX3_tell 20 = .ok (.ifCond .ne 5, 3) := by decide +kernel
theorem dX3_tell_23 : decode cX3_tell 23 = .ok (.iload_n 3, 1) := by decide +kernel
theorem dX3_tell_24 : decode cX3_tell 24 = .ok (.ireturn, 1) := by decide +kernel
theorem dX3_tell_25 : decode cX3_tell 25 = .ok (.iload_n 3, 1) := by decide +kernel
theorem dX3_tell_26 : decode cX3_tell 26 = .ok (.ifCond .eq 8, 3) := by decide +kernel
theorem dX3_tell_29 : decode cX3_tell 29 = .ok (.iload_n 3, 1) := by decide +kernel
theorem dX3_tell_30 : decode cX3_tell 30 = .ok (.iconst 1, 1) := by decide +kernel
theorem dX3_tell_31 : decode cX3_tell 31 = .ok (.if_icmp .ne 5, 3) := by decide +kernel
theorem dX3_tell_34 : decode cX3_tell 34 = .ok (.iconst 0, 1) := by decide +kernel
theorem dX3_tell_35 : decode cX3_tell 35 = .ok (.ireturn, 1) := by decide +kernel
theorem dX3_tell_36 : decode cX3_tell 36 = .ok (.aload_n 0, 1) := by decide +kernel
theorem dX3_tell_37 : decode cX3_tell 37 = .ok (.getfield 24, 3) := by decide +kernel
theorem dX3_tell_40 : decode cX3_tell 40 = .ok (.iload_n 1, 1) := by decide +kernel
theorem dX3_tell_41 : decode cX3_tell 41 = .ok (.invokevirtual 144, 3) := by decide +kernel
theorem dX3_tell_44 : decode cX3_tell 44 = .ok (.istore 4, 2) := by decide +kernel
theorem dX3_tell_46 : decode cX3_tell 46 = .ok (.iload_n 2, 1) := by decide +kernel
theorem dX3_tell_47 : decode cX3_tell 47 = .ok (.tableswitch 71 1 3 #[25, 35, 44], 25) := by decide +kernel
theorem dX3_tell_72 : decode cX3_tell 72 = .ok (.aload_n 0, 1) := by decide +kernel
theorem dX3_tell_73 : decode cX3_tell 73 = .ok (.getfield 24, 3) := by decide +kernel
theorem dX3_tell_76 : decode cX3_tell 76 = .ok (.iload 4, 2) := by decide +kernel
theorem dX3_tell_78 : decode cX3_tell 78 = .ok (.invokevirtual 184, 3) := by decide +kernel
theorem dX3_tell_81 : decode cX3_tell 81 = .ok (.ireturn, 1) := by decide +kernel
theorem dX3_tell_82 : decode cX3_tell 82 = .ok (.aload_n 0, 1) := by decide +kernel
theorem dX3_tell_83 : decode cX3_tell 83 = .ok (.getfield 24, 3) := by decide +kernel
theorem dX3_tell_86 : decode cX3_tell 86 = .ok (.iload_n 1, 1) := by decide +kernel
theorem dX3_tell_87 : decode cX3_tell 87 = .ok (.invokevirtual 121, 3) := by decide +kernel
theorem dX3_tell_90 : decode cX3_tell 90 = .ok (.ireturn, 1) := by decide +kernel
theorem dX3_tell_91 : decode cX3_tell 91 = .ok (.iload_n 3, 1) := by decide +kernel
theorem dX3_tell_92 : decode cX3_tell 92 = .ok (.iconst 4, 1) := by decide +kernel
theorem dX3_tell_93 : decode cX3_tell 93 = .ok (.if_icmp .ne 15, 3) := by decide +kernel
theorem dX3_tell_96 : decode cX3_tell 96 = .ok (.aload_n 0, 1) := by decide +kernel
theorem dX3_tell_97 : decode cX3_tell 97 = .ok (.getfield 42, 3) := by decide +kernel
theorem dX3_tell_100 : decode cX3_tell 100 = .ok (.iload 4, 2) := by decide +kernel
theorem dX3_tell_102 : decode cX3_tell 102 = .ok (.invokevirtual 187, 3) := by decide +kernel
theorem dX3_tell_105 : decode cX3_tell 105 = .ok (.goto 12, 3) := by decide +kernel
theorem dX3_tell_108 : decode cX3_tell 108 = .ok (.aload_n 0, 1) := by decide +kernel
theorem dX3_tell_109 : decode cX3_tell 109 = .ok (.getfield 24, 3) := by decide +kernel
theorem dX3_tell_112 : decode cX3_tell 112 = .ok (.iload 4, 2) := by decide +kernel
theorem dX3_tell_114 : decode cX3_tell 114 = .ok (.invokevirtual 79, 3) := by decide +kernel
theorem dX3_tell_117 : decode cX3_tell 117 = .ok (.ireturn, 1) := by decide +kernel
theorem dX3_tell_118 : decode cX3_tell 118 = .ok (.iload_n 3, 1) := by decide +kernel
theorem dX3_tell_119 : decode cX3_tell 119 = .ok (.iconst 4, 1) := by decide +kernel
theorem dX3_tell_120 : decode cX3_tell 120 = .ok (.if_icmp .ne 15, 3) := by decide +kernel
theorem dX3_tell_123 : decode cX3_tell 123 = .ok (.aload_n 0, 1) := by decide +kernel
theorem dX3_tell_124 : decode cX3_tell 124 = .ok (.getfield 42, 3) := by decide +kernel
theorem dX3_tell_127 : decode cX3_tell 127 = .ok (.iload 4, 2) := by decide +kernel
theorem dX3_tell_129 : decode cX3_tell 129 = .ok (.invokevirtual 190, 3) := by decide +kernel
theorem dX3_tell_132 : decode cX3_tell 132 = .ok (.goto 4, 3) := by decide +kernel
theorem dX3_tell_135 : decode cX3_tell 135 = .ok (.iconst 0, 1) := by decide +kernel
theorem dX3_tell_136 : decode cX3_tell 136 = .ok (.ireturn, 1) := by decide +kernel
theorem dX3_value_0 : decode cX3_value 0 = .ok (.iload_n 1, 1) := by decide +kernel
theorem dX3_value_1 : decode cX3_value 1 = .ok (.invokestatic 46, 3) := by decide +kernel
theorem dX3_value_4 : decode cX3_value 4 = .ok (.aload_n 0, 1) := by decide +kernel
theorem dX3_value_5 : decode cX3_value 5 = .ok (.getfield 24, 3) := by decide +kernel
theorem dX3_value_8 : decode cX3_value 8 = .ok (.iload_n 1, 1) := by decide +kernel
theorem dX3_value_9 : decode cX3_value 9 = .ok (.invokevirtual 193, 3) := by decide +kernel
theorem dX3_value_12 : decode cX3_value 12 = .ok (.ifCond .eq 13, 3) := by decide +kernel
theorem dX3_value_15 : decode cX3_value 15 = .ok (.new 82, 3) := by decide +kernel
theorem dX3_value_18 : decode cX3_value 18 = .ok (.dup, 1) := by decide +kernel
theorem dX3_value_19 : decode cX3_value 19 = .ok (.ldc 196, 2) := by decide +kernel
theorem dX3_value_21 : decode cX3_value 21 = .ok (.invokespecial 86, 3) := by decide +kernel
theorem dX3_value_24 : decode cX3_value 24 = .ok (.athrow, 1) := by decide +kernel
theorem dX3_value_25 : decode cX3_value 25 = .ok (.aload_n 0, 1) := by decide +kernel
theorem dX3_value_26 : decode cX3_value 26 = .ok (.getfield 24, 3) := by decide +kernel
theorem dX3_value_29 : decode cX3_value 29 = .ok (.iload_n 1, 1) := by decide +kernel
theorem dX3_value_30 : decode cX3_value 30 = .ok (.invokevirtual 198, 3) := by decide +kernel
theorem dX3_value_33 : decode cX3_value 33 = .ok (.lreturn, 1) := by decide +kernel
theorem dX3_same_0 : decode cX3_same 0 = .ok (.iload_n 1, 1) := by decide +kernel
theorem dX3_same_1 : decode cX3_same 1 = .ok (.invokestatic 46, 3) := by decide +kernel
theorem dX3_same_4 : decode cX3_same 4 = .ok (.iload_n 2, 1) := by decide +kernel
theorem dX3_same_5 : decode cX3_same 5 = .ok (.invokestatic 46, 3) := by decide +kernel
theorem dX3_same_8 : decode cX3_same 8 = .ok (.aload_n 0, 1) := by decide +kernel
theorem dX3_same_9 : decode cX3_same 9 = .ok (.getfield 24, 3) := by decide +kernel
theorem dX3_same_12 : decode cX3_same 12 = .ok (.iload_n 1, 1) := by decide +kernel
theorem dX3_same_13 : decode cX3_same 13 = .ok (.iload_n 2, 1) := by decide +kernel
theorem dX3_same_14 : decode cX3_same 14 = .ok (.invokevirtual 202, 3) := by decide +kernel
theorem dX3_same_17 : decode cX3_same 17 = .ok (.ireturn, 1) := by decide +kernel
theorem dX3_total_0 : decode cX3_total 0 = .ok (.iload_n 1, 1) := by decide +kernel
theorem dX3_total_1 : decode cX3_total 1 = .ok (.iconst 0, 1) := by decide +kernel
theorem dX3_total_2 : decode cX3_total 2 = .ok (.iconst 4, 1) := by decide +kernel
theorem dX3_total_3 : decode cX3_total 3 = .ok (.invokestatic 61, 3) := by decide +kernel
theorem dX3_total_6 : decode cX3_total 6 = .ok (.aload_n 0, 1) := by decide +kernel
theorem dX3_total_7 : decode cX3_total 7 = .ok (.getfield 24, 3) := by decide +kernel
theorem dX3_total_10 : decode cX3_total 10 = .ok (.iload_n 1, 1) := by decide +kernel
theorem dX3_total_11 : decode cX3_total 11 = .ok (.invokevirtual 206, 3) := by decide +kernel
theorem dX3_total_14 : decode cX3_total 14 = .ok (.ireturn, 1) := by decide +kernel
theorem dX3_needRegister_0 : decode cX3_needRegister 0 = .ok (.iload_n 0, 1) := by decide +kernel
theorem dX3_needRegister_1 : decode cX3_needRegister 1 = .ok (.ifCond .lt 9, 3) := by decide +kernel
theorem dX3_needRegister_4 : decode cX3_needRegister 4 = .ok (.iload_n 0, 1) := by decide +kernel
theorem dX3_needRegister_5 : decode cX3_needRegister 5 = .ok (.bipush 16, 2) := by decide +kernel
theorem dX3_needRegister_7 : decode cX3_needRegister 7 = .ok (.if_icmp .lt 13, 3) := by decide +kernel
theorem dX3_needRegister_10 : decode cX3_needRegister 10 = .ok (.new 209, 3) := by decide +kernel
theorem dX3_needRegister_13 : decode cX3_needRegister 13 = .ok (.dup, 1) := by decide +kernel
theorem dX3_needRegister_14 : decode cX3_needRegister 14 = .ok (.ldc 211, 2) := by decide +kernel
theorem dX3_needRegister_16 : decode cX3_needRegister 16 = .ok (.invokespecial 213, 3) := by decide +kernel
theorem dX3_needRegister_19 : decode cX3_needRegister 19 = .ok (.athrow, 1) := by decide +kernel
theorem dX3_needRegister_20 : decode cX3_needRegister 20 = .ok (.return_, 1) := by decide +kernel
theorem dX3_needWithin_0 : decode cX3_needWithin 0 = .ok (.iload_n 0, 1) := by decide +kernel
theorem dX3_needWithin_1 : decode cX3_needWithin 1 = .ok (.iload_n 1, 1) := by decide +kernel
theorem dX3_needWithin_2 : decode cX3_needWithin 2 = .ok (.if_icmp .lt 8, 3) := by decide +kernel
theorem dX3_needWithin_5 : decode cX3_needWithin 5 = .ok (.iload_n 0, 1) := by decide +kernel
theorem dX3_needWithin_6 : decode cX3_needWithin 6 = .ok (.iload_n 2, 1) := by decide +kernel
theorem dX3_needWithin_7 : decode cX3_needWithin 7 = .ok (.if_icmp .le 13, 3) := by decide +kernel
theorem dX3_needWithin_10 : decode cX3_needWithin 10 = .ok (.new 209, 3) := by decide +kernel
theorem dX3_needWithin_13 : decode cX3_needWithin 13 = .ok (.dup, 1) := by decide +kernel
theorem dX3_needWithin_14 : decode cX3_needWithin 14 = .ok (.ldc 214, 2) := by decide +kernel
theorem dX3_needWithin_16 : decode cX3_needWithin 16 = .ok (.invokespecial 213, 3) := by decide +kernel
theorem dX3_needWithin_19 : decode cX3_needWithin 19 = .ok (.athrow, 1) := by decide +kernel
theorem dX3_needWithin_20 : decode cX3_needWithin 20 = .ok (.return_, 1) := by decide +kernel
theorem dX3_textIn_0 : decode cX3_textIn 0 = .ok (.aload_n 0, 1) := by decide +kernel
theorem dX3_textIn_1 : decode cX3_textIn 1 = .ok (.getfield 24, 3) := by decide +kernel
theorem dX3_textIn_4 : decode cX3_textIn 4 = .ok (.iload_n 1, 1) := by decide +kernel
theorem dX3_textIn_5 : decode cX3_textIn 5 = .ok (.invokevirtual 181, 3) := by decide +kernel
theorem dX3_textIn_8 : decode cX3_textIn 8 = .ok (.istore_n 2, 1) := by decide +kernel
theorem dX3_textIn_9 : decode cX3_textIn 9 = .ok (.iload_n 2, 1) := by decide +kernel
theorem dX3_textIn_10 : decode cX3_textIn 10 = .ok (.iconst 3, 1) := by decide +kernel
theorem dX3_textIn_11 : decode cX3_textIn 11 = .ok (.if_icmp .eq 18, 3) := by decide +kernel
theorem dX3_textIn_14 : decode cX3_textIn 14 = .ok (.iload_n 2, 1) := by decide +kernel
theorem dX3_textIn_15 : decode cX3_textIn 15 = .ok (.iconst 1, 1) := by decide +kernel
theorem dX3_textIn_16 : decode cX3_textIn 16 = .ok (.if_icmp .eq 13, 3) := by decide +kernel
theorem dX3_textIn_19 : decode cX3_textIn 19 = .ok (.new 82, 3) := by decide +kernel
theorem dX3_textIn_22 : decode cX3_textIn 22 = .ok (.dup, 1) := by decide +kernel
theorem dX3_textIn_23 : decode cX3_textIn 23 = .ok (.ldc 216, 2) := by decide +kernel
theorem dX3_textIn_25 : decode cX3_textIn 25 = .ok (.invokespecial 86, 3) := by decide +kernel
theorem dX3_textIn_28 : decode cX3_textIn 28 = .ok (.athrow, 1) := by decide +kernel
theorem dX3_textIn_29 : decode cX3_textIn 29 = .ok (.aload_n 0, 1) := by decide +kernel
theorem dX3_textIn_30 : decode cX3_textIn 30 = .ok (.getfield 24, 3) := by decide +kernel
theorem dX3_textIn_33 : decode cX3_textIn 33 = .ok (.iload_n 1, 1) := by decide +kernel
theorem dX3_textIn_34 : decode cX3_textIn 34 = .ok (.invokevirtual 144, 3) := by decide +kernel
theorem dX3_textIn_37 : decode cX3_textIn 37 = .ok (.ireturn, 1) := by decide +kernel
theorem dX3_rowIn_0 : decode cX3_rowIn 0 = .ok (.aload_n 0, 1) := by decide +kernel
theorem dX3_rowIn_1 : decode cX3_rowIn 1 = .ok (.getfield 24, 3) := by decide +kernel
theorem dX3_rowIn_4 : decode cX3_rowIn 4 = .ok (.iload_n 1, 1) := by decide +kernel
theorem dX3_rowIn_5 : decode cX3_rowIn 5 = .ok (.invokevirtual 181, 3) := by decide +kernel
theorem dX3_rowIn_8 : decode cX3_rowIn 8 = .ok (.iconst 2, 1) := by decide +kernel
theorem dX3_rowIn_9 : decode cX3_rowIn 9 = .ok (.if_icmp .eq 13, 3) := by decide +kernel
theorem dX3_rowIn_12 : decode cX3_rowIn 12 = .ok (.new 82, 3) := by decide +kernel
theorem dX3_rowIn_15 : decode cX3_rowIn 15 = .ok (.dup, 1) := by decide +kernel
theorem dX3_rowIn_16 : decode cX3_rowIn 16 = .ok (.ldc 218, 2) := by decide +kernel
theorem dX3_rowIn_18 : decode cX3_rowIn 18 = .ok (.invokespecial 86, 3) := by decide +kernel
theorem dX3_rowIn_21 : decode cX3_rowIn 21 = .ok (.athrow, 1) := by decide +kernel
theorem dX3_rowIn_22 : decode cX3_rowIn 22 = .ok (.aload_n 0, 1) := by decide +kernel
theorem dX3_rowIn_23 : decode cX3_rowIn 23 = .ok (.getfield 24, 3) := by decide +kernel
theorem dX3_rowIn_26 : decode cX3_rowIn 26 = .ok (.iload_n 1, 1) := by decide +kernel
theorem dX3_rowIn_27 : decode cX3_rowIn 27 = .ok (.invokevirtual 144, 3) := by decide +kernel
theorem dX3_rowIn_30 : decode cX3_rowIn 30 = .ok (.ireturn, 1) := by decide +kernel
theorem dX3_mapIn_0 : decode cX3_mapIn 0 = .ok (.aload_n 0, 1) := by decide +kernel
theorem dX3_mapIn_1 : decode cX3_mapIn 1 = .ok (.getfield 24, 3) := by decide +kernel
theorem dX3_mapIn_4 : decode cX3_mapIn 4 = .ok (.iload_n 1, 1) := by decide +kernel
theorem dX3_mapIn_5 : decode cX3_mapIn 5 = .ok (.invokevirtual 181, 3) := by decide +kernel
theorem dX3_mapIn_8 : decode cX3_mapIn 8 = .ok (.iconst 4, 1) := by decide +kernel
theorem dX3_mapIn_9 : decode cX3_mapIn 9 = .ok (.if_icmp .eq 13, 3) := by decide +kernel
theorem dX3_mapIn_12 : decode cX3_mapIn 12 = .ok (.new 82, 3) := by decide +kernel
theorem dX3_mapIn_15 : decode cX3_mapIn 15 = .ok (.dup, 1) := by decide +kernel
theorem dX3_mapIn_16 : decode cX3_mapIn 16 = .ok (.ldc 220, 2) := by decide +kernel
theorem dX3_mapIn_18 : decode cX3_mapIn 18 = .ok (.invokespecial 86, 3) := by decide +kernel
theorem dX3_mapIn_21 : decode cX3_mapIn 21 = .ok (.athrow, 1) := by decide +kernel
theorem dX3_mapIn_22 : decode cX3_mapIn 22 = .ok (.aload_n 0, 1) := by decide +kernel
theorem dX3_mapIn_23 : decode cX3_mapIn 23 = .ok (.getfield 24, 3) := by decide +kernel
theorem dX3_mapIn_26 : decode cX3_mapIn 26 = .ok (.iload_n 1, 1) := by decide +kernel
theorem dX3_mapIn_27 : decode cX3_mapIn 27 = .ok (.invokevirtual 144, 3) := by decide +kernel
theorem dX3_mapIn_30 : decode cX3_mapIn 30 = .ok (.ireturn, 1) := by decide +kernel
theorem dX3_needByte_0 : decode cX3_needByte 0 = .ok (.iload_n 2, 1) := by decide +kernel
theorem dX3_needByte_1 : decode cX3_needByte 1 = .ok (.ifCond .lt 15, 3) := by decide +kernel
theorem dX3_needByte_4 : decode cX3_needByte 4 = .ok (.iload_n 2, 1) := by decide +kernel
theorem dX3_needByte_5 : decode cX3_needByte 5 = .ok (.aload_n 0, 1) := by decide +kernel
theorem dX3_needByte_6 : decode cX3_needByte 6 = .ok (.getfield 24, 3) := by decide +kernel
theorem dX3_needByte_9 : decode cX3_needByte 9 = .ok (.iload_n 1, 1) := by decide +kernel
theorem dX3_needByte_10 : decode cX3_needByte 10 = .ok (.invokevirtual 79, 3) := by decide +kernel
theorem dX3_needByte_13 : decode cX3_needByte 13 = .ok (.if_icmp .lt 13, 3) := by decide +kernel
theorem dX3_needByte_16 : decode cX3_needByte 16 = .ok (.new 92, 3) := by decide +kernel
theorem dX3_needByte_19 : decode cX3_needByte 19 = .ok (.dup, 1) := by decide +kernel
theorem dX3_needByte_20 : decode cX3_needByte 20 = .ok (.ldc 222, 2) := by decide +kernel
theorem dX3_needByte_22 : decode cX3_needByte 22 = .ok (.invokespecial 96, 3) := by decide +kernel
theorem dX3_needByte_25 : decode cX3_needByte 25 = .ok (.athrow, 1) := by decide +kernel
theorem dX3_needByte_26 : decode cX3_needByte 26 = .ok (.return_, 1) := by decide +kernel
theorem dX3_wordBehind_0 : decode cX3_wordBehind 0 = .ok (.aload_n 0, 1) := by decide +kernel
theorem dX3_wordBehind_1 : decode cX3_wordBehind 1 = .ok (.iload_n 1, 1) := by decide +kernel
theorem dX3_wordBehind_2 : decode cX3_wordBehind 2 = .ok (.invokevirtual 118, 3) := by decide +kernel
theorem dX3_wordBehind_5 : decode cX3_wordBehind 5 = .ok (.istore_n 3, 1) := by decide +kernel
theorem dX3_wordBehind_6 : decode cX3_wordBehind 6 = .ok (.aload_n 0, 1) := by decide +kernel
theorem dX3_wordBehind_7 : decode cX3_wordBehind 7 = .ok (.getfield 24, 3) := by decide +kernel
theorem dX3_wordBehind_10 : decode cX3_wordBehind 10 = .ok (.iload_n 1, 1) := by decide +kernel
theorem dX3_wordBehind_11 : decode cX3_wordBehind 11 = .ok (.invokevirtual 121, 3) := by decide +kernel
theorem dX3_wordBehind_14 : decode cX3_wordBehind 14 = .ok (.i2l, 1) := by decide +kernel
theorem dX3_wordBehind_15 : decode cX3_wordBehind 15 = .ok (.iload_n 2, 1) := by decide +kernel
theorem dX3_wordBehind_16 : decode cX3_wordBehind 16 = .ok (.i2l, 1) := by decide +kernel
theorem dX3_wordBehind_17 : decode cX3_wordBehind 17 = .ok (.ladd, 1) := by decide +kernel
theorem dX3_wordBehind_18 : decode cX3_wordBehind 18 = .ok (.lstore 4, 2) := by decide +kernel
theorem dX3_wordBehind_20 : decode cX3_wordBehind 20 = .ok (.lload 4, 2) := by decide +kernel
theorem dX3_wordBehind_22 : decode cX3_wordBehind 22 = .ok (.lconst 0, 1) := by decide +kernel
theorem dX3_wordBehind_23 : decode cX3_wordBehind 23 = .ok (.lcmp, 1) := by decide +kernel
theorem dX3_wordBehind_24 : decode cX3_wordBehind 24 = .ok (.ifCond .lt 18, 3) := by decide +kernel
theorem dX3_wordBehind_27 : decode cX3_wordBehind 27 = .ok (.lload 4, 2) := by decide +kernel
theorem dX3_wordBehind_29 : decode cX3_wordBehind 29 = .ok (.aload_n 0, 1) := by decide +kernel
theorem dX3_wordBehind_30 : decode cX3_wordBehind 30 = .ok (.getfield 24, 3) := by decide +kernel
theorem dX3_wordBehind_33 : decode cX3_wordBehind 33 = .ok (.iload_n 3, 1) := by decide +kernel
theorem dX3_wordBehind_34 : decode cX3_wordBehind 34 = .ok (.invokevirtual 79, 3) := by decide +kernel
theorem dX3_wordBehind_37 : decode cX3_wordBehind 37 = .ok (.i2l, 1) := by decide +kernel
theorem dX3_wordBehind_38 : decode cX3_wordBehind 38 = .ok (.lcmp, 1) := by decide +kernel
theorem dX3_wordBehind_39 : decode cX3_wordBehind 39 = .ok (.ifCond .lt 13, 3) := by decide +kernel
theorem dX3_wordBehind_42 : decode cX3_wordBehind 42 = .ok (.new 92, 3) := by decide +kernel
theorem dX3_wordBehind_45 : decode cX3_wordBehind 45 = .ok (.dup, 1) := by decide +kernel
theorem dX3_wordBehind_46 : decode cX3_wordBehind 46 = .ok (.ldc 224, 2) := by decide +kernel
theorem dX3_wordBehind_48 : decode cX3_wordBehind 48 = .ok (.invokespecial 96, 3) := by decide +kernel
theorem dX3_wordBehind_51 : decode cX3_wordBehind 51 = .ok (.athrow, 1) := by decide +kernel
theorem dX3_wordBehind_52 : decode cX3_wordBehind 52 = .ok (.aload_n 0, 1) := by decide +kernel
theorem dX3_wordBehind_53 : decode cX3_wordBehind 53 = .ok (.getfield 24, 3) := by decide +kernel
theorem dX3_wordBehind_56 : decode cX3_wordBehind 56 = .ok (.iload_n 3, 1) := by decide +kernel
theorem dX3_wordBehind_57 : decode cX3_wordBehind 57 = .ok (.invokevirtual 226, 3) := by decide +kernel
theorem dX3_wordBehind_60 : decode cX3_wordBehind 60 = .ok (.lload 4, 2) := by decide +kernel
theorem dX3_wordBehind_62 : decode cX3_wordBehind 62 = .ok (.l2i, 1) := by decide +kernel
theorem dX3_wordBehind_63 : decode cX3_wordBehind 63 = .ok (.iadd, 1) := by decide +kernel
theorem dX3_wordBehind_64 : decode cX3_wordBehind 64 = .ok (.ireturn, 1) := by decide +kernel
theorem dX3_needWords_0 : decode cX3_needWords 0 = .ok (.aload_n 0, 1) := by decide +kernel
theorem dX3_needWords_1 : decode cX3_needWords 1 = .ok (.getfield 24, 3) := by decide +kernel
theorem dX3_needWords_4 : decode cX3_needWords 4 = .ok (.iload_n 1, 1) := by decide +kernel
theorem dX3_needWords_5 : decode cX3_needWords 5 = .ok (.invokevirtual 121, 3) := by decide +kernel
theorem dX3_needWords_8 : decode cX3_needWords 8 = .ok (.iload_n 2, 1) := by decide +kernel
theorem dX3_needWords_9 : decode cX3_needWords 9 = .ok (.iadd, 1) := by decide +kernel
theorem dX3_needWords_10 : decode cX3_needWords 10 = .ok (.aload_n 0, 1) := by decide +kernel
theorem dX3_needWords_11 : decode cX3_needWords 11 = .ok (.getfield 24, 3) := by decide +kernel
theorem dX3_needWords_14 : decode cX3_needWords 14 = .ok (.aload_n 0, 1) := by decide +kernel
theorem dX3_needWords_15 : decode cX3_needWords 15 = .ok (.getfield 24, 3) := by decide +kernel
theorem dX3_needWords_18 : decode cX3_needWords 18 = .ok (.iload_n 1, 1) := by decide +kernel
theorem dX3_needWords_19 : decode cX3_needWords 19 = .ok (.invokevirtual 144, 3) := by decide +kernel
theorem dX3_needWords_22 : decode cX3_needWords 22 = .ok (.invokevirtual 79, 3) := by decide +kernel
theorem dX3_needWords_25 : decode cX3_needWords 25 = .ok (.if_icmp .le 13, 3) := by decide +kernel
theorem dX3_needWords_28 : decode cX3_needWords 28 = .ok (.new 92, 3) := by decide +kernel
theorem dX3_needWords_31 : decode cX3_needWords 31 = .ok (.dup, 1) := by decide +kernel
theorem dX3_needWords_32 : decode cX3_needWords 32 = .ok (.ldc 229, 2) := by decide +kernel
theorem dX3_needWords_34 : decode cX3_needWords 34 = .ok (.invokespecial 96, 3) := by decide +kernel
theorem dX3_needWords_37 : decode cX3_needWords 37 = .ok (.athrow, 1) := by decide +kernel
theorem dX3_needWords_38 : decode cX3_needWords 38 = .ok (.return_, 1) := by decide +kernel
theorem dX3_needMapAndWords_0 : decode cX3_needMapAndWords 0 = .ok (.iload_n 1, 1) := by decide +kernel
theorem dX3_needMapAndWords_1 : decode cX3_needMapAndWords 1 = .ok (.invokestatic 46, 3) := by decide +kernel
theorem dX3_needMapAndWords_4 : decode cX3_needMapAndWords 4 = .ok (.iload_n 2, 1) := by decide +kernel
theorem dX3_needMapAndWords_5 : decode cX3_needMapAndWords 5 = .ok (.invokestatic 46, 3) := by decide +kernel
theorem dX3_needMapAndWords_8 : decode cX3_needMapAndWords 8 = .ok (.aload_n 0, 1) := by decide +kernel
theorem dX3_needMapAndWords_9 : decode cX3_needMapAndWords 9 = .ok (.iload_n 1, 1) := by decide +kernel
theorem dX3_needMapAndWords_10 : decode cX3_needMapAndWords 10 = .ok (.invokevirtual 156, 3) := by decide +kernel
theorem dX3_needMapAndWords_13 : decode cX3_needMapAndWords 13 = .ok (.istore_n 3, 1) := by decide +kernel
theorem dX3_needMapAndWords_14 : decode cX3_needMapAndWords 14 = .ok (.aload_n 0, 1) := by decide +kernel
theorem dX3_needMapAndWords_15 : decode cX3_needMapAndWords 15 = .ok (.iload_n 2, 1) := by decide +kernel
theorem dX3_needMapAndWords_16 : decode cX3_needMapAndWords 16 = .ok (.invokevirtual 118, 3) := by decide +kernel
theorem dX3_needMapAndWords_19 : decode cX3_needMapAndWords 19 = .ok (.pop, 1) := by decide +kernel
theorem dX3_needMapAndWords_20 : decode cX3_needMapAndWords 20 = .ok (.aload_n 0, 1) := by decide +kernel
theorem dX3_needMapAndWords_21 : decode cX3_needMapAndWords 21 = .ok (.iload_n 2, 1) := by decide +kernel
theorem dX3_needMapAndWords_22 : decode cX3_needMapAndWords 22 = .ok (.aload_n 0, 1) := by decide +kernel
theorem dX3_needMapAndWords_23 : decode cX3_needMapAndWords 23 = .ok (.getfield 42, 3) := by decide +kernel
theorem dX3_needMapAndWords_26 : decode cX3_needMapAndWords 26 = .ok (.iload_n 3, 1) := by decide +kernel
theorem dX3_needMapAndWords_27 : decode cX3_needMapAndWords 27 = .ok (.invokevirtual 231, 3) := by decide +kernel
theorem dX3_needMapAndWords_30 : decode cX3_needMapAndWords 30 = .ok (.invokevirtual 129, 3) := by decide +kernel
theorem dX3_needMapAndWords_33 : decode cX3_needMapAndWords 33 = .ok (.return_, 1) := by decide +kernel
theorem dX3_needTextualKey_0 : decode cX3_needTextualKey 0 = .ok (.aload_n 0, 1) := by decide +kernel
theorem dX3_needTextualKey_1 : decode cX3_needTextualKey 1 = .ok (.getfield 42, 3) := by decide +kernel
theorem dX3_needTextualKey_4 : decode cX3_needTextualKey 4 = .ok (.aload_n 0, 1) := by decide +kernel
theorem dX3_needTextualKey_5 : decode cX3_needTextualKey 5 = .ok (.getfield 24, 3) := by decide +kernel
theorem dX3_needTextualKey_8 : decode cX3_needTextualKey 8 = .ok (.iload_n 1, 1) := by decide +kernel
theorem dX3_needTextualKey_9 : decode cX3_needTextualKey 9 = .ok (.invokevirtual 144, 3) := by decide +kernel
theorem dX3_needTextualKey_12 : decode cX3_needTextualKey 12 = .ok (.aload_n 0, 1) := by decide +kernel
theorem dX3_needTextualKey_13 : decode cX3_needTextualKey 13 = .ok (.iload_n 2, 1) := by decide +kernel
theorem dX3_needTextualKey_14 : decode cX3_needTextualKey 14 = .ok (.invokevirtual 132, 3) := by decide +kernel
theorem dX3_needTextualKey_17 : decode cX3_needTextualKey 17 = .ok (.invokevirtual 234, 3) := by decide +kernel
theorem dX3_needTextualKey_20 : decode cX3_needTextualKey 20 = .ok (.ifCond .ne 13, 3) := by decide +kernel
theorem dX3_needTextualKey_23 : decode cX3_needTextualKey 23 = .ok (.new 82, 3) := by decide +kernel
theorem dX3_needTextualKey_26 : decode cX3_needTextualKey 26 = .ok (.dup, 1) := by decide +kernel
theorem dX3_needTextualKey_27 : decode cX3_needTextualKey 27 = .ok (.ldc 237, 2) := by decide +kernel
theorem dX3_needTextualKey_29 : decode cX3_needTextualKey 29 = .ok (.invokespecial 86, 3) := by decide +kernel
theorem dX3_needTextualKey_32 : decode cX3_needTextualKey 32 = .ok (.athrow, 1) := by decide +kernel
theorem dX3_needTextualKey_33 : decode cX3_needTextualKey 33 = .ok (.return_, 1) := by decide +kernel
theorem dX3_rowWord_0 : decode cX3_rowWord 0 = .ok (.aload_n 0, 1) := by decide +kernel
theorem dX3_rowWord_1 : decode cX3_rowWord 1 = .ok (.getfield 24, 3) := by decide +kernel
theorem dX3_rowWord_4 : decode cX3_rowWord 4 = .ok (.aload_n 0, 1) := by decide +kernel
theorem dX3_rowWord_5 : decode cX3_rowWord 5 = .ok (.getfield 24, 3) := by decide +kernel
theorem dX3_rowWord_8 : decode cX3_rowWord 8 = .ok (.iload_n 1, 1) := by decide +kernel
theorem dX3_rowWord_9 : decode cX3_rowWord 9 = .ok (.invokevirtual 144, 3) := by decide +kernel
theorem dX3_rowWord_12 : decode cX3_rowWord 12 = .ok (.invokevirtual 226, 3) := by decide +kernel
theorem dX3_rowWord_15 : decode cX3_rowWord 15 = .ok (.aload_n 0, 1) := by decide +kernel
theorem dX3_rowWord_16 : decode cX3_rowWord 16 = .ok (.getfield 24, 3) := by decide +kernel
theorem dX3_rowWord_19 : decode cX3_rowWord 19 = .ok (.iload_n 1, 1) := by decide +kernel
theorem dX3_rowWord_20 : decode cX3_rowWord 20 = .ok (.invokevirtual 121, 3) := by decide +kernel
theorem dX3_rowWord_23 : decode cX3_rowWord 23 = .ok (.iadd, 1) := by decide +kernel
theorem dX3_rowWord_24 : decode cX3_rowWord 24 = .ok (.ireturn, 1) := by decide +kernel
theorem dX3_hold_0 : decode cX3_hold 0 = .ok (.aload_n 0, 1) := by decide +kernel
theorem dX3_hold_1 : decode cX3_hold 1 = .ok (.getfield 24, 3) := by decide +kernel
theorem dX3_hold_4 : decode cX3_hold 4 = .ok (.iload_n 1, 1) := by decide +kernel
theorem dX3_hold_5 : decode cX3_hold 5 = .ok (.iload_n 2, 1) := by decide +kernel
theorem dX3_hold_6 : decode cX3_hold 6 = .ok (.iconst 0, 1) := by decide +kernel
theorem dX3_hold_7 : decode cX3_hold 7 = .ok (.invokevirtual 53, 3) := by decide +kernel
theorem dX3_hold_10 : decode cX3_hold 10 = .ok (.aload_n 0, 1) := by decide +kernel
theorem dX3_hold_11 : decode cX3_hold 11 = .ok (.getfield 24, 3) := by decide +kernel
theorem dX3_hold_14 : decode cX3_hold 14 = .ok (.iload_n 2, 1) := by decide +kernel
theorem dX3_hold_15 : decode cX3_hold 15 = .ok (.invokevirtual 184, 3) := by decide +kernel
theorem dX3_hold_18 : decode cX3_hold 18 = .ok (.ireturn, 1) := by decide +kernel
