theorem dL_cell_0 : decode cL_cell 0 = .ok (.iload_n 1, 1) := by decide +kernel
theorem dL_cell_1 : decode cL_cell 1 = .ok (.aload_n 0, 1) := by decide +kernel
theorem dL_cell_2 : decode cL_cell 2 = .ok (.arraylength, 1) := by decide +kernel
theorem dL_cell_3 : decode cL_cell 3 = .ok (.if_icmp .ge 9, 3) := by decide +kernel
theorem dL_cell_6 : decode cL_cell 6 = .ok (.aload_n 0, 1) := by decide +kernel
theorem dL_cell_7 : decode cL_cell 7 = .ok (.iload_n 1, 1) := by decide +kernel
theorem dL_cell_8 : decode cL_cell 8 = .ok (.iaload, 1) := by decide +kernel
theorem dL_cell_9 : decode cL_cell 9 = .ok (.goto 4, 3) := by decide +kernel
theorem dL_cell_12 : decode cL_cell 12 = .ok (.iconst 0, 1) := by decide +kernel
theorem dL_cell_13 : decode cL_cell 13 = .ok (.ireturn, 1) := by decide +kernel
theorem dL_number_0 : decode cL_number 0 = .ok (.aload_n 0, 1) := by decide +kernel
theorem dL_number_1 : decode cL_number 1 = .ok (.iload_n 1, 1) := by decide +kernel
theorem dL_number_2 : decode cL_number 2 = .ok (.lload_n 2, 1) := by decide +kernel
theorem dL_number_3 : decode cL_number 3 = .ok (.invokevirtual 7, 3) := by decide +kernel
theorem dL_number_6 : decode cL_number 6 = .ok (.goto 7, 3) := by decide +kernel
theorem dL_number_9 : decode cL_number 9 = .ok (.astore 4, 2) := by decide +kernel
theorem dL_number_11 : decode cL_number 11 = .ok (.iconst 1, 1) := by decide +kernel
theorem dL_number_12 : decode cL_number 12 = .ok (.ireturn, 1) := by decide +kernel
theorem dL_number_13 : decode cL_number 13 = .ok (.iconst 0, 1) := by decide +kernel
theorem dL_number_14 : decode cL_number 14 = .ok (.ireturn, 1) := by decide +kernel
theorem dL_nil_0 : decode cL_nil 0 = .ok (.aload_n 0, 1) := by decide +kernel
theorem dL_nil_1 : decode cL_nil 1 = .ok (.iload_n 1, 1) := by decide +kernel
theorem dL_nil_2 : decode cL_nil 2 = .ok (.invokevirtual 15, 3) := by decide +kernel
theorem dL_nil_5 : decode cL_nil 5 = .ok (.goto 6, 3) := by decide +kernel
theorem dL_nil_8 : decode cL_nil 8 = .ok (.astore_n 2, 1) := by decide +kernel
theorem dL_nil_9 : decode cL_nil 9 = .ok (.iconst 1, 1) := by decide +kernel
theorem dL_nil_10 : decode cL_nil 10 = .ok (.ireturn, 1) := by decide +kernel
theorem dL_nil_11 : decode cL_nil 11 = .ok (.iconst 0, 1) := by decide +kernel
theorem dL_nil_12 : decode cL_nil 12 = .ok (.ireturn, 1) := by decide +kernel
theorem dL_move_0 : decode cL_move 0 = .ok (.aload_n 0, 1) := by decide +kernel
theorem dL_move_1 : decode cL_move 1 = .ok (.iload_n 1, 1) := by decide +kernel
theorem dL_move_2 : decode cL_move 2 = .ok (.iload_n 2, 1) := by decide +kernel
theorem dL_move_3 : decode cL_move 3 = .ok (.invokevirtual 19, 3) := by decide +kernel
theorem dL_move_6 : decode cL_move 6 = .ok (.goto 6, 3) := by decide +kernel
theorem dL_move_9 : decode cL_move 9 = .ok (.astore_n 3, 1) := by decide +kernel
theorem dL_move_10 : decode cL_move 10 = .ok (.iconst 1, 1) := by decide +kernel
theorem dL_move_11 : decode cL_move 11 = .ok (.ireturn, 1) := by decide +kernel
theorem dL_move_12 : decode cL_move 12 = .ok (.iconst 0, 1) := by decide +kernel
theorem dL_move_13 : decode cL_move 13 = .ok (.ireturn, 1) := by decide +kernel
theorem dL_make_0 : decode cL_make 0 = .ok (.aload_n 3, 1) := by decide +kernel
theorem dL_make_1 : decode cL_make 1 = .ok (.iconst 0, 1) := by decide +kernel
theorem dL_make_2 : decode cL_make 2 = .ok (.aload_n 0, 1) := by decide +kernel
theorem dL_make_3 : decode cL_make 3 = .ok (.iload_n 1, 1) := by decide +kernel
theorem dL_make_4 : decode cL_make 4 = .ok (.iload_n 2, 1) := by decide +kernel
theorem dL_make_5 : decode cL_make 5 = .ok (.invokevirtual 23, 3) := by decide +kernel
theorem dL_make_8 : decode cL_make 8 = .ok (.i2l, 1) := by decide +kernel
theorem dL_make_9 : decode cL_make 9 = .ok (.lastore, 1) := by decide +kernel
theorem dL_make_10 : decode cL_make 10 = .ok (.goto 11, 3) := by decide +kernel
theorem dL_make_13 : decode cL_make 13 = .ok (.astore 4, 2) := by decide +kernel
theorem dL_make_15 : decode cL_make 15 = .ok (.iconst 1, 1) := by decide +kernel
theorem dL_make_16 : decode cL_make 16 = .ok (.ireturn, 1) := by decide +kernel
theorem dL_make_17 : decode cL_make 17 = .ok (.astore 4, 2) := by decide +kernel
theorem dL_make_19 : decode cL_make 19 = .ok (.iconst 2, 1) := by decide +kernel
theorem dL_make_20 : decode cL_make 20 = .ok (.ireturn, 1) := by decide +kernel
theorem dL_make_21 : decode cL_make 21 = .ok (.iconst 0, 1) := by decide +kernel
theorem dL_make_22 : decode cL_make 22 = .ok (.ireturn, 1) := by decide +kernel
theorem dL_text_0 : decode cL_text 0 = .ok (.aload_n 3, 1) := by decide +kernel
theorem dL_text_1 : decode cL_text 1 = .ok (.iconst 0, 1) := by decide +kernel
theorem dL_text_2 : decode cL_text 2 = .ok (.aload_n 0, 1) := by decide +kernel
theorem dL_text_3 : decode cL_text 3 = .ok (.iload_n 1, 1) := by decide +kernel
theorem dL_text_4 : decode cL_text 4 = .ok (.iload_n 2, 1) := by decide +kernel
theorem dL_text_5 : decode cL_text 5 = .ok (.invokevirtual 29, 3) := by decide +kernel
theorem dL_text_8 : decode cL_text 8 = .ok (.i2l, 1) := by decide +kernel
theorem dL_text_9 : decode cL_text 9 = .ok (.lastore, 1) := by decide +kernel
theorem dL_text_10 : decode cL_text 10 = .ok (.goto 11, 3) := by decide +kernel
theorem dL_text_13 : decode cL_text 13 = .ok (.astore 4, 2) := by decide +kernel
theorem dL_text_15 : decode cL_text 15 = .ok (.iconst 1, 1) := by decide +kernel
theorem dL_text_16 : decode cL_text 16 = .ok (.ireturn, 1) := by decide +kernel
theorem dL_text_17 : decode cL_text 17 = .ok (.astore 4, 2) := by decide +kernel
theorem dL_text_19 : decode cL_text 19 = .ok (.iconst 2, 1) := by decide +kernel
theorem dL_text_20 : decode cL_text 20 = .ok (.ireturn, 1) := by decide +kernel
theorem dL_text_21 : decode cL_text 21 = .ok (.iconst 0, 1) := by decide +kernel
theorem dL_text_22 : decode cL_text 22 = .ok (.ireturn, 1) := by decide +kernel
theorem dL_map_0 : decode cL_map 0 = .ok (.aload 5, 2) := by decide +kernel
theorem dL_map_2 : decode cL_map 2 = .ok (.iconst 0, 1) := by decide +kernel
theorem dL_map_3 : decode cL_map 3 = .ok (.aload_n 0, 1) := by decide +kernel
theorem dL_map_4 : decode cL_map 4 = .ok (.iload_n 1, 1) := by decide +kernel
theorem dL_map_5 : decode cL_map 5 = .ok (.iload_n 2, 1) := by decide +kernel
theorem dL_map_6 : decode cL_map 6 = .ok (.iload_n 3, 1) := by decide +kernel
theorem dL_map_7 : decode cL_map 7 = .ok (.iload 4, 2) := by decide +kernel
theorem dL_map_9 : decode cL_map 9 = .ok (.invokevirtual 32, 3) := by decide +kernel
theorem dL_map_12 : decode cL_map 12 = .ok (.i2l, 1) := by decide +kernel
theorem dL_map_13 : decode cL_map 13 = .ok (.lastore, 1) := by decide +kernel
theorem dL_map_14 : decode cL_map 14 = .ok (.goto 11, 3) := by decide +kernel
theorem dL_map_17 : decode cL_map 17 = .ok (.astore 6, 2) := by decide +kernel
theorem dL_map_19 : decode cL_map 19 = .ok (.iconst 1, 1) := by decide +kernel
theorem dL_map_20 : decode cL_map 20 = .ok (.ireturn, 1) := by decide +kernel
theorem dL_map_21 : decode cL_map 21 = .ok (.astore 6, 2) := by decide +kernel
theorem dL_map_23 : decode cL_map 23 = .ok (.iconst 2, 1) := by decide +kernel
theorem dL_map_24 : decode cL_map 24 = .ok (.ireturn, 1) := by decide +kernel
theorem dL_map_25 : decode cL_map 25 = .ok (.iconst 0, 1) := by decide +kernel
theorem dL_map_26 : decode cL_map 26 = .ok (.ireturn, 1) := by decide +kernel
theorem dL_join_0 : decode cL_join 0 = .ok (.aload 4, 2) := by decide +kernel
theorem dL_join_2 : decode cL_join 2 = .ok (.iconst 0, 1) := by decide +kernel
theorem dL_join_3 : decode cL_join 3 = .ok (.aload_n 0, 1) := by decide +kernel
theorem dL_join_4 : decode cL_join 4 = .ok (.iload_n 1, 1) := by decide +kernel
theorem dL_join_5 : decode cL_join 5 = .ok (.iload_n 2, 1) := by decide +kernel
theorem dL_join_6 : decode cL_join 6 = .ok (.iload_n 3, 1) := by decide +kernel
theorem dL_join_7 : decode cL_join 7 = .ok (.invokevirtual 36, 3) := by decide +kernel
theorem dL_join_10 : decode cL_join 10 = .ok (.i2l, 1) := by decide +kernel
theorem dL_join_11 : decode cL_join 11 = .ok (.lastore, 1) := by decide +kernel
theorem dL_join_12 : decode cL_join 12 = .ok (.goto 15, 3) := by decide +kernel
theorem dL_join_15 : decode cL_join 15 = .ok (.astore 5, 2) := by decide +kernel
theorem dL_join_17 : decode cL_join 17 = .ok (.iconst 1, 1) := by decide +kernel
theorem dL_join_18 : decode cL_join 18 = .ok (.ireturn, 1) := by decide +kernel
theorem dL_join_19 : decode cL_join 19 = .ok (.astore 5, 2) := by decide +kernel
theorem dL_join_21 : decode cL_join 21 = .ok (.iconst 2, 1) := by decide +kernel
theorem dL_join_22 : decode cL_join 22 = .ok (.ireturn, 1) := by decide +kernel
theorem dL_join_23 : decode cL_join 23 = .ok (.astore 5, 2) := by decide +kernel
theorem dL_join_25 : decode cL_join 25 = .ok (.iconst 3, 1) := by decide +kernel
theorem dL_join_26 : decode cL_join 26 = .ok (.ireturn, 1) := by decide +kernel
theorem dL_join_27 : decode cL_join 27 = .ok (.iconst 0, 1) := by decide +kernel
theorem dL_join_28 : decode cL_join 28 = .ok (.ireturn, 1) := by decide +kernel
theorem dL_part_0 : decode cL_part 0 = .ok (.aload 5, 2) := by decide +kernel
theorem dL_part_2 : decode cL_part 2 = .ok (.iconst 0, 1) := by decide +kernel
theorem dL_part_3 : decode cL_part 3 = .ok (.aload_n 0, 1) := by decide +kernel
theorem dL_part_4 : decode cL_part 4 = .ok (.iload_n 1, 1) := by decide +kernel
theorem dL_part_5 : decode cL_part 5 = .ok (.iload_n 2, 1) := by decide +kernel
theorem dL_part_6 : decode cL_part 6 = .ok (.iload_n 3, 1) := by decide +kernel
theorem dL_part_7 : decode cL_part 7 = .ok (.iload 4, 2) := by decide +kernel
theorem dL_part_9 : decode cL_part 9 = .ok (.invokevirtual 42, 3) := by decide +kernel
theorem dL_part_12 : decode cL_part 12 = .ok (.i2l, 1) := by decide +kernel
theorem dL_part_13 : decode cL_part 13 = .ok (.lastore, 1) := by decide +kernel
theorem dL_part_14 : decode cL_part 14 = .ok (.goto 19, 3) := by decide +kernel
theorem dL_part_17 : decode cL_part 17 = .ok (.astore 6, 2) := by decide +kernel
theorem dL_part_19 : decode cL_part 19 = .ok (.iconst 1, 1) := by decide +kernel
theorem dL_part_20 : decode cL_part 20 = .ok (.ireturn, 1) := by decide +kernel
theorem dL_part_21 : decode cL_part 21 = .ok (.astore 6, 2) := by decide +kernel
theorem dL_part_23 : decode cL_part 23 = .ok (.iconst 2, 1) := by decide +kernel
theorem dL_part_24 : decode cL_part 24 = .ok (.ireturn, 1) := by decide +kernel
theorem dL_part_25 : decode cL_part 25 = .ok (.astore 6, 2) := by decide +kernel
theorem dL_part_27 : decode cL_part 27 = .ok (.iconst 3, 1) := by decide +kernel
theorem dL_part_28 : decode cL_part 28 = .ok (.ireturn, 1) := by decide +kernel
theorem dL_part_29 : decode cL_part 29 = .ok (.astore 6, 2) := by decide +kernel
theorem dL_part_31 : decode cL_part 31 = .ok (.iconst 4, 1) := by decide +kernel
theorem dL_part_32 : decode cL_part 32 = .ok (.ireturn, 1) := by decide +kernel
theorem dL_part_33 : decode cL_part 33 = .ok (.iconst 0, 1) := by decide +kernel
theorem dL_part_34 : decode cL_part 34 = .ok (.ireturn, 1) := by decide +kernel
theorem dL_compare_0 : decode cL_compare 0 = .ok (.aload_n 3, 1) := by decide +kernel
theorem dL_compare_1 : decode cL_compare 1 = .ok (.iconst 0, 1) := by decide +kernel
theorem dL_compare_2 : decode cL_compare 2 = .ok (.aload_n 0, 1) := by decide +kernel
theorem dL_compare_3 : decode cL_compare 3 = .ok (.iload_n 1, 1) := by decide +kernel
theorem dL_compare_4 : decode cL_compare 4 = .ok (.iload_n 2, 1) := by decide +kernel
theorem dL_compare_5 : decode cL_compare 5 = .ok (.invokevirtual 47, 3) := by decide +kernel
theorem dL_compare_8 : decode cL_compare 8 = .ok (.i2l, 1) := by decide +kernel
theorem dL_compare_9 : decode cL_compare 9 = .ok (.lastore, 1) := by decide +kernel
theorem dL_compare_10 : decode cL_compare 10 = .ok (.goto 11, 3) := by decide +kernel
theorem dL_compare_13 : decode cL_compare 13 = .ok (.astore 4, 2) := by decide +kernel
theorem dL_compare_15 : decode cL_compare 15 = .ok (.iconst 1, 1) := by decide +kernel
theorem dL_compare_16 : decode cL_compare 16 = .ok (.ireturn, 1) := by decide +kernel
theorem dL_compare_17 : decode cL_compare 17 = .ok (.astore 4, 2) := by decide +kernel
theorem dL_compare_19 : decode cL_compare 19 = .ok (.iconst 2, 1) := by decide +kernel
theorem dL_compare_20 : decode cL_compare 20 = .ok (.ireturn, 1) := by decide +kernel
theorem dL_compare_21 : decode cL_compare 21 = .ok (.iconst 0, 1) := by decide +kernel
theorem dL_compare_22 : decode cL_compare 22 = .ok (.ireturn, 1) := by decide +kernel
theorem dL_byteAt_0 : decode cL_byteAt 0 = .ok (.aload_n 3, 1) := by decide +kernel
theorem dL_byteAt_1 : decode cL_byteAt 1 = .ok (.iconst 0, 1) := by decide +kernel
theorem dL_byteAt_2 : decode cL_byteAt 2 = .ok (.aload_n 0, 1) := by decide +kernel
theorem dL_byteAt_3 : decode cL_byteAt 3 = .ok (.iload_n 1, 1) := by decide +kernel
theorem dL_byteAt_4 : decode cL_byteAt 4 = .ok (.iload_n 2, 1) := by decide +kernel
theorem dL_byteAt_5 : decode cL_byteAt 5 = .ok (.invokevirtual 50, 3) := by decide +kernel
theorem dL_byteAt_8 : decode cL_byteAt 8 = .ok (.i2l, 1) := by decide +kernel
theorem dL_byteAt_9 : decode cL_byteAt 9 = .ok (.lastore, 1) := by decide +kernel
theorem dL_byteAt_10 : decode cL_byteAt 10 = .ok (.goto 15, 3) := by decide +kernel
theorem dL_byteAt_13 : decode cL_byteAt 13 = .ok (.astore 4, 2) := by decide +kernel
theorem dL_byteAt_15 : decode cL_byteAt 15 = .ok (.iconst 1, 1) := by decide +kernel
theorem dL_byteAt_16 : decode cL_byteAt 16 = .ok (.ireturn, 1) := by decide +kernel
theorem dL_byteAt_17 : decode cL_byteAt 17 = .ok (.astore 4, 2) := by decide +kernel
theorem dL_byteAt_19 : decode cL_byteAt 19 = .ok (.iconst 2, 1) := by decide +kernel
theorem dL_byteAt_20 : decode cL_byteAt 20 = .ok (.ireturn, 1) := by decide +kernel
theorem dL_byteAt_21 : decode cL_byteAt 21 = .ok (.astore 4, 2) := by decide +kernel
theorem dL_byteAt_23 : decode cL_byteAt 23 = .ok (.iconst 3, 1) := by decide +kernel
theorem dL_byteAt_24 : decode cL_byteAt 24 = .ok (.ireturn, 1) := by decide +kernel
theorem dL_byteAt_25 : decode cL_byteAt 25 = .ok (.iconst 0, 1) := by decide +kernel
theorem dL_byteAt_26 : decode cL_byteAt 26 = .ok (.ireturn, 1) := by decide +kernel
theorem dL_setByte_0 : decode cL_setByte 0 = .ok (.aload_n 0, 1) := by decide +kernel
theorem dL_setByte_1 : decode cL_setByte 1 = .ok (.iload_n 1, 1) := by decide +kernel
theorem dL_setByte_2 : decode cL_setByte 2 = .ok (.iload_n 2, 1) := by decide +kernel
theorem dL_setByte_3 : decode cL_setByte 3 = .ok (.iload_n 3, 1) := by decide +kernel
theorem dL_setByte_4 : decode cL_setByte 4 = .ok (.invokevirtual 53, 3) := by decide +kernel
theorem dL_setByte_7 : decode cL_setByte 7 = .ok (.goto 15, 3) := by decide +kernel
theorem dL_setByte_10 : decode cL_setByte 10 = .ok (.astore 4, 2) := by decide +kernel
theorem dL_setByte_12 : decode cL_setByte 12 = .ok (.iconst 1, 1) := by decide +kernel
theorem dL_setByte_13 : decode cL_setByte 13 = .ok (.ireturn, 1) := by decide +kernel
theorem dL_setByte_14 : decode cL_setByte 14 = .ok (.astore 4, 2) := by decide +kernel
theorem dL_setByte_16 : decode cL_setByte 16 = .ok (.iconst 2, 1) := by decide +kernel
theorem dL_setByte_17 : decode cL_setByte 17 = .ok (.ireturn, 1) := by decide +kernel
theorem dL_setByte_18 : decode cL_setByte 18 = .ok (.astore 4, 2) := by decide +kernel
theorem dL_setByte_20 : decode cL_setByte 20 = .ok (.iconst 3, 1) := by decide +kernel
theorem dL_setByte_21 : decode cL_setByte 21 = .ok (.ireturn, 1) := by decide +kernel
theorem dL_setByte_22 : decode cL_setByte 22 = .ok (.iconst 0, 1) := by decide +kernel
theorem dL_setByte_23 : decode cL_setByte 23 = .ok (.ireturn, 1) := by decide +kernel
theorem dL_shift_0 : decode cL_shift 0 = .ok (.aload_n 0, 1) := by decide +kernel
theorem dL_shift_1 : decode cL_shift 1 = .ok (.iload_n 1, 1) := by decide +kernel
theorem dL_shift_2 : decode cL_shift 2 = .ok (.iload_n 2, 1) := by decide +kernel
theorem dL_shift_3 : decode cL_shift 3 = .ok (.iload_n 3, 1) := by decide +kernel
theorem dL_shift_4 : decode cL_shift 4 = .ok (.invokevirtual 57, 3) := by decide +kernel
theorem dL_shift_7 : decode cL_shift 7 = .ok (.goto 15, 3) := by decide +kernel
theorem dL_shift_10 : decode cL_shift 10 = .ok (.astore 4, 2) := by decide +kernel
theorem dL_shift_12 : decode cL_shift 12 = .ok (.iconst 1, 1) := by decide +kernel
theorem dL_shift_13 : decode cL_shift 13 = .ok (.ireturn, 1) := by decide +kernel
theorem dL_shift_14 : decode cL_shift 14 = .ok (.astore 4, 2) := by decide +kernel
theorem dL_shift_16 : decode cL_shift 16 = .ok (.iconst 2, 1) := by decide +kernel
theorem dL_shift_17 : decode cL_shift 17 = .ok (.ireturn, 1) := by decide +kernel
theorem dL_shift_18 : decode cL_shift 18 = .ok (.astore 4, 2) := by decide +kernel
theorem dL_shift_20 : decode cL_shift 20 = .ok (.iconst 3, 1) := by decide +kernel
theorem dL_shift_21 : decode cL_shift 21 = .ok (.ireturn, 1) := by decide +kernel
theorem dL_shift_22 : decode cL_shift 22 = .ok (.iconst 0, 1) := by decide +kernel
theorem dL_shift_23 : decode cL_shift 23 = .ok (.ireturn, 1) := by decide +kernel
theorem dL_load_0 : decode cL_load 0 = .ok (.aload_n 0, 1) := by decide +kernel
theorem dL_load_1 : decode cL_load 1 = .ok (.iload_n 1, 1) := by decide +kernel
theorem dL_load_2 : decode cL_load 2 = .ok (.iload_n 2, 1) := by decide +kernel
theorem dL_load_3 : decode cL_load 3 = .ok (.iload_n 3, 1) := by decide +kernel
theorem dL_load_4 : decode cL_load 4 = .ok (.invokevirtual 60, 3) := by decide +kernel
theorem dL_load_7 : decode cL_load 7 = .ok (.goto 15, 3) := by decide +kernel
theorem dL_load_10 : decode cL_load 10 = .ok (.astore 4, 2) := by decide +kernel
theorem dL_load_12 : decode cL_load 12 = .ok (.iconst 1, 1) := by decide +kernel
theorem dL_load_13 : decode cL_load 13 = .ok (.ireturn, 1) := by decide +kernel
theorem dL_load_14 : decode cL_load 14 = .ok (.astore 4, 2) := by decide +kernel
theorem dL_load_16 : decode cL_load 16 = .ok (.iconst 2, 1) := by decide +kernel
theorem dL_load_17 : decode cL_load 17 = .ok (.ireturn, 1) := by decide +kernel
theorem dL_load_18 : decode cL_load 18 = .ok (.astore 4, 2) := by decide +kernel
theorem dL_load_20 : decode cL_load 20 = .ok (.iconst 3, 1) := by decide +kernel
theorem dL_load_21 : decode cL_load 21 = .ok (.ireturn, 1) := by decide +kernel
theorem dL_load_22 : decode cL_load 22 = .ok (.iconst 0, 1) := by decide +kernel
theorem dL_load_23 : decode cL_load 23 = .ok (.ireturn, 1) := by decide +kernel
theorem dL_store_0 : decode cL_store 0 = .ok (.aload_n 0, 1) := by decide +kernel
theorem dL_store_1 : decode cL_store 1 = .ok (.iload_n 1, 1) := by decide +kernel
theorem dL_store_2 : decode cL_store 2 = .ok (.iload_n 2, 1) := by decide +kernel
theorem dL_store_3 : decode cL_store 3 = .ok (.iload_n 3, 1) := by decide +kernel
theorem dL_store_4 : decode cL_store 4 = .ok (.invokevirtual 63, 3) := by decide +kernel
theorem dL_store_7 : decode cL_store 7 = .ok (.goto 15, 3) := by decide +kernel
theorem dL_store_10 : decode cL_store 10 = .ok (.astore 4, 2) := by decide +kernel
theorem dL_store_12 : decode cL_store 12 = .ok (.iconst 1, 1) := by decide +kernel
theorem dL_store_13 : decode cL_store 13 = .ok (.ireturn, 1) := by decide +kernel
theorem dL_store_14 : decode cL_store 14 = .ok (.astore 4, 2) := by decide +kernel
theorem dL_store_16 : decode cL_store 16 = .ok (.iconst 2, 1) := by decide +kernel
theorem dL_store_17 : decode cL_store 17 = .ok (.ireturn, 1) := by decide +kernel
theorem dL_store_18 : decode cL_store 18 = .ok (.astore 4, 2) := by decide +kernel
theorem dL_store_20 : decode cL_store 20 = .ok (.iconst 3, 1) := by decide +kernel
theorem dL_store_21 : decode cL_store 21 = .ok (.ireturn, 1) := by decide +kernel
theorem dL_store_22 : decode cL_store 22 = .ok (.iconst 0, 1) := by decide +kernel
theorem dL_store_23 : decode cL_store 23 = .ok (.ireturn, 1) := by decide +kernel
theorem dL_copy_0 : decode cL_copy 0 = .ok (.aload_n 0, 1) := by decide +kernel
theorem dL_copy_1 : decode cL_copy 1 = .ok (.iload_n 1, 1) := by decide +kernel
theorem dL_copy_2 : decode cL_copy 2 = .ok (.iload_n 2, 1) := by decide +kernel
theorem dL_copy_3 : decode cL_copy 3 = .ok (.iload_n 3, 1) := by decide +kernel
theorem dL_copy_4 : decode cL_copy 4 = .ok (.invokevirtual 66, 3) := by decide +kernel
theorem dL_copy_7 : decode cL_copy 7 = .ok (.goto 15, 3) := by decide +kernel
theorem dL_copy_10 : decode cL_copy 10 = .ok (.astore 4, 2) := by decide +kernel
theorem dL_copy_12 : decode cL_copy 12 = .ok (.iconst 1, 1) := by decide +kernel
theorem dL_copy_13 : decode cL_copy 13 = .ok (.ireturn, 1) := by decide +kernel
theorem dL_copy_14 : decode cL_copy 14 = .ok (.astore 4, 2) := by decide +kernel
theorem dL_copy_16 : decode cL_copy 16 = .ok (.iconst 2, 1) := by decide +kernel
theorem dL_copy_17 : decode cL_copy 17 = .ok (.ireturn, 1) := by decide +kernel
theorem dL_copy_18 : decode cL_copy 18 = .ok (.astore 4, 2) := by decide +kernel
theorem dL_copy_20 : decode cL_copy 20 = .ok (.iconst 3, 1) := by decide +kernel
theorem dL_copy_21 : decode cL_copy 21 = .ok (.ireturn, 1) := by decide +kernel
theorem dL_copy_22 : decode cL_copy 22 = .ok (.iconst 0, 1) := by decide +kernel
theorem dL_copy_23 : decode cL_copy 23 = .ok (.ireturn, 1) := by decide +kernel
theorem dL_put_0 : decode cL_put 0 = .ok (.aload_n 3, 1) := by decide +kernel
theorem dL_put_1 : decode cL_put 1 = .ok (.iconst 0, 1) := by decide +kernel
theorem dL_put_2 : decode cL_put 2 = .ok (.aload_n 0, 1) := by decide +kernel
theorem dL_put_3 : decode cL_put 3 = .ok (.iload_n 1, 1) := by decide +kernel
theorem dL_put_4 : decode cL_put 4 = .ok (.iload_n 2, 1) := by decide +kernel
theorem dL_put_5 : decode cL_put 5 = .ok (.invokevirtual 69, 3) := by decide +kernel
theorem dL_put_8 : decode cL_put 8 = .ok (.i2l, 1) := by decide +kernel
theorem dL_put_9 : decode cL_put 9 = .ok (.lastore, 1) := by decide +kernel
theorem dL_put_10 : decode cL_put 10 = .ok (.goto 19, 3) := by decide +kernel
theorem dL_put_13 : decode cL_put 13 = .ok (.astore 4, 2) := by decide +kernel
theorem dL_put_15 : decode cL_put 15 = .ok (.iconst 1, 1) := by decide +kernel
theorem dL_put_16 : decode cL_put 16 = .ok (.ireturn, 1) := by decide +kernel
theorem dL_put_17 : decode cL_put 17 = .ok (.astore 4, 2) := by decide +kernel
theorem dL_put_19 : decode cL_put 19 = .ok (.iconst 2, 1) := by decide +kernel
theorem dL_put_20 : decode cL_put 20 = .ok (.ireturn, 1) := by decide +kernel
theorem dL_put_21 : decode cL_put 21 = .ok (.astore 4, 2) := by decide +kernel
theorem dL_put_23 : decode cL_put 23 = .ok (.iconst 3, 1) := by decide +kernel
theorem dL_put_24 : decode cL_put 24 = .ok (.ireturn, 1) := by decide +kernel
theorem dL_put_25 : decode cL_put 25 = .ok (.astore 4, 2) := by decide +kernel
theorem dL_put_27 : decode cL_put 27 = .ok (.iconst 4, 1) := by decide +kernel
theorem dL_put_28 : decode cL_put 28 = .ok (.ireturn, 1) := by decide +kernel
theorem dL_put_29 : decode cL_put 29 = .ok (.iconst 0, 1) := by decide +kernel
theorem dL_put_30 : decode cL_put 30 = .ok (.ireturn, 1) := by decide +kernel
theorem dL_get_0 : decode cL_get 0 = .ok (.aload_n 3, 1) := by decide +kernel
theorem dL_get_1 : decode cL_get 1 = .ok (.iconst 0, 1) := by decide +kernel
theorem dL_get_2 : decode cL_get 2 = .ok (.aload_n 0, 1) := by decide +kernel
theorem dL_get_3 : decode cL_get 3 = .ok (.iload_n 1, 1) := by decide +kernel
theorem dL_get_4 : decode cL_get 4 = .ok (.iload_n 2, 1) := by decide +kernel
theorem dL_get_5 : decode cL_get 5 = .ok (.invokevirtual 72, 3) := by decide +kernel
theorem dL_get_8 : decode cL_get 8 = .ok (.i2l, 1) := by decide +kernel
theorem dL_get_9 : decode cL_get 9 = .ok (.lastore, 1) := by decide +kernel
theorem dL_get_10 : decode cL_get 10 = .ok (.goto 15, 3) := by decide +kernel
theorem dL_get_13 : decode cL_get 13 = .ok (.astore 4, 2) := by decide +kernel
theorem dL_get_15 : decode cL_get 15 = .ok (.iconst 1, 1) := by decide +kernel
theorem dL_get_16 : decode cL_get 16 = .ok (.ireturn, 1) := by decide +kernel
theorem dL_get_17 : decode cL_get 17 = .ok (.astore 4, 2) := by decide +kernel
theorem dL_get_19 : decode cL_get 19 = .ok (.iconst 2, 1) := by decide +kernel
theorem dL_get_20 : decode cL_get 20 = .ok (.ireturn, 1) := by decide +kernel
theorem dL_get_21 : decode cL_get 21 = .ok (.astore 4, 2) := by decide +kernel
theorem dL_get_23 : decode cL_get 23 = .ok (.iconst 3, 1) := by decide +kernel
theorem dL_get_24 : decode cL_get 24 = .ok (.ireturn, 1) := by decide +kernel
theorem dL_get_25 : decode cL_get 25 = .ok (.iconst 0, 1) := by decide +kernel
theorem dL_get_26 : decode cL_get 26 = .ok (.ireturn, 1) := by decide +kernel
theorem dL_remove_0 : decode cL_remove 0 = .ok (.aload_n 3, 1) := by decide +kernel
theorem dL_remove_1 : decode cL_remove 1 = .ok (.iconst 0, 1) := by decide +kernel
theorem dL_remove_2 : decode cL_remove 2 = .ok (.aload_n 0, 1) := by decide +kernel
theorem dL_remove_3 : decode cL_remove 3 = .ok (.iload_n 1, 1) := by decide +kernel
theorem dL_remove_4 : decode cL_remove 4 = .ok (.iload_n 2, 1) := by decide +kernel
theorem dL_remove_5 : decode cL_remove 5 = .ok (.invokevirtual 75, 3) := by decide +kernel
theorem dL_remove_8 : decode cL_remove 8 = .ok (.i2l, 1) := by decide +kernel
theorem dL_remove_9 : decode cL_remove 9 = .ok (.lastore, 1) := by decide +kernel
theorem dL_remove_10 : decode cL_remove 10 = .ok (.goto 15, 3) := by decide +kernel
theorem dL_remove_13 : decode cL_remove 13 = .ok (.astore 4, 2) := by decide +kernel
theorem dL_remove_15 : decode cL_remove 15 = .ok (.iconst 1, 1) := by decide +kernel
theorem dL_remove_16 : decode cL_remove 16 = .ok (.ireturn, 1) := by decide +kernel
theorem dL_remove_17 : decode cL_remove 17 = .ok (.astore 4, 2) := by decide +kernel
theorem dL_remove_19 : decode cL_remove 19 = .ok (.iconst 2, 1) := by decide +kernel
theorem dL_remove_20 : decode cL_remove 20 = .ok (.ireturn, 1) := by decide +kernel
theorem dL_remove_21 : decode cL_remove 21 = .ok (.astore 4, 2) := by decide +kernel
theorem dL_remove_23 : decode cL_remove 23 = .ok (.iconst 3, 1) := by decide +kernel
theorem dL_remove_24 : decode cL_remove 24 = .ok (.ireturn, 1) := by decide +kernel
theorem dL_remove_25 : decode cL_remove 25 = .ok (.iconst 0, 1) := by decide +kernel
theorem dL_remove_26 : decode cL_remove 26 = .ok (.ireturn, 1) := by decide +kernel
theorem dL_next_0 : decode cL_next 0 = .ok (.aload_n 3, 1) := by decide +kernel
theorem dL_next_1 : decode cL_next 1 = .ok (.iconst 0, 1) := by decide +kernel
theorem dL_next_2 : decode cL_next 2 = .ok (.aload_n 0, 1) := by decide +kernel
theorem dL_next_3 : decode cL_next 3 = .ok (.iload_n 1, 1) := by decide +kernel
theorem dL_next_4 : decode cL_next 4 = .ok (.iload_n 2, 1) := by decide +kernel
theorem dL_next_5 : decode cL_next 5 = .ok (.invokevirtual 78, 3) := by decide +kernel
theorem dL_next_8 : decode cL_next 8 = .ok (.i2l, 1) := by decide +kernel
theorem dL_next_9 : decode cL_next 9 = .ok (.lastore, 1) := by decide +kernel
theorem dL_next_10 : decode cL_next 10 = .ok (.goto 11, 3) := by decide +kernel
theorem dL_next_13 : decode cL_next 13 = .ok (.astore 4, 2) := by decide +kernel
theorem dL_next_15 : decode cL_next 15 = .ok (.iconst 1, 1) := by decide +kernel
theorem dL_next_16 : decode cL_next 16 = .ok (.ireturn, 1) := by decide +kernel
theorem dL_next_17 : decode cL_next 17 = .ok (.astore 4, 2) := by decide +kernel
theorem dL_next_19 : decode cL_next 19 = .ok (.iconst 2, 1) := by decide +kernel
theorem dL_next_20 : decode cL_next 20 = .ok (.ireturn, 1) := by decide +kernel
theorem dL_next_21 : decode cL_next 21 = .ok (.iconst 0, 1) := by decide +kernel
theorem dL_next_22 : decode cL_next 22 = .ok (.ireturn, 1) := by decide +kernel
theorem dL_entry_0 : decode cL_entry 0 = .ok (.aload_n 0, 1) := by decide +kernel
theorem dL_entry_1 : decode cL_entry 1 = .ok (.iload_n 1, 1) := by decide +kernel
theorem dL_entry_2 : decode cL_entry 2 = .ok (.iload_n 2, 1) := by decide +kernel
theorem dL_entry_3 : decode cL_entry 3 = .ok (.iload_n 3, 1) := by decide +kernel
theorem dL_entry_4 : decode cL_entry 4 = .ok (.invokevirtual 81, 3) := by decide +kernel
theorem dL_entry_7 : decode cL_entry 7 = .ok (.goto 19, 3) := by decide +kernel
theorem dL_entry_10 : decode cL_entry 10 = .ok (.astore 4, 2) := by decide +kernel
theorem dL_entry_12 : decode cL_entry 12 = .ok (.iconst 1, 1) := by decide +kernel
theorem dL_entry_13 : decode cL_entry 13 = .ok (.ireturn, 1) := by decide +kernel
theorem dL_entry_14 : decode cL_entry 14 = .ok (.astore 4, 2) := by decide +kernel
theorem dL_entry_16 : decode cL_entry 16 = .ok (.iconst 2, 1) := by decide +kernel
theorem dL_entry_17 : decode cL_entry 17 = .ok (.ireturn, 1) := by decide +kernel
theorem dL_entry_18 : decode cL_entry 18 = .ok (.astore 4, 2) := by decide +kernel
theorem dL_entry_20 : decode cL_entry 20 = .ok (.iconst 3, 1) := by decide +kernel
theorem dL_entry_21 : decode cL_entry 21 = .ok (.ireturn, 1) := by decide +kernel
theorem dL_entry_22 : decode cL_entry 22 = .ok (.astore 4, 2) := by decide +kernel
theorem dL_entry_24 : decode cL_entry 24 = .ok (.iconst 4, 1) := by decide +kernel
theorem dL_entry_25 : decode cL_entry 25 = .ok (.ireturn, 1) := by decide +kernel
theorem dL_entry_26 : decode cL_entry 26 = .ok (.iconst 0, 1) := by decide +kernel
theorem dL_entry_27 : decode cL_entry 27 = .ok (.ireturn, 1) := by decide +kernel
theorem dL_tell_0 : decode cL_tell 0 = .ok (.aload_n 3, 1) := by decide +kernel
theorem dL_tell_1 : decode cL_tell 1 = .ok (.iconst 0, 1) := by decide +kernel
theorem dL_tell_2 : decode cL_tell 2 = .ok (.aload_n 0, 1) := by decide +kernel
theorem dL_tell_3 : decode cL_tell 3 = .ok (.iload_n 1, 1) := by decide +kernel
theorem dL_tell_4 : decode cL_tell 4 = .ok (.iload_n 2, 1) := by decide +kernel
theorem dL_tell_5 : decode cL_tell 5 = .ok (.invokevirtual 86, 3) := by decide +kernel
theorem dL_tell_8 : decode cL_tell 8 = .ok (.i2l, 1) := by decide +kernel
theorem dL_tell_9 : decode cL_tell 9 = .ok (.lastore, 1) := by decide +kernel
theorem dL_tell_10 : decode cL_tell 10 = .ok (.goto 7, 3) := by decide +kernel
theorem dL_tell_13 : decode cL_tell 13 = .ok (.astore 4, 2) := by decide +kernel
theorem dL_tell_15 : decode cL_tell 15 = .ok (.iconst 1, 1) := by decide +kernel
theorem dL_tell_16 : decode cL_tell 16 = .ok (.ireturn, 1) := by decide +kernel
theorem dL_tell_17 : decode cL_tell 17 = .ok (.iconst 0, 1) := by decide +kernel
theorem dL_tell_18 : decode cL_tell 18 = .ok (.ireturn, 1) := by decide +kernel
theorem dL_value_0 : decode cL_value 0 = .ok (.aload_n 2, 1) := by decide +kernel
theorem dL_value_1 : decode cL_value 1 = .ok (.iconst 0, 1) := by decide +kernel
theorem dL_value_2 : decode cL_value 2 = .ok (.aload_n 0, 1) := by decide +kernel
theorem dL_value_3 : decode cL_value 3 = .ok (.iload_n 1, 1) := by decide +kernel
theorem dL_value_4 : decode cL_value 4 = .ok (.invokevirtual 89, 3) := by decide +kernel
theorem dL_value_7 : decode cL_value 7 = .ok (.lastore, 1) := by decide +kernel
theorem dL_value_8 : decode cL_value 8 = .ok (.goto 9, 3) := by decide +kernel
theorem dL_value_11 : decode cL_value 11 = .ok (.astore_n 3, 1) := by decide +kernel
theorem dL_value_12 : decode cL_value 12 = .ok (.iconst 1, 1) := by decide +kernel
theorem dL_value_13 : decode cL_value 13 = .ok (.ireturn, 1) := by decide +kernel
theorem dL_value_14 : decode cL_value 14 = .ok (.astore_n 3, 1) := by decide +kernel
theorem dL_value_15 : decode cL_value 15 = .ok (.iconst 2, 1) := by decide +kernel
theorem dL_value_16 : decode cL_value 16 = .ok (.ireturn, 1) := by decide +kernel
theorem dL_value_17 : decode cL_value 17 = .ok (.iconst 0, 1) := by decide +kernel
theorem dL_value_18 : decode cL_value 18 = .ok (.ireturn, 1) := by decide +kernel
theorem dL_same_0 : decode cL_same 0 = .ok (.aload_n 3, 1) := by decide +kernel
theorem dL_same_1 : decode cL_same 1 = .ok (.iconst 0, 1) := by decide +kernel
theorem dL_same_2 : decode cL_same 2 = .ok (.aload_n 0, 1) := by decide +kernel
theorem dL_same_3 : decode cL_same 3 = .ok (.iload_n 1, 1) := by decide +kernel
theorem dL_same_4 : decode cL_same 4 = .ok (.iload_n 2, 1) := by decide +kernel
theorem dL_same_5 : decode cL_same 5 = .ok (.invokevirtual 93, 3) := by decide +kernel
theorem dL_same_8 : decode cL_same 8 = .ok (.ifCond .eq 7, 3) := by decide +kernel
theorem dL_same_11 : decode cL_same 11 = .ok (.lconst 1, 1) := by decide +kernel
theorem dL_same_12 : decode cL_same 12 = .ok (.goto 4, 3) := by decide +kernel
theorem dL_same_15 : decode cL_same 15 = .ok (.lconst 0, 1) := by decide +kernel
theorem dL_same_16 : decode cL_same 16 = .ok (.lastore, 1) := by decide +kernel
theorem dL_same_17 : decode cL_same 17 = .ok (.goto 7, 3) := by decide +kernel
theorem dL_same_20 : decode cL_same 20 = .ok (.astore 4, 2) := by decide +kernel
theorem dL_same_22 : decode cL_same 22 = .ok (.iconst 1, 1) := by decide +kernel
theorem dL_same_23 : decode cL_same 23 = .ok (.ireturn, 1) := by decide +kernel
theorem dL_same_24 : decode cL_same 24 = .ok (.iconst 0, 1) := by decide +kernel
theorem dL_same_25 : decode cL_same 25 = .ok (.ireturn, 1) := by decide +kernel
theorem dL_total_0 : decode cL_total 0 = .ok (.aload_n 2, 1) := by decide +kernel
theorem dL_total_1 : decode cL_total 1 = .ok (.iconst 0, 1) := by decide +kernel
theorem dL_total_2 : decode cL_total 2 = .ok (.aload_n 0, 1) := by decide +kernel
theorem dL_total_3 : decode cL_total 3 = .ok (.iload_n 1, 1) := by decide +kernel
theorem dL_total_4 : decode cL_total 4 = .ok (.invokevirtual 97, 3) := by decide +kernel
theorem dL_total_7 : decode cL_total 7 = .ok (.i2l, 1) := by decide +kernel
theorem dL_total_8 : decode cL_total 8 = .ok (.lastore, 1) := by decide +kernel
theorem dL_total_9 : decode cL_total 9 = .ok (.goto 6, 3) := by decide +kernel
theorem dL_total_12 : decode cL_total 12 = .ok (.astore_n 3, 1) := by decide +kernel
theorem dL_total_13 : decode cL_total 13 = .ok (.iconst 1, 1) := by decide +kernel
theorem dL_total_14 : decode cL_total 14 = .ok (.ireturn, 1) := by decide +kernel
theorem dL_total_15 : decode cL_total 15 = .ok (.iconst 0, 1) := by decide +kernel
theorem dL_total_16 : decode cL_total 16 = .ok (.ireturn, 1) := by decide +kernel
def vL_number : List Cond := .codeWith yL_number cL_number 5 (some .int) [(0, 6, 9, 13)] :: AW
def vL_nil : List Cond := .codeWith yL_nil cL_nil 3 (some .int) [(0, 5, 8, 13)] :: AW
def vL_move : List Cond := .codeWith yL_move cL_move 4 (some .int) [(0, 6, 9, 13)] :: AW
def vL_make : List Cond := .codeWith yL_make cL_make 5 (some .int) [(0, 10, 13, 13), (0, 10, 17, 27)] :: AW
def vL_text : List Cond := .codeWith yL_text cL_text 5 (some .int) [(0, 10, 13, 13), (0, 10, 17, 27)] :: AW
def vL_map : List Cond := .codeWith yL_map cL_map 7 (some .int) [(0, 14, 17, 13), (0, 14, 21, 27)] :: AW
def vL_join : List Cond := .codeWith yL_join cL_join 6 (some .int) [(0, 12, 15, 13), (0, 12, 19, 40), (0, 12, 23, 27)] :: AW
def vL_part : List Cond := .codeWith yL_part cL_part 7 (some .int) [(0, 14, 17, 13), (0, 14, 21, 40), (0, 14, 25, 45), (0, 14, 29, 27)] :: AW
def vL_compare : List Cond := .codeWith yL_compare cL_compare 5 (some .int) [(0, 10, 13, 13), (0, 10, 17, 40)] :: AW
def vL_byteAt : List Cond := .codeWith yL_byteAt cL_byteAt 5 (some .int) [(0, 10, 13, 13), (0, 10, 17, 40), (0, 10, 21, 45)] :: AW
def vL_setByte : List Cond := .codeWith yL_setByte cL_setByte 5 (some .int) [(0, 7, 10, 13), (0, 7, 14, 40), (0, 7, 18, 45)] :: AW
def vL_shift : List Cond := .codeWith yL_shift cL_shift 5 (some .int) [(0, 7, 10, 13), (0, 7, 14, 40), (0, 7, 18, 45)] :: AW
def vL_load : List Cond := .codeWith yL_load cL_load 5 (some .int) [(0, 7, 10, 13), (0, 7, 14, 40), (0, 7, 18, 45)] :: AW
def vL_store : List Cond := .codeWith yL_store cL_store 5 (some .int) [(0, 7, 10, 13), (0, 7, 14, 40), (0, 7, 18, 45)] :: AW
def vL_copy : List Cond := .codeWith yL_copy cL_copy 5 (some .int) [(0, 7, 10, 13), (0, 7, 14, 40), (0, 7, 18, 45)] :: AW
def vL_put : List Cond := .codeWith yL_put cL_put 5 (some .int) [(0, 10, 13, 13), (0, 10, 17, 40), (0, 10, 21, 45), (0, 10, 25, 27)] :: AW
def vL_get : List Cond := .codeWith yL_get cL_get 5 (some .int) [(0, 10, 13, 13), (0, 10, 17, 40), (0, 10, 21, 45)] :: AW
def vL_remove : List Cond := .codeWith yL_remove cL_remove 5 (some .int) [(0, 10, 13, 13), (0, 10, 17, 40), (0, 10, 21, 45)] :: AW
def vL_next : List Cond := .codeWith yL_next cL_next 5 (some .int) [(0, 10, 13, 13), (0, 10, 17, 40)] :: AW
def vL_entry : List Cond := .codeWith yL_entry cL_entry 5 (some .int) [(0, 7, 10, 13), (0, 7, 14, 40), (0, 7, 18, 45), (0, 7, 22, 84)] :: AW
def vL_tell : List Cond := .codeWith yL_tell cL_tell 5 (some .int) [(0, 10, 13, 13)] :: AW
def vL_value : List Cond := .codeWith yL_value cL_value 4 (some .int) [(0, 8, 11, 13), (0, 8, 14, 40)] :: AW
def vL_same : List Cond := .codeWith yL_same cL_same 5 (some .int) [(0, 17, 20, 13)] :: AW
def vL_total : List Cond := .codeWith yL_total cL_total 4 (some .int) [(0, 9, 12, 13)] :: AW
theorem wn_0 : Cond.methodLink RL 7 yX3_number ∈ AW := List.mem_filter.mpr ⟨List.mem_append_right _ (List.mem_of_getElem? (i := 193) (by decide +kernel)), by decide +kernel⟩
theorem wn_1 : Cond.instanceMethod yX3_number ∈ AW := List.mem_filter.mpr ⟨List.mem_append_right _ (List.mem_of_getElem? (i := 194) (by decide +kernel)), by decide +kernel⟩
theorem wn_2 : Cond.selects RX3 yX3_number yX3_number ∈ AW := List.mem_filter.mpr ⟨List.mem_append_right _ (List.mem_of_getElem? (i := 195) (by decide +kernel)), by decide +kernel⟩
theorem wn_3 : Cond.initialized RX3 ∈ AW := List.mem_filter.mpr ⟨List.mem_append_right _ (List.mem_of_getElem? (i := 1) (by decide +kernel)), by decide +kernel⟩
theorem wn_4 : Cond.code yX3_number cX3_number 4 none ∈ AW := List.mem_filter.mpr ⟨List.mem_append_right _ (List.mem_of_getElem? (i := 196) (by decide +kernel)), by decide +kernel⟩
theorem wn_5 : Cond.classLink RL 13 "java/lang/IllegalArgumentException" ∈ AW := List.mem_filter.mpr ⟨List.mem_append_right _ (List.mem_of_getElem? (i := 192) (by decide +kernel)), by decide +kernel⟩
theorem wn_6 : Cond.methodLink RL 15 yX3_nil ∈ AW := List.mem_filter.mpr ⟨List.mem_append_right _ (List.mem_of_getElem? (i := 278) (by decide +kernel)), by decide +kernel⟩
theorem wn_7 : Cond.instanceMethod yX3_nil ∈ AW := List.mem_filter.mpr ⟨List.mem_append_right _ (List.mem_of_getElem? (i := 279) (by decide +kernel)), by decide +kernel⟩
theorem wn_8 : Cond.selects RX3 yX3_nil yX3_nil ∈ AW := List.mem_filter.mpr ⟨List.mem_append_right _ (List.mem_of_getElem? (i := 280) (by decide +kernel)), by decide +kernel⟩
theorem wn_9 : Cond.code yX3_nil cX3_nil 2 none ∈ AW := List.mem_filter.mpr ⟨List.mem_append_right _ (List.mem_of_getElem? (i := 281) (by decide +kernel)), by decide +kernel⟩
theorem wn_10 : Cond.methodLink RL 19 yX3_move ∈ AW := List.mem_filter.mpr ⟨List.mem_append_right _ (List.mem_of_getElem? (i := 289) (by decide +kernel)), by decide +kernel⟩
theorem wn_11 : Cond.instanceMethod yX3_move ∈ AW := List.mem_filter.mpr ⟨List.mem_append_right _ (List.mem_of_getElem? (i := 290) (by decide +kernel)), by decide +kernel⟩
theorem wn_12 : Cond.selects RX3 yX3_move yX3_move ∈ AW := List.mem_filter.mpr ⟨List.mem_append_right _ (List.mem_of_getElem? (i := 291) (by decide +kernel)), by decide +kernel⟩
theorem wn_13 : Cond.code yX3_move cX3_move 3 none ∈ AW := List.mem_filter.mpr ⟨List.mem_append_right _ (List.mem_of_getElem? (i := 292) (by decide +kernel)), by decide +kernel⟩
theorem wn_14 : Cond.methodLink RL 23 yX3_make ∈ AW := List.mem_filter.mpr ⟨List.mem_append_right _ (List.mem_of_getElem? (i := 301) (by decide +kernel)), by decide +kernel⟩
theorem wn_15 : Cond.instanceMethod yX3_make ∈ AW := List.mem_filter.mpr ⟨List.mem_append_right _ (List.mem_of_getElem? (i := 302) (by decide +kernel)), by decide +kernel⟩
theorem wn_16 : Cond.selects RX3 yX3_make yX3_make ∈ AW := List.mem_filter.mpr ⟨List.mem_append_right _ (List.mem_of_getElem? (i := 303) (by decide +kernel)), by decide +kernel⟩
theorem wn_17 : Cond.code yX3_make cX3_make 3 (some .int) ∈ AW := List.mem_filter.mpr ⟨List.mem_append_right _ (List.mem_of_getElem? (i := 304) (by decide +kernel)), by decide +kernel⟩
theorem wn_18 : Cond.classLink RL 27 "java/lang/IllegalStateException" ∈ AW := List.mem_filter.mpr ⟨List.mem_append_right _ (List.mem_of_getElem? (i := 300) (by decide +kernel)), by decide +kernel⟩
theorem wn_19 : Cond.methodLink RL 29 yX3_text ∈ AW := List.mem_filter.mpr ⟨List.mem_append_right _ (List.mem_of_getElem? (i := 642) (by decide +kernel)), by decide +kernel⟩
theorem wn_20 : Cond.instanceMethod yX3_text ∈ AW := List.mem_filter.mpr ⟨List.mem_append_right _ (List.mem_of_getElem? (i := 643) (by decide +kernel)), by decide +kernel⟩
theorem wn_21 : Cond.selects RX3 yX3_text yX3_text ∈ AW := List.mem_filter.mpr ⟨List.mem_append_right _ (List.mem_of_getElem? (i := 644) (by decide +kernel)), by decide +kernel⟩
theorem wn_22 : Cond.code yX3_text cX3_text 3 (some .int) ∈ AW := List.mem_filter.mpr ⟨List.mem_append_right _ (List.mem_of_getElem? (i := 645) (by decide +kernel)), by decide +kernel⟩
theorem wn_23 : Cond.methodLink RL 32 yX3_map ∈ AW := List.mem_filter.mpr ⟨List.mem_append_right _ (List.mem_of_getElem? (i := 650) (by decide +kernel)), by decide +kernel⟩
theorem wn_24 : Cond.instanceMethod yX3_map ∈ AW := List.mem_filter.mpr ⟨List.mem_append_right _ (List.mem_of_getElem? (i := 651) (by decide +kernel)), by decide +kernel⟩
theorem wn_25 : Cond.selects RX3 yX3_map yX3_map ∈ AW := List.mem_filter.mpr ⟨List.mem_append_right _ (List.mem_of_getElem? (i := 652) (by decide +kernel)), by decide +kernel⟩
theorem wn_26 : Cond.code yX3_map cX3_map 5 (some .int) ∈ AW := List.mem_filter.mpr ⟨List.mem_append_right _ (List.mem_of_getElem? (i := 653) (by decide +kernel)), by decide +kernel⟩
theorem wn_27 : Cond.methodLink RL 36 yX3_join ∈ AW := List.mem_filter.mpr ⟨List.mem_append_right _ (List.mem_of_getElem? (i := 683) (by decide +kernel)), by decide +kernel⟩
theorem wn_28 : Cond.instanceMethod yX3_join ∈ AW := List.mem_filter.mpr ⟨List.mem_append_right _ (List.mem_of_getElem? (i := 684) (by decide +kernel)), by decide +kernel⟩
theorem wn_29 : Cond.selects RX3 yX3_join yX3_join ∈ AW := List.mem_filter.mpr ⟨List.mem_append_right _ (List.mem_of_getElem? (i := 685) (by decide +kernel)), by decide +kernel⟩
theorem wn_30 : Cond.code yX3_join cX3_join 6 (some .int) ∈ AW := List.mem_filter.mpr ⟨List.mem_append_right _ (List.mem_of_getElem? (i := 686) (by decide +kernel)), by decide +kernel⟩
theorem wn_31 : Cond.classLink RL 40 "java/lang/UnsupportedOperationException" ∈ AW := List.mem_filter.mpr ⟨List.mem_append_right _ (List.mem_of_getElem? (i := 682) (by decide +kernel)), by decide +kernel⟩
theorem wn_32 : Cond.methodLink RL 42 yX3_part ∈ AW := List.mem_filter.mpr ⟨List.mem_append_right _ (List.mem_of_getElem? (i := 739) (by decide +kernel)), by decide +kernel⟩
theorem wn_33 : Cond.instanceMethod yX3_part ∈ AW := List.mem_filter.mpr ⟨List.mem_append_right _ (List.mem_of_getElem? (i := 740) (by decide +kernel)), by decide +kernel⟩
theorem wn_34 : Cond.selects RX3 yX3_part yX3_part ∈ AW := List.mem_filter.mpr ⟨List.mem_append_right _ (List.mem_of_getElem? (i := 741) (by decide +kernel)), by decide +kernel⟩
theorem wn_35 : Cond.code yX3_part cX3_part 6 (some .int) ∈ AW := List.mem_filter.mpr ⟨List.mem_append_right _ (List.mem_of_getElem? (i := 742) (by decide +kernel)), by decide +kernel⟩
theorem wn_36 : Cond.classLink RL 45 "java/lang/IndexOutOfBoundsException" ∈ AW := List.mem_filter.mpr ⟨List.mem_append_right _ (List.mem_of_getElem? (i := 738) (by decide +kernel)), by decide +kernel⟩
theorem wn_37 : Cond.methodLink RL 47 yX3_compare ∈ AW := List.mem_filter.mpr ⟨List.mem_append_right _ (List.mem_of_getElem? (i := 765) (by decide +kernel)), by decide +kernel⟩
theorem wn_38 : Cond.instanceMethod yX3_compare ∈ AW := List.mem_filter.mpr ⟨List.mem_append_right _ (List.mem_of_getElem? (i := 766) (by decide +kernel)), by decide +kernel⟩
theorem wn_39 : Cond.selects RX3 yX3_compare yX3_compare ∈ AW := List.mem_filter.mpr ⟨List.mem_append_right _ (List.mem_of_getElem? (i := 767) (by decide +kernel)), by decide +kernel⟩
theorem wn_40 : Cond.code yX3_compare cX3_compare 5 (some .int) ∈ AW := List.mem_filter.mpr ⟨List.mem_append_right _ (List.mem_of_getElem? (i := 768) (by decide +kernel)), by decide +kernel⟩
theorem wn_41 : Cond.methodLink RL 50 yX3_byteAt ∈ AW := List.mem_filter.mpr ⟨List.mem_append_right _ (List.mem_of_getElem? (i := 784) (by decide +kernel)), by decide +kernel⟩
theorem wn_42 : Cond.instanceMethod yX3_byteAt ∈ AW := List.mem_filter.mpr ⟨List.mem_append_right _ (List.mem_of_getElem? (i := 785) (by decide +kernel)), by decide +kernel⟩
theorem wn_43 : Cond.selects RX3 yX3_byteAt yX3_byteAt ∈ AW := List.mem_filter.mpr ⟨List.mem_append_right _ (List.mem_of_getElem? (i := 786) (by decide +kernel)), by decide +kernel⟩
theorem wn_44 : Cond.code yX3_byteAt cX3_byteAt 4 (some .int) ∈ AW := List.mem_filter.mpr ⟨List.mem_append_right _ (List.mem_of_getElem? (i := 787) (by decide +kernel)), by decide +kernel⟩
theorem wn_45 : Cond.methodLink RL 53 yX3_setByte ∈ AW := List.mem_filter.mpr ⟨List.mem_append_right _ (List.mem_of_getElem? (i := 803) (by decide +kernel)), by decide +kernel⟩
theorem wn_46 : Cond.instanceMethod yX3_setByte ∈ AW := List.mem_filter.mpr ⟨List.mem_append_right _ (List.mem_of_getElem? (i := 804) (by decide +kernel)), by decide +kernel⟩
theorem wn_47 : Cond.selects RX3 yX3_setByte yX3_setByte ∈ AW := List.mem_filter.mpr ⟨List.mem_append_right _ (List.mem_of_getElem? (i := 805) (by decide +kernel)), by decide +kernel⟩
theorem wn_48 : Cond.code yX3_setByte cX3_setByte 5 none ∈ AW := List.mem_filter.mpr ⟨List.mem_append_right _ (List.mem_of_getElem? (i := 806) (by decide +kernel)), by decide +kernel⟩
theorem wn_49 : Cond.methodLink RL 57 yX3_shift ∈ AW := List.mem_filter.mpr ⟨List.mem_append_right _ (List.mem_of_getElem? (i := 820) (by decide +kernel)), by decide +kernel⟩
theorem wn_50 : Cond.instanceMethod yX3_shift ∈ AW := List.mem_filter.mpr ⟨List.mem_append_right _ (List.mem_of_getElem? (i := 821) (by decide +kernel)), by decide +kernel⟩
theorem wn_51 : Cond.selects RX3 yX3_shift yX3_shift ∈ AW := List.mem_filter.mpr ⟨List.mem_append_right _ (List.mem_of_getElem? (i := 822) (by decide +kernel)), by decide +kernel⟩
theorem wn_52 : Cond.code yX3_shift cX3_shift 7 none ∈ AW := List.mem_filter.mpr ⟨List.mem_append_right _ (List.mem_of_getElem? (i := 823) (by decide +kernel)), by decide +kernel⟩
theorem wn_53 : Cond.methodLink RL 60 yX3_load ∈ AW := List.mem_filter.mpr ⟨List.mem_append_right _ (List.mem_of_getElem? (i := 838) (by decide +kernel)), by decide +kernel⟩
theorem wn_54 : Cond.instanceMethod yX3_load ∈ AW := List.mem_filter.mpr ⟨List.mem_append_right _ (List.mem_of_getElem? (i := 839) (by decide +kernel)), by decide +kernel⟩
theorem wn_55 : Cond.selects RX3 yX3_load yX3_load ∈ AW := List.mem_filter.mpr ⟨List.mem_append_right _ (List.mem_of_getElem? (i := 840) (by decide +kernel)), by decide +kernel⟩
theorem wn_56 : Cond.code yX3_load cX3_load 5 none ∈ AW := List.mem_filter.mpr ⟨List.mem_append_right _ (List.mem_of_getElem? (i := 841) (by decide +kernel)), by decide +kernel⟩
theorem wn_57 : Cond.methodLink RL 63 yX3_store ∈ AW := List.mem_filter.mpr ⟨List.mem_append_right _ (List.mem_of_getElem? (i := 851) (by decide +kernel)), by decide +kernel⟩
theorem wn_58 : Cond.instanceMethod yX3_store ∈ AW := List.mem_filter.mpr ⟨List.mem_append_right _ (List.mem_of_getElem? (i := 852) (by decide +kernel)), by decide +kernel⟩
theorem wn_59 : Cond.selects RX3 yX3_store yX3_store ∈ AW := List.mem_filter.mpr ⟨List.mem_append_right _ (List.mem_of_getElem? (i := 853) (by decide +kernel)), by decide +kernel⟩
theorem wn_60 : Cond.code yX3_store cX3_store 5 none ∈ AW := List.mem_filter.mpr ⟨List.mem_append_right _ (List.mem_of_getElem? (i := 854) (by decide +kernel)), by decide +kernel⟩
theorem wn_61 : Cond.methodLink RL 66 yX3_copy ∈ AW := List.mem_filter.mpr ⟨List.mem_append_right _ (List.mem_of_getElem? (i := 858) (by decide +kernel)), by decide +kernel⟩
theorem wn_62 : Cond.instanceMethod yX3_copy ∈ AW := List.mem_filter.mpr ⟨List.mem_append_right _ (List.mem_of_getElem? (i := 859) (by decide +kernel)), by decide +kernel⟩
theorem wn_63 : Cond.selects RX3 yX3_copy yX3_copy ∈ AW := List.mem_filter.mpr ⟨List.mem_append_right _ (List.mem_of_getElem? (i := 860) (by decide +kernel)), by decide +kernel⟩
theorem wn_64 : Cond.code yX3_copy cX3_copy 4 none ∈ AW := List.mem_filter.mpr ⟨List.mem_append_right _ (List.mem_of_getElem? (i := 861) (by decide +kernel)), by decide +kernel⟩
theorem wn_65 : Cond.methodLink RL 69 yX3_put ∈ AW := List.mem_filter.mpr ⟨List.mem_append_right _ (List.mem_of_getElem? (i := 875) (by decide +kernel)), by decide +kernel⟩
theorem wn_66 : Cond.instanceMethod yX3_put ∈ AW := List.mem_filter.mpr ⟨List.mem_append_right _ (List.mem_of_getElem? (i := 876) (by decide +kernel)), by decide +kernel⟩
theorem wn_67 : Cond.selects RX3 yX3_put yX3_put ∈ AW := List.mem_filter.mpr ⟨List.mem_append_right _ (List.mem_of_getElem? (i := 877) (by decide +kernel)), by decide +kernel⟩
theorem wn_68 : Cond.code yX3_put cX3_put 3 (some .int) ∈ AW := List.mem_filter.mpr ⟨List.mem_append_right _ (List.mem_of_getElem? (i := 878) (by decide +kernel)), by decide +kernel⟩
theorem wn_69 : Cond.methodLink RL 72 yX3_get ∈ AW := List.mem_filter.mpr ⟨List.mem_append_right _ (List.mem_of_getElem? (i := 986) (by decide +kernel)), by decide +kernel⟩
theorem wn_70 : Cond.instanceMethod yX3_get ∈ AW := List.mem_filter.mpr ⟨List.mem_append_right _ (List.mem_of_getElem? (i := 987) (by decide +kernel)), by decide +kernel⟩
theorem wn_71 : Cond.selects RX3 yX3_get yX3_get ∈ AW := List.mem_filter.mpr ⟨List.mem_append_right _ (List.mem_of_getElem? (i := 988) (by decide +kernel)), by decide +kernel⟩
theorem wn_72 : Cond.code yX3_get cX3_get 3 (some .int) ∈ AW := List.mem_filter.mpr ⟨List.mem_append_right _ (List.mem_of_getElem? (i := 989) (by decide +kernel)), by decide +kernel⟩
theorem wn_73 : Cond.methodLink RL 75 yX3_remove ∈ AW := List.mem_filter.mpr ⟨List.mem_append_right _ (List.mem_of_getElem? (i := 997) (by decide +kernel)), by decide +kernel⟩
theorem wn_74 : Cond.instanceMethod yX3_remove ∈ AW := List.mem_filter.mpr ⟨List.mem_append_right _ (List.mem_of_getElem? (i := 998) (by decide +kernel)), by decide +kernel⟩
theorem wn_75 : Cond.selects RX3 yX3_remove yX3_remove ∈ AW := List.mem_filter.mpr ⟨List.mem_append_right _ (List.mem_of_getElem? (i := 999) (by decide +kernel)), by decide +kernel⟩
theorem wn_76 : Cond.code yX3_remove cX3_remove 3 (some .int) ∈ AW := List.mem_filter.mpr ⟨List.mem_append_right _ (List.mem_of_getElem? (i := 1000) (by decide +kernel)), by decide +kernel⟩
theorem wn_77 : Cond.methodLink RL 78 yX3_next ∈ AW := List.mem_filter.mpr ⟨List.mem_append_right _ (List.mem_of_getElem? (i := 1009) (by decide +kernel)), by decide +kernel⟩
theorem wn_78 : Cond.instanceMethod yX3_next ∈ AW := List.mem_filter.mpr ⟨List.mem_append_right _ (List.mem_of_getElem? (i := 1010) (by decide +kernel)), by decide +kernel⟩
theorem wn_79 : Cond.selects RX3 yX3_next yX3_next ∈ AW := List.mem_filter.mpr ⟨List.mem_append_right _ (List.mem_of_getElem? (i := 1011) (by decide +kernel)), by decide +kernel⟩
theorem wn_80 : Cond.code yX3_next cX3_next 4 (some .int) ∈ AW := List.mem_filter.mpr ⟨List.mem_append_right _ (List.mem_of_getElem? (i := 1012) (by decide +kernel)), by decide +kernel⟩
theorem wn_81 : Cond.methodLink RL 81 yX3_entry ∈ AW := List.mem_filter.mpr ⟨List.mem_append_right _ (List.mem_of_getElem? (i := 1022) (by decide +kernel)), by decide +kernel⟩
theorem wn_82 : Cond.instanceMethod yX3_entry ∈ AW := List.mem_filter.mpr ⟨List.mem_append_right _ (List.mem_of_getElem? (i := 1023) (by decide +kernel)), by decide +kernel⟩
theorem wn_83 : Cond.selects RX3 yX3_entry yX3_entry ∈ AW := List.mem_filter.mpr ⟨List.mem_append_right _ (List.mem_of_getElem? (i := 1024) (by decide +kernel)), by decide +kernel⟩
theorem wn_84 : Cond.code yX3_entry cX3_entry 6 none ∈ AW := List.mem_filter.mpr ⟨List.mem_append_right _ (List.mem_of_getElem? (i := 1025) (by decide +kernel)), by decide +kernel⟩
theorem wn_85 : Cond.classLink RL 84 "java/util/NoSuchElementException" ∈ AW := List.mem_filter.mpr ⟨List.mem_append_right _ (List.mem_of_getElem? (i := 1021) (by decide +kernel)), by decide +kernel⟩
theorem wn_86 : Cond.methodLink RL 86 yX3_tell ∈ AW := List.mem_filter.mpr ⟨List.mem_append_right _ (List.mem_of_getElem? (i := 1049) (by decide +kernel)), by decide +kernel⟩
theorem wn_87 : Cond.instanceMethod yX3_tell ∈ AW := List.mem_filter.mpr ⟨List.mem_append_right _ (List.mem_of_getElem? (i := 1050) (by decide +kernel)), by decide +kernel⟩
theorem wn_88 : Cond.selects RX3 yX3_tell yX3_tell ∈ AW := List.mem_filter.mpr ⟨List.mem_append_right _ (List.mem_of_getElem? (i := 1051) (by decide +kernel)), by decide +kernel⟩
theorem wn_89 : Cond.code yX3_tell cX3_tell 5 (some .int) ∈ AW := List.mem_filter.mpr ⟨List.mem_append_right _ (List.mem_of_getElem? (i := 1052) (by decide +kernel)), by decide +kernel⟩
theorem wn_90 : Cond.methodLink RL 89 yX3_value ∈ AW := List.mem_filter.mpr ⟨List.mem_append_right _ (List.mem_of_getElem? (i := 1058) (by decide +kernel)), by decide +kernel⟩
theorem wn_91 : Cond.instanceMethod yX3_value ∈ AW := List.mem_filter.mpr ⟨List.mem_append_right _ (List.mem_of_getElem? (i := 1059) (by decide +kernel)), by decide +kernel⟩
theorem wn_92 : Cond.selects RX3 yX3_value yX3_value ∈ AW := List.mem_filter.mpr ⟨List.mem_append_right _ (List.mem_of_getElem? (i := 1060) (by decide +kernel)), by decide +kernel⟩
theorem wn_93 : Cond.code yX3_value cX3_value 2 (some .long) ∈ AW := List.mem_filter.mpr ⟨List.mem_append_right _ (List.mem_of_getElem? (i := 1061) (by decide +kernel)), by decide +kernel⟩
theorem wn_94 : Cond.methodLink RL 93 yX3_same ∈ AW := List.mem_filter.mpr ⟨List.mem_append_right _ (List.mem_of_getElem? (i := 1071) (by decide +kernel)), by decide +kernel⟩
theorem wn_95 : Cond.instanceMethod yX3_same ∈ AW := List.mem_filter.mpr ⟨List.mem_append_right _ (List.mem_of_getElem? (i := 1072) (by decide +kernel)), by decide +kernel⟩
theorem wn_96 : Cond.selects RX3 yX3_same yX3_same ∈ AW := List.mem_filter.mpr ⟨List.mem_append_right _ (List.mem_of_getElem? (i := 1073) (by decide +kernel)), by decide +kernel⟩
theorem wn_97 : Cond.code yX3_same cX3_same 3 (some .boolean) ∈ AW := List.mem_filter.mpr ⟨List.mem_append_right _ (List.mem_of_getElem? (i := 1074) (by decide +kernel)), by decide +kernel⟩
theorem wn_98 : Cond.methodLink RL 97 yX3_total ∈ AW := List.mem_filter.mpr ⟨List.mem_append_right _ (List.mem_of_getElem? (i := 1079) (by decide +kernel)), by decide +kernel⟩
theorem wn_99 : Cond.instanceMethod yX3_total ∈ AW := List.mem_filter.mpr ⟨List.mem_append_right _ (List.mem_of_getElem? (i := 1080) (by decide +kernel)), by decide +kernel⟩
theorem wn_100 : Cond.selects RX3 yX3_total yX3_total ∈ AW := List.mem_filter.mpr ⟨List.mem_append_right _ (List.mem_of_getElem? (i := 1081) (by decide +kernel)), by decide +kernel⟩
theorem wn_101 : Cond.code yX3_total cX3_total 2 (some .int) ∈ AW := List.mem_filter.mpr ⟨List.mem_append_right _ (List.mem_of_getElem? (i := 1082) (by decide +kernel)), by decide +kernel⟩
theorem hdV_X3_number : yX3_number.cls = RX3 ∧ yX3_number.cls ≠ "java/lang/invoke/MethodHandle" ∧ yX3_number.cls ≠ "java/lang/invoke/VarHandle" ∧ (parseMethodDescriptor yX3_number.desc).map (fun d => d.parameters.length) = some 2 := by decide +kernel
theorem hdV_X3_nil : yX3_nil.cls = RX3 ∧ yX3_nil.cls ≠ "java/lang/invoke/MethodHandle" ∧ yX3_nil.cls ≠ "java/lang/invoke/VarHandle" ∧ (parseMethodDescriptor yX3_nil.desc).map (fun d => d.parameters.length) = some 1 := by decide +kernel
theorem hdV_X3_move : yX3_move.cls = RX3 ∧ yX3_move.cls ≠ "java/lang/invoke/MethodHandle" ∧ yX3_move.cls ≠ "java/lang/invoke/VarHandle" ∧ (parseMethodDescriptor yX3_move.desc).map (fun d => d.parameters.length) = some 2 := by decide +kernel
theorem hdV_X3_make : yX3_make.cls = RX3 ∧ yX3_make.cls ≠ "java/lang/invoke/MethodHandle" ∧ yX3_make.cls ≠ "java/lang/invoke/VarHandle" ∧ (parseMethodDescriptor yX3_make.desc).map (fun d => d.parameters.length) = some 2 := by decide +kernel
theorem hdV_X3_text : yX3_text.cls = RX3 ∧ yX3_text.cls ≠ "java/lang/invoke/MethodHandle" ∧ yX3_text.cls ≠ "java/lang/invoke/VarHandle" ∧ (parseMethodDescriptor yX3_text.desc).map (fun d => d.parameters.length) = some 2 := by decide +kernel
theorem hdV_X3_map : yX3_map.cls = RX3 ∧ yX3_map.cls ≠ "java/lang/invoke/MethodHandle" ∧ yX3_map.cls ≠ "java/lang/invoke/VarHandle" ∧ (parseMethodDescriptor yX3_map.desc).map (fun d => d.parameters.length) = some 4 := by decide +kernel
theorem hdV_X3_join : yX3_join.cls = RX3 ∧ yX3_join.cls ≠ "java/lang/invoke/MethodHandle" ∧ yX3_join.cls ≠ "java/lang/invoke/VarHandle" ∧ (parseMethodDescriptor yX3_join.desc).map (fun d => d.parameters.length) = some 3 := by decide +kernel
theorem hdV_X3_part : yX3_part.cls = RX3 ∧ yX3_part.cls ≠ "java/lang/invoke/MethodHandle" ∧ yX3_part.cls ≠ "java/lang/invoke/VarHandle" ∧ (parseMethodDescriptor yX3_part.desc).map (fun d => d.parameters.length) = some 4 := by decide +kernel
theorem hdV_X3_compare : yX3_compare.cls = RX3 ∧ yX3_compare.cls ≠ "java/lang/invoke/MethodHandle" ∧ yX3_compare.cls ≠ "java/lang/invoke/VarHandle" ∧ (parseMethodDescriptor yX3_compare.desc).map (fun d => d.parameters.length) = some 2 := by decide +kernel
theorem hdV_X3_byteAt : yX3_byteAt.cls = RX3 ∧ yX3_byteAt.cls ≠ "java/lang/invoke/MethodHandle" ∧ yX3_byteAt.cls ≠ "java/lang/invoke/VarHandle" ∧ (parseMethodDescriptor yX3_byteAt.desc).map (fun d => d.parameters.length) = some 2 := by decide +kernel
theorem hdV_X3_setByte : yX3_setByte.cls = RX3 ∧ yX3_setByte.cls ≠ "java/lang/invoke/MethodHandle" ∧ yX3_setByte.cls ≠ "java/lang/invoke/VarHandle" ∧ (parseMethodDescriptor yX3_setByte.desc).map (fun d => d.parameters.length) = some 3 := by decide +kernel
theorem hdV_X3_shift : yX3_shift.cls = RX3 ∧ yX3_shift.cls ≠ "java/lang/invoke/MethodHandle" ∧ yX3_shift.cls ≠ "java/lang/invoke/VarHandle" ∧ (parseMethodDescriptor yX3_shift.desc).map (fun d => d.parameters.length) = some 3 := by decide +kernel
theorem hdV_X3_load : yX3_load.cls = RX3 ∧ yX3_load.cls ≠ "java/lang/invoke/MethodHandle" ∧ yX3_load.cls ≠ "java/lang/invoke/VarHandle" ∧ (parseMethodDescriptor yX3_load.desc).map (fun d => d.parameters.length) = some 3 := by decide +kernel
theorem hdV_X3_store : yX3_store.cls = RX3 ∧ yX3_store.cls ≠ "java/lang/invoke/MethodHandle" ∧ yX3_store.cls ≠ "java/lang/invoke/VarHandle" ∧ (parseMethodDescriptor yX3_store.desc).map (fun d => d.parameters.length) = some 3 := by decide +kernel
theorem hdV_X3_copy : yX3_copy.cls = RX3 ∧ yX3_copy.cls ≠ "java/lang/invoke/MethodHandle" ∧ yX3_copy.cls ≠ "java/lang/invoke/VarHandle" ∧ (parseMethodDescriptor yX3_copy.desc).map (fun d => d.parameters.length) = some 3 := by decide +kernel
theorem hdV_X3_put : yX3_put.cls = RX3 ∧ yX3_put.cls ≠ "java/lang/invoke/MethodHandle" ∧ yX3_put.cls ≠ "java/lang/invoke/VarHandle" ∧ (parseMethodDescriptor yX3_put.desc).map (fun d => d.parameters.length) = some 2 := by decide +kernel
theorem hdV_X3_get : yX3_get.cls = RX3 ∧ yX3_get.cls ≠ "java/lang/invoke/MethodHandle" ∧ yX3_get.cls ≠ "java/lang/invoke/VarHandle" ∧ (parseMethodDescriptor yX3_get.desc).map (fun d => d.parameters.length) = some 2 := by decide +kernel
theorem hdV_X3_remove : yX3_remove.cls = RX3 ∧ yX3_remove.cls ≠ "java/lang/invoke/MethodHandle" ∧ yX3_remove.cls ≠ "java/lang/invoke/VarHandle" ∧ (parseMethodDescriptor yX3_remove.desc).map (fun d => d.parameters.length) = some 2 := by decide +kernel
theorem hdV_X3_next : yX3_next.cls = RX3 ∧ yX3_next.cls ≠ "java/lang/invoke/MethodHandle" ∧ yX3_next.cls ≠ "java/lang/invoke/VarHandle" ∧ (parseMethodDescriptor yX3_next.desc).map (fun d => d.parameters.length) = some 2 := by decide +kernel
theorem hdV_X3_entry : yX3_entry.cls = RX3 ∧ yX3_entry.cls ≠ "java/lang/invoke/MethodHandle" ∧ yX3_entry.cls ≠ "java/lang/invoke/VarHandle" ∧ (parseMethodDescriptor yX3_entry.desc).map (fun d => d.parameters.length) = some 3 := by decide +kernel
theorem hdV_X3_tell : yX3_tell.cls = RX3 ∧ yX3_tell.cls ≠ "java/lang/invoke/MethodHandle" ∧ yX3_tell.cls ≠ "java/lang/invoke/VarHandle" ∧ (parseMethodDescriptor yX3_tell.desc).map (fun d => d.parameters.length) = some 2 := by decide +kernel
theorem hdV_X3_value : yX3_value.cls = RX3 ∧ yX3_value.cls ≠ "java/lang/invoke/MethodHandle" ∧ yX3_value.cls ≠ "java/lang/invoke/VarHandle" ∧ (parseMethodDescriptor yX3_value.desc).map (fun d => d.parameters.length) = some 1 := by decide +kernel
theorem hdV_X3_same : yX3_same.cls = RX3 ∧ yX3_same.cls ≠ "java/lang/invoke/MethodHandle" ∧ yX3_same.cls ≠ "java/lang/invoke/VarHandle" ∧ (parseMethodDescriptor yX3_same.desc).map (fun d => d.parameters.length) = some 2 := by decide +kernel
theorem hdV_X3_total : yX3_total.cls = RX3 ∧ yX3_total.cls ≠ "java/lang/invoke/MethodHandle" ∧ yX3_total.cls ≠ "java/lang/invoke/VarHandle" ∧ (parseMethodDescriptor yX3_total.desc).map (fun d => d.parameters.length) = some 1 := by decide +kernel
