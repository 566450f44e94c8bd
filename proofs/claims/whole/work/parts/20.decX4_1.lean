theorem dX4_begin_101 : decode cX4_begin 101 = .ok (.getfield 38, 3) := by decide +kernel
theorem dX4_begin_104 : decode cX4_begin 104 = .ok (.invokestatic 149, 3) := by decide +kernel
theorem dX4_begin_107 : decode cX4_begin 107 = .ok (.putfield 38, 3) := by decide +kernel
theorem dX4_begin_110 : decode cX4_begin 110 = .ok (.aload_n 0, 1) := by decide +kernel
theorem dX4_begin_111 : decode cX4_begin 111 = .ok (.aload_n 0, 1) := by decide +kernel
theorem dX4_begin_112 : decode cX4_begin 112 = .ok (.getfield 41, 3) := by decide +kernel
theorem dX4_begin_115 : decode cX4_begin 115 = .ok (.invokestatic 149, 3) := by decide +kernel
theorem dX4_begin_118 : decode cX4_begin 118 = .ok (.putfield 41, 3) := by decide +kernel
theorem dX4_begin_121 : decode cX4_begin 121 = .ok (.aload_n 0, 1) := by decide +kernel
theorem dX4_begin_122 : decode cX4_begin 122 = .ok (.aload_n 0, 1) := by decide +kernel
theorem dX4_begin_123 : decode cX4_begin 123 = .ok (.getfield 44, 3) := by decide +kernel
theorem dX4_begin_126 : decode cX4_begin 126 = .ok (.invokestatic 153, 3) := by decide +kernel
theorem dX4_begin_129 : decode cX4_begin 129 = .ok (.putfield 44, 3) := by decide +kernel
theorem dX4_begin_132 : decode cX4_begin 132 = .ok (.aload_n 0, 1) := by decide +kernel
theorem dX4_begin_133 : decode cX4_begin 133 = .ok (.aload_n 0, 1) := by decide +kernel
theorem dX4_begin_134 : decode cX4_begin 134 = .ok (.getfield 48, 3) := by decide +kernel
theorem dX4_begin_137 : decode cX4_begin 137 = .ok (.invokestatic 153, 3) := by decide +kernel
theorem dX4_begin_140 : decode cX4_begin 140 = .ok (.putfield 48, 3) := by decide +kernel
theorem dX4_begin_143 : decode cX4_begin 143 = .ok (.aload_n 0, 1) := by decide +kernel
theorem dX4_begin_144 : decode cX4_begin 144 = .ok (.aload_n 0, 1) := by decide +kernel
theorem dX4_begin_145 : decode cX4_begin 145 = .ok (.getfield 51, 3) := by decide +kernel
theorem dX4_begin_148 : decode cX4_begin 148 = .ok (.invokestatic 153, 3) := by decide +kernel
theorem dX4_begin_151 : decode cX4_begin 151 = .ok (.putfield 51, 3) := by decide +kernel
theorem dX4_begin_154 : decode cX4_begin 154 = .ok (.aload_n 0, 1) := by decide +kernel
theorem dX4_begin_155 : decode cX4_begin 155 = .ok (.getfield 17, 3) := by decide +kernel
theorem dX4_begin_158 : decode cX4_begin 158 = .ok (.aload_n 0, 1) := by decide +kernel
theorem dX4_begin_159 : decode cX4_begin 159 = .ok (.getfield 99, 3) := by decide +kernel
theorem dX4_begin_162 : decode cX4_begin 162 = .ok (.iload_n 1, 1) := by decide +kernel
theorem dX4_begin_163 : decode cX4_begin 163 = .ok (.iastore, 1) := by decide +kernel
theorem dX4_begin_164 : decode cX4_begin 164 = .ok (.aload_n 0, 1) := by decide +kernel
theorem dX4_begin_165 : decode cX4_begin 165 = .ok (.getfield 20, 3) := by decide +kernel
theorem dX4_begin_168 : decode cX4_begin 168 = .ok (.aload_n 0, 1) := by decide +kernel
theorem dX4_begin_169 : decode cX4_begin 169 = .ok (.getfield 99, 3) := by decide +kernel
theorem dX4_begin_172 : decode cX4_begin 172 = .ok (.iload_n 2, 1) := by decide +kernel
theorem dX4_begin_173 : decode cX4_begin 173 = .ok (.iastore, 1) := by decide +kernel
theorem dX4_begin_174 : decode cX4_begin 174 = .ok (.aload_n 0, 1) := by decide +kernel
theorem dX4_begin_175 : decode cX4_begin 175 = .ok (.getfield 44, 3) := by decide +kernel
theorem dX4_begin_178 : decode cX4_begin 178 = .ok (.aload_n 0, 1) := by decide +kernel
theorem dX4_begin_179 : decode cX4_begin 179 = .ok (.getfield 99, 3) := by decide +kernel
theorem dX4_begin_182 : decode cX4_begin 182 = .ok (.iconst 1, 1) := by decide +kernel
theorem dX4_begin_183 : decode cX4_begin 183 = .ok (.bastore, 1) := by decide +kernel
theorem dX4_begin_184 : decode cX4_begin 184 = .ok (.aload_n 0, 1) := by decide +kernel
theorem dX4_begin_185 : decode cX4_begin 185 = .ok (.getfield 99, 3) := by decide +kernel
theorem dX4_begin_188 : decode cX4_begin 188 = .ok (.ireturn, 1) := by decide +kernel
theorem dX4_beginText_0 : decode cX4_beginText 0 = .ok (.aload_n 0, 1) := by decide +kernel
theorem dX4_beginText_1 : decode cX4_beginText 1 = .ok (.iconst 3, 1) := by decide +kernel
theorem dX4_beginText_2 : decode cX4_beginText 2 = .ok (.iload_n 1, 1) := by decide +kernel
theorem dX4_beginText_3 : decode cX4_beginText 3 = .ok (.invokevirtual 157, 3) := by decide +kernel
theorem dX4_beginText_6 : decode cX4_beginText 6 = .ok (.istore_n 2, 1) := by decide +kernel
theorem dX4_beginText_7 : decode cX4_beginText 7 = .ok (.aload_n 0, 1) := by decide +kernel
theorem dX4_beginText_8 : decode cX4_beginText 8 = .ok (.getfield 23, 3) := by decide +kernel
theorem dX4_beginText_11 : decode cX4_beginText 11 = .ok (.iload_n 2, 1) := by decide +kernel
theorem dX4_beginText_12 : decode cX4_beginText 12 = .ok (.aload_n 0, 1) := by decide +kernel
theorem dX4_beginText_13 : decode cX4_beginText 13 = .ok (.getfield 112, 3) := by decide +kernel
theorem dX4_beginText_16 : decode cX4_beginText 16 = .ok (.iastore, 1) := by decide +kernel
theorem dX4_beginText_17 : decode cX4_beginText 17 = .ok (.aload_n 0, 1) := by decide +kernel
theorem dX4_beginText_18 : decode cX4_beginText 18 = .ok (.getfield 112, 3) := by decide +kernel
theorem dX4_beginText_21 : decode cX4_beginText 21 = .ok (.iload_n 1, 1) := by decide +kernel
theorem dX4_beginText_22 : decode cX4_beginText 22 = .ok (.iadd, 1) := by decide +kernel
theorem dX4_beginText_23 : decode cX4_beginText 23 = .ok (.aload_n 0, 1) := by decide +kernel
theorem dX4_beginText_24 : decode cX4_beginText 24 = .ok (.getfield 60, 3) := by decide +kernel
theorem dX4_beginText_27 : decode cX4_beginText 27 = .ok (.arraylength, 1) := by decide +kernel
theorem dX4_beginText_28 : decode cX4_beginText 28 = .ok (.if_icmp .le 17, 3) := by decide +kernel
theorem dX4_beginText_31 : decode cX4_beginText 31 = .ok (.aload_n 0, 1) := by decide +kernel
theorem dX4_beginText_32 : decode cX4_beginText 32 = .ok (.aload_n 0, 1) := by decide +kernel
theorem dX4_beginText_33 : decode cX4_beginText 33 = .ok (.getfield 60, 3) := by decide +kernel
theorem dX4_beginText_36 : decode cX4_beginText 36 = .ok (.invokestatic 161, 3) := by decide +kernel
theorem dX4_beginText_39 : decode cX4_beginText 39 = .ok (.putfield 60, 3) := by decide +kernel
theorem dX4_beginText_42 : decode cX4_beginText 42 = .ok (.goto (-25), 3) := by decide +kernel
theorem dX4_beginText_45 : decode cX4_beginText 45 = .ok (.iconst 0, 1) := by decide +kernel
theorem dX4_beginText_46 : decode cX4_beginText 46 = .ok (.istore_n 3, 1) := by decide +kernel
theorem dX4_beginText_47 : decode cX4_beginText 47 = .ok (.iload_n 3, 1) := by decide +kernel
theorem dX4_beginText_48 : decode cX4_beginText 48 = .ok (.iload_n 1, 1) := by decide +kernel
theorem dX4_beginText_49 : decode cX4_beginText 49 = .ok (.if_icmp .ge 21, 3) := by decide +kernel
theorem dX4_beginText_52 : decode cX4_beginText 52 = .ok (.aload_n 0, 1) := by decide +kernel
theorem dX4_beginText_53 : decode cX4_beginText 53 = .ok (.getfield 60, 3) := by decide +kernel
theorem dX4_beginText_56 : decode cX4_beginText 56 = .ok (.aload_n 0, 1) := by decide +kernel
theorem dX4_beginText_57 : decode cX4_beginText 57 = .ok (.getfield 112, 3) := by decide +kernel
theorem dX4_beginText_60 : decode cX4_beginText 60 = .ok (.iload_n 3, 1) := by decide +kernel
theorem dX4_beginText_61 : decode cX4_beginText 61 = .ok (.iadd, 1) := by decide +kernel
theorem dX4_beginText_62 : decode cX4_beginText 62 = .ok (.iconst 0, 1) := by decide +kernel
theorem dX4_beginText_63 : decode cX4_beginText 63 = .ok (.bastore, 1) := by decide +kernel
theorem dX4_beginText_64 : decode cX4_beginText 64 = .ok (.iinc 3 1, 3) := by decide +kernel
theorem dX4_beginText_67 : decode cX4_beginText 67 = .ok (.goto (-20), 3) := by decide +kernel
theorem dX4_beginText_70 : decode cX4_beginText 70 = .ok (.aload_n 0, 1) := by decide +kernel
theorem dX4_beginText_71 : decode cX4_beginText 71 = .ok (.dup, 1) := by decide +kernel
theorem dX4_beginText_72 : decode cX4_beginText 72 = .ok (.getfield 112, 3) := by decide +kernel
theorem dX4_beginText_75 : decode cX4_beginText 75 = .ok (.iload_n 1, 1) := by decide +kernel
theorem dX4_beginText_76 : decode cX4_beginText 76 = .ok (.iadd, 1) := by decide +kernel
theorem dX4_beginText_77 : decode cX4_beginText 77 = .ok (.putfield 112, 3) := by decide +kernel
theorem dX4_beginText_80 : decode cX4_beginText 80 = .ok (.iload_n 2, 1) := by decide +kernel
theorem dX4_beginText_81 : decode cX4_beginText 81 = .ok (.ireturn, 1) := by decide +kernel
theorem dX4_number_0 : decode cX4_number 0 = .ok (.aload_n 0, 1) := by decide +kernel
theorem dX4_number_1 : decode cX4_number 1 = .ok (.iload_n 1, 1) := by decide +kernel
theorem dX4_number_2 : decode cX4_number 2 = .ok (.invokestatic 165, 3) := by decide +kernel
theorem dX4_number_5 : decode cX4_number 5 = .ok (.ifCond .eq 7, 3) := by decide +kernel
theorem dX4_number_8 : decode cX4_number 8 = .ok (.iconst 0, 1) := by decide +kernel
theorem dX4_number_9 : decode cX4_number 9 = .ok (.goto 4, 3) := by decide +kernel
theorem dX4_number_12 : decode cX4_number 12 = .ok (.iconst 1, 1) := by decide +kernel
theorem dX4_number_13 : decode cX4_number 13 = .ok (.putfield 85, 3) := by decide +kernel
theorem dX4_number_16 : decode cX4_number 16 = .ok (.aload_n 0, 1) := by decide +kernel
theorem dX4_number_17 : decode cX4_number 17 = .ok (.getfield 85, 3) := by decide +kernel
theorem dX4_number_20 : decode cX4_number 20 = .ok (.ifCond .ne 10, 3) := by decide +kernel
theorem dX4_number_23 : decode cX4_number 23 = .ok (.aload_n 0, 1) := by decide +kernel
theorem dX4_number_24 : decode cX4_number 24 = .ok (.iload_n 1, 1) := by decide +kernel
theorem dX4_number_25 : decode cX4_number 25 = .ok (.iconst 0, 1) := by decide +kernel
theorem dX4_number_26 : decode cX4_number 26 = .ok (.lload_n 2, 1) := by decide +kernel
theorem dX4_number_27 : decode cX4_number 27 = .ok (.invokevirtual 168, 3) := by decide +kernel
theorem dX4_number_30 : decode cX4_number 30 = .ok (.return_, 1) := by decide +kernel
theorem dX4_nil_0 : decode cX4_nil 0 = .ok (.aload_n 0, 1) := by decide +kernel
theorem dX4_nil_1 : decode cX4_nil 1 = .ok (.iload_n 1, 1) := by decide +kernel
theorem dX4_nil_2 : decode cX4_nil 2 = .ok (.invokestatic 165, 3) := by decide +kernel
theorem dX4_nil_5 : decode cX4_nil 5 = .ok (.ifCond .eq 7, 3) := by decide +kernel
theorem dX4_nil_8 : decode cX4_nil 8 = .ok (.iconst 0, 1) := by decide +kernel
theorem dX4_nil_9 : decode cX4_nil 9 = .ok (.goto 4, 3) := by decide +kernel
theorem dX4_nil_12 : decode cX4_nil 12 = .ok (.iconst 1, 1) := by decide +kernel
theorem dX4_nil_13 : decode cX4_nil 13 = .ok (.putfield 85, 3) := by decide +kernel
theorem dX4_nil_16 : decode cX4_nil 16 = .ok (.aload_n 0, 1) := by decide +kernel
theorem dX4_nil_17 : decode cX4_nil 17 = .ok (.getfield 85, 3) := by decide +kernel
theorem dX4_nil_20 : decode cX4_nil 20 = .ok (.ifCond .ne 10, 3) := by decide +kernel
theorem dX4_nil_23 : decode cX4_nil 23 = .ok (.aload_n 0, 1) := by decide +kernel
theorem dX4_nil_24 : decode cX4_nil 24 = .ok (.iload_n 1, 1) := by decide +kernel
theorem dX4_nil_25 : decode cX4_nil 25 = .ok (.iconst (-1), 1) := by decide +kernel
theorem dX4_nil_26 : decode cX4_nil 26 = .ok (.lconst 0, 1) := by decide +kernel
theorem dX4_nil_27 : decode cX4_nil 27 = .ok (.invokevirtual 168, 3) := by decide +kernel
theorem dX4_nil_30 : decode cX4_nil 30 = .ok (.return_, 1) := by decide +kernel
theorem dX4_move_0 : decode cX4_move 0 = .ok (.aload_n 0, 1) := by decide +kernel
theorem dX4_move_1 : decode cX4_move 1 = .ok (.iload_n 1, 1) := by decide +kernel
theorem dX4_move_2 : decode cX4_move 2 = .ok (.invokestatic 165, 3) := by decide +kernel
theorem dX4_move_5 : decode cX4_move 5 = .ok (.ifCond .eq 14, 3) := by decide +kernel
theorem dX4_move_8 : decode cX4_move 8 = .ok (.iload_n 2, 1) := by decide +kernel
theorem dX4_move_9 : decode cX4_move 9 = .ok (.invokestatic 165, 3) := by decide +kernel
theorem dX4_move_12 : decode cX4_move 12 = .ok (.ifCond .eq 7, 3) := by decide +kernel
theorem dX4_move_15 : decode cX4_move 15 = .ok (.iconst 0, 1) := by decide +kernel
theorem dX4_move_16 : decode cX4_move 16 = .ok (.goto 4, 3) := by decide +kernel
theorem dX4_move_19 : decode cX4_move 19 = .ok (.iconst 1, 1) := by decide +kernel
theorem dX4_move_20 : decode cX4_move 20 = .ok (.putfield 85, 3) := by decide +kernel
theorem dX4_move_23 : decode cX4_move 23 = .ok (.aload_n 0, 1) := by decide +kernel
theorem dX4_move_24 : decode cX4_move 24 = .ok (.getfield 85, 3) := by decide +kernel
theorem dX4_move_27 : decode cX4_move 27 = .ok (.ifCond .ne 20, 3) := by decide +kernel
theorem dX4_move_30 : decode cX4_move 30 = .ok (.aload_n 0, 1) := by decide +kernel
theorem dX4_move_31 : decode cX4_move 31 = .ok (.iload_n 1, 1) := by decide +kernel
theorem dX4_move_32 : decode cX4_move 32 = .ok (.aload_n 0, 1) := by decide +kernel
theorem dX4_move_33 : decode cX4_move 33 = .ok (.getfield 7, 3) := by decide +kernel
theorem dX4_move_36 : decode cX4_move 36 = .ok (.iload_n 2, 1) := by decide +kernel
theorem dX4_move_37 : decode cX4_move 37 = .ok (.iaload, 1) := by decide +kernel
theorem dX4_move_38 : decode cX4_move 38 = .ok (.aload_n 0, 1) := by decide +kernel
theorem dX4_move_39 : decode cX4_move 39 = .ok (.getfield 13, 3) := by decide +kernel
theorem dX4_move_42 : decode cX4_move 42 = .ok (.iload_n 2, 1) := by decide +kernel
theorem dX4_move_43 : decode cX4_move 43 = .ok (.laload, 1) := by decide +kernel
theorem dX4_move_44 : decode cX4_move 44 = .ok (.invokevirtual 168, 3) := by decide +kernel
theorem dX4_move_47 : decode cX4_move 47 = .ok (.return_, 1) := by decide +kernel
theorem dX4_make_0 : decode cX4_make 0 = .ok (.aload_n 0, 1) := by decide +kernel
theorem dX4_make_1 : decode cX4_make 1 = .ok (.iload_n 1, 1) := by decide +kernel
theorem dX4_make_2 : decode cX4_make 2 = .ok (.invokestatic 165, 3) := by decide +kernel
theorem dX4_make_5 : decode cX4_make 5 = .ok (.ifCond .eq 14, 3) := by decide +kernel
theorem dX4_make_8 : decode cX4_make 8 = .ok (.iload_n 2, 1) := by decide +kernel
theorem dX4_make_9 : decode cX4_make 9 = .ok (.iconst 0, 1) := by decide +kernel
theorem dX4_make_10 : decode cX4_make 10 = .ok (.sipush 4096, 3) := by decide +kernel
theorem dX4_make_13 : decode cX4_make 13 = .ok (.invokestatic 172, 3) := by decide +kernel
theorem dX4_make_16 : decode cX4_make 16 = .ok (.ifCond .eq 7, 3) := by decide +kernel
theorem dX4_make_19 : decode cX4_make 19 = .ok (.iconst 1, 1) := by decide +kernel
theorem dX4_make_20 : decode cX4_make 20 = .ok (.goto 4, 3) := by decide +kernel
theorem dX4_make_23 : decode cX4_make 23 = .ok (.iconst 0, 1) := by decide +kernel
theorem dX4_make_24 : decode cX4_make 24 = .ok (.putfield 85, 3) := by decide +kernel
theorem dX4_make_27 : decode cX4_make 27 = .ok (.aload_n 0, 1) := by decide +kernel
theorem dX4_make_28 : decode cX4_make 28 = .ok (.getfield 85, 3) := by decide +kernel
theorem dX4_make_31 : decode cX4_make 31 = .ok (.ifCond .ne 22, 3) := by decide +kernel
theorem dX4_make_34 : decode cX4_make 34 = .ok (.aload_n 0, 1) := by decide +kernel
theorem dX4_make_35 : decode cX4_make 35 = .ok (.iload_n 2, 1) := by decide +kernel
theorem dX4_make_36 : decode cX4_make 36 = .ok (.i2l, 1) := by decide +kernel
theorem dX4_make_37 : decode cX4_make 37 = .ok (.lconst 1, 1) := by decide +kernel
theorem dX4_make_38 : decode cX4_make 38 = .ok (.ladd, 1) := by decide +kernel
theorem dX4_make_39 : decode cX4_make 39 = .ok (.invokevirtual 176, 3) := by decide +kernel
theorem dX4_make_42 : decode cX4_make 42 = .ok (.ifCond .ne 11, 3) := by decide +kernel
theorem dX4_make_45 : decode cX4_make 45 = .ok (.aload_n 0, 1) := by decide +kernel
theorem dX4_make_46 : decode cX4_make 46 = .ok (.iconst 2, 1) := by decide +kernel
theorem dX4_make_47 : decode cX4_make 47 = .ok (.putfield 85, 3) := by decide +kernel
theorem dX4_make_50 : decode cX4_make 50 = .ok (.goto 17, 3) := by decide +kernel
theorem dX4_make_53 : decode cX4_make 53 = .ok (.aload_n 0, 1) := by decide +kernel
theorem dX4_make_54 : decode cX4_make 54 = .ok (.getfield 85, 3) := by decide +kernel
theorem dX4_make_57 : decode cX4_make 57 = .ok (.ifCond .ne 10, 3) := by decide +kernel
theorem dX4_make_60 : decode cX4_make 60 = .ok (.aload_n 0, 1) := by decide +kernel
theorem dX4_make_61 : decode cX4_make 61 = .ok (.iload_n 1, 1) := by decide +kernel
theorem dX4_make_62 : decode cX4_make 62 = .ok (.iload_n 2, 1) := by decide +kernel
theorem dX4_make_63 : decode cX4_make 63 = .ok (.invokevirtual 180, 3) := by decide +kernel
theorem dX4_make_66 : decode cX4_make 66 = .ok (.ireturn, 1) := by decide +kernel
theorem dX4_make_67 : decode cX4_make 67 = .ok (.iconst 0, 1) := by decide +kernel
theorem dX4_make_68 : decode cX4_make 68 = .ok (.ireturn, 1) := by decide +kernel
theorem dX4_makeRow_0 : decode cX4_makeRow 0 = .ok (.aload_n 0, 1) := by decide +kernel
theorem dX4_makeRow_1 : decode cX4_makeRow 1 = .ok (.iconst 0, 1) := by decide +kernel
theorem dX4_makeRow_2 : decode cX4_makeRow 2 = .ok (.putfield 85, 3) := by decide +kernel
theorem dX4_makeRow_5 : decode cX4_makeRow 5 = .ok (.aload_n 0, 1) := by decide +kernel
theorem dX4_makeRow_6 : decode cX4_makeRow 6 = .ok (.iconst 2, 1) := by decide +kernel
theorem dX4_makeRow_7 : decode cX4_makeRow 7 = .ok (.iload_n 2, 1) := by decide +kernel
theorem dX4_makeRow_8 : decode cX4_makeRow 8 = .ok (.invokevirtual 157, 3) := by decide +kernel
theorem dX4_makeRow_11 : decode cX4_makeRow 11 = .ok (.istore_n 3, 1) := by decide +kernel
theorem dX4_makeRow_12 : decode cX4_makeRow 12 = .ok (.aload_n 0, 1) := by decide +kernel
theorem dX4_makeRow_13 : decode cX4_makeRow 13 = .ok (.getfield 23, 3) := by decide +kernel
theorem dX4_makeRow_16 : decode cX4_makeRow 16 = .ok (.iload_n 3, 1) := by decide +kernel
theorem dX4_makeRow_17 : decode cX4_makeRow 17 = .ok (.aload_n 0, 1) := by decide +kernel
theorem dX4_makeRow_18 : decode cX4_makeRow 18 = .ok (.getfield 109, 3) := by decide +kernel
theorem dX4_makeRow_21 : decode cX4_makeRow 21 = .ok (.iastore, 1) := by decide +kernel
theorem dX4_makeRow_22 : decode cX4_makeRow 22 = .ok (.aload_n 0, 1) := by decide +kernel
theorem dX4_makeRow_23 : decode cX4_makeRow 23 = .ok (.getfield 109, 3) := by decide +kernel
theorem dX4_makeRow_26 : decode cX4_makeRow 26 = .ok (.iload_n 2, 1) := by decide +kernel
theorem dX4_makeRow_27 : decode cX4_makeRow 27 = .ok (.iadd, 1) := by decide +kernel
theorem dX4_makeRow_28 : decode cX4_makeRow 28 = .ok (.aload_n 0, 1) := by decide +kernel
theorem dX4_makeRow_29 : decode cX4_makeRow 29 = .ok (.getfield 54, 3) := by decide +kernel
theorem dX4_makeRow_32 : decode cX4_makeRow 32 = .ok (.arraylength, 1) := by decide +kernel
theorem dX4_makeRow_33 : decode cX4_makeRow 33 = .ok (.if_icmp .le 28, 3) := by decide +kernel
theorem dX4_makeRow_36 : decode cX4_makeRow 36 = .ok (.aload_n 0, 1) := by decide +kernel
theorem dX4_makeRow_37 : decode cX4_makeRow 37 = .ok (.aload_n 0, 1) := by decide +kernel
theorem dX4_makeRow_38 : decode cX4_makeRow 38 = .ok (.getfield 54, 3) := by decide +kernel
theorem dX4_makeRow_41 : decode cX4_makeRow 41 = .ok (.invokestatic 149, 3) := by decide +kernel
theorem dX4_makeRow_44 : decode cX4_makeRow 44 = .ok (.putfield 54, 3) := by decide +kernel
theorem dX4_makeRow_47 : decode cX4_makeRow 47 = .ok (.aload_n 0, 1) := by decide +kernel
theorem dX4_makeRow_48 : decode cX4_makeRow 48 = .ok (.aload_n 0, 1) := by decide +kernel
theorem dX4_makeRow_49 : decode cX4_makeRow 49 = .ok (.getfield 57, 3) := by decide +kernel
theorem dX4_makeRow_52 : decode cX4_makeRow 52 = .ok (.invokestatic 183, 3) := by decide +kernel
theorem dX4_makeRow_55 : decode cX4_makeRow 55 = .ok (.putfield 57, 3) := by decide +kernel
theorem dX4_makeRow_58 : decode cX4_makeRow 58 = .ok (.goto (-36), 3) := by decide +kernel
theorem dX4_makeRow_61 : decode cX4_makeRow 61 = .ok (.iconst 0, 1) := by decide +kernel
theorem dX4_makeRow_62 : decode cX4_makeRow 62 = .ok (.istore 4, 2) := by decide +kernel
theorem dX4_makeRow_64 : decode cX4_makeRow 64 = .ok (.iload 4, 2) := by decide +kernel
theorem dX4_makeRow_66 : decode cX4_makeRow 66 = .ok (.iload_n 2, 1) := by decide +kernel
theorem dX4_makeRow_67 : decode cX4_makeRow 67 = .ok (.if_icmp .ge 35, 3) := by decide +kernel
theorem dX4_makeRow_70 : decode cX4_makeRow 70 = .ok (.aload_n 0, 1) := by decide +kernel
theorem dX4_makeRow_71 : decode cX4_makeRow 71 = .ok (.getfield 54, 3) := by decide +kernel
theorem dX4_makeRow_74 : decode cX4_makeRow 74 = .ok (.aload_n 0, 1) := by decide +kernel
theorem dX4_makeRow_75 : decode cX4_makeRow 75 = .ok (.getfield 109, 3) := by decide +kernel
theorem dX4_makeRow_78 : decode cX4_makeRow 78 = .ok (.iload 4, 2) := by decide +kernel
theorem dX4_makeRow_80 : decode cX4_makeRow 80 = .ok (.iadd, 1) := by decide +kernel
theorem dX4_makeRow_81 : decode cX4_makeRow 81 = .ok (.iconst 0, 1) := by decide +kernel
theorem dX4_makeRow_82 : decode cX4_makeRow 82 = .ok (.iastore, 1) := by decide +kernel
theorem dX4_makeRow_83 : decode cX4_makeRow 83 = .ok (.aload_n 0, 1) := by decide +kernel
theorem dX4_makeRow_84 : decode cX4_makeRow 84 = .ok (.getfield 57, 3) := by decide +kernel
theorem dX4_makeRow_87 : decode cX4_makeRow 87 = .ok (.aload_n 0, 1) := by decide +kernel
theorem dX4_makeRow_88 : decode cX4_makeRow 88 = .ok (.getfield 109, 3) := by decide +kernel
theorem dX4_makeRow_91 : decode cX4_makeRow 91 = .ok (.iload 4, 2) := by decide +kernel
theorem dX4_makeRow_93 : decode cX4_makeRow 93 = .ok (.iadd, 1) := by decide +kernel
theorem dX4_makeRow_94 : decode cX4_makeRow 94 = .ok (.lconst 0, 1) := by decide +kernel
theorem dX4_makeRow_95 : decode cX4_makeRow 95 = .ok (.lastore, 1) := by decide +kernel
theorem dX4_makeRow_96 : decode cX4_makeRow 96 = .ok (.iinc 4 1, 3) := by decide +kernel
theorem dX4_makeRow_99 : decode cX4_makeRow 99 = .ok (.goto (-35), 3) := by decide +kernel
theorem dX4_makeRow_102 : decode cX4_makeRow 102 = .ok (.aload_n 0, 1) := by decide +kernel
theorem dX4_makeRow_103 : decode cX4_makeRow 103 = .ok (.dup, 1) := by decide +kernel
theorem dX4_makeRow_104 : decode cX4_makeRow 104 = .ok (.getfield 109, 3) := by decide +kernel
theorem dX4_makeRow_107 : decode cX4_makeRow 107 = .ok (.iload_n 2, 1) := by decide +kernel
theorem dX4_makeRow_108 : decode cX4_makeRow 108 = .ok (.iadd, 1) := by decide +kernel
theorem dX4_makeRow_109 : decode cX4_makeRow 109 = .ok (.putfield 109, 3) := by decide +kernel
theorem dX4_makeRow_112 : decode cX4_makeRow 112 = .ok (.aload_n 0, 1) := by decide +kernel
theorem dX4_makeRow_113 : decode cX4_makeRow 113 = .ok (.iload_n 1, 1) := by decide +kernel
theorem dX4_makeRow_114 : decode cX4_makeRow 114 = .ok (.iload_n 3, 1) := by decide +kernel
theorem dX4_makeRow_115 : decode cX4_makeRow 115 = .ok (.lconst 0, 1) := by decide +kernel
theorem dX4_makeRow_116 : decode cX4_makeRow 116 = .ok (.invokevirtual 168, 3) := by decide +kernel
theorem dX4_makeRow_119 : decode cX4_makeRow 119 = .ok (.iload_n 3, 1) := by decide +kernel
theorem dX4_makeRow_120 : decode cX4_makeRow 120 = .ok (.ireturn, 1) := by decide +kernel
theorem dX4_text_0 : decode cX4_text 0 = .ok (.aload_n 0, 1) := by decide +kernel
theorem dX4_text_1 : decode cX4_text 1 = .ok (.iload_n 1, 1) := by decide +kernel
theorem dX4_text_2 : decode cX4_text 2 = .ok (.invokestatic 165, 3) := by decide +kernel
theorem dX4_text_5 : decode cX4_text 5 = .ok (.ifCond .eq 13, 3) := by decide +kernel
theorem dX4_text_8 : decode cX4_text 8 = .ok (.iload_n 2, 1) := by decide +kernel
theorem dX4_text_9 : decode cX4_text 9 = .ok (.iconst 0, 1) := by decide +kernel
theorem dX4_text_10 : decode cX4_text 10 = .ok (.ldc 187, 2) := by decide +kernel
theorem dX4_text_12 : decode cX4_text 12 = .ok (.invokestatic 172, 3) := by decide +kernel
theorem dX4_text_15 : decode cX4_text 15 = .ok (.ifCond .eq 7, 3) := by decide +kernel
theorem dX4_text_18 : decode cX4_text 18 = .ok (.iconst 1, 1) := by decide +kernel
theorem dX4_text_19 : decode cX4_text 19 = .ok (.goto 4, 3) := by decide +kernel
theorem dX4_text_22 : decode cX4_text 22 = .ok (.iconst 0, 1) := by decide +kernel
theorem dX4_text_23 : decode cX4_text 23 = .ok (.putfield 85, 3) := by decide +kernel
theorem dX4_text_26 : decode cX4_text 26 = .ok (.aload_n 0, 1) := by decide +kernel
theorem dX4_text_27 : decode cX4_text 27 = .ok (.getfield 85, 3) := by decide +kernel
theorem dX4_text_30 : decode cX4_text 30 = .ok (.ifCond .le 5, 3) := by decide +kernel
theorem dX4_text_33 : decode cX4_text 33 = .ok (.iconst 0, 1) := by decide +kernel
theorem dX4_text_34 : decode cX4_text 34 = .ok (.ireturn, 1) := by decide +kernel
theorem dX4_text_35 : decode cX4_text 35 = .ok (.aload_n 0, 1) := by decide +kernel
theorem dX4_text_36 : decode cX4_text 36 = .ok (.iload_n 2, 1) := by decide +kernel
theorem dX4_text_37 : decode cX4_text 37 = .ok (.bipush 7, 2) := by decide +kernel
theorem dX4_text_39 : decode cX4_text 39 = .ok (.iadd, 1) := by decide +kernel
theorem dX4_text_40 : decode cX4_text 40 = .ok (.bipush 8, 2) := by decide +kernel
theorem dX4_text_42 : decode cX4_text 42 = .ok (.idiv, 1) := by decide +kernel
theorem dX4_text_43 : decode cX4_text 43 = .ok (.i2l, 1) := by decide +kernel
theorem dX4_text_44 : decode cX4_text 44 = .ok (.lconst 1, 1) := by decide +kernel
theorem dX4_text_45 : decode cX4_text 45 = .ok (.ladd, 1) := by decide +kernel
theorem dX4_text_46 : decode cX4_text 46 = .ok (.invokevirtual 176, 3) := by decide +kernel
theorem dX4_text_49 : decode cX4_text 49 = .ok (.istore_n 3, 1) := by decide +kernel
theorem dX4_text_50 : decode cX4_text 50 = .ok (.aload_n 0, 1) := by decide +kernel
theorem dX4_text_51 : decode cX4_text 51 = .ok (.iload_n 3, 1) := by decide +kernel
theorem dX4_text_52 : decode cX4_text 52 = .ok (.ifCond .eq 7, 3) := by decide +kernel
theorem dX4_text_55 : decode cX4_text 55 = .ok (.iconst 0, 1) := by decide +kernel
theorem dX4_text_56 : decode cX4_text 56 = .ok (.goto 4, 3) := by decide +kernel
theorem dX4_text_59 : decode cX4_text 59 = .ok (.iconst 2, 1) := by decide +kernel
theorem dX4_text_60 : decode cX4_text 60 = .ok (.putfield 85, 3) := by decide +kernel
theorem dX4_text_63 : decode cX4_text 63 = .ok (.iload_n 3, 1) := by decide +kernel
theorem dX4_text_64 : decode cX4_text 64 = .ok (.ifCond .ne 5, 3) := by decide +kernel
theorem dX4_text_67 : decode cX4_text 67 = .ok (.iconst 0, 1) := by decide +kernel
theorem dX4_text_68 : decode cX4_text 68 = .ok (.ireturn, 1) := by decide +kernel
theorem dX4_text_69 : decode cX4_text 69 = .ok (.aload_n 0, 1) := by decide +kernel
theorem dX4_text_70 : decode cX4_text 70 = .ok (.iload_n 2, 1) := by decide +kernel
theorem dX4_text_71 : decode cX4_text 71 = .ok (.invokevirtual 188, 3) := by decide +kernel
theorem dX4_text_74 : decode cX4_text 74 = .ok (.istore 4, 2) := by decide +kernel
theorem dX4_text_76 : decode cX4_text 76 = .ok (.aload_n 0, 1) := by decide +kernel
theorem dX4_text_77 : decode cX4_text 77 = .ok (.iload_n 1, 1) := by decide +kernel
theorem dX4_text_78 : decode cX4_text 78 = .ok (.iload 4, 2) := by decide +kernel
theorem dX4_text_80 : decode cX4_text 80 = .ok (.lconst 0, 1) := by decide +kernel
theorem dX4_text_81 : decode cX4_text 81 = .ok (.invokevirtual 168, 3) := by decide +kernel
theorem dX4_text_84 : decode cX4_text 84 = .ok (.iload 4, 2) := by decide +kernel
theorem dX4_text_86 : decode cX4_text 86 = .ok (.ireturn, 1) := by decide +kernel
theorem dX4_map_0 : decode cX4_map 0 = .ok (.aload_n 0, 1) := by decide +kernel
theorem dX4_map_1 : decode cX4_map 1 = .ok (.iload_n 1, 1) := by decide +kernel
theorem dX4_map_2 : decode cX4_map 2 = .ok (.invokestatic 165, 3) := by decide +kernel
theorem dX4_map_5 : decode cX4_map 5 = .ok (.ifCond .eq 34, 3) := by decide +kernel
theorem dX4_map_8 : decode cX4_map 8 = .ok (.iload_n 2, 1) := by decide +kernel
theorem dX4_map_9 : decode cX4_map 9 = .ok (.iconst 1, 1) := by decide +kernel
theorem dX4_map_10 : decode cX4_map 10 = .ok (.iconst 4, 1) := by decide +kernel
theorem dX4_map_11 : decode cX4_map 11 = .ok (.invokestatic 172, 3) := by decide +kernel
theorem dX4_map_14 : decode cX4_map 14 = .ok (.ifCond .ne 25, 3) := by decide +kernel
theorem dX4_map_17 : decode cX4_map 17 = .ok (.iload_n 3, 1) := by decide +kernel
theorem dX4_map_18 : decode cX4_map 18 = .ok (.iconst 0, 1) := by decide +kernel
theorem dX4_map_19 : decode cX4_map 19 = .ok (.iconst 4, 1) := by decide +kernel
theorem dX4_map_20 : decode cX4_map 20 = .ok (.invokestatic 172, 3) := by decide +kernel
theorem dX4_map_23 : decode cX4_map 23 = .ok (.ifCond .ne 16, 3) := by decide +kernel
theorem dX4_map_26 : decode cX4_map 26 = .ok (.iload 4, 2) := by decide +kernel
theorem dX4_map_28 : decode cX4_map 28 = .ok (.ifCond .lt 11, 3) := by decide +kernel
theorem dX4_map_31 : decode cX4_map 31 = .ok (.iload 4, 2) := by decide +kernel
theorem dX4_map_33 : decode cX4_map 33 = .ok (.iconst 1, 1) := by decide +kernel
theorem dX4_map_34 : decode cX4_map 34 = .ok (.iload_n 2, 1) := by decide +kernel
theorem dX4_map_35 : decode cX4_map 35 = .ok (.ishl, 1) := by decide +kernel
theorem dX4_map_36 : decode cX4_map 36 = .ok (.if_icmp .lt 7, 3) := by decide +kernel
theorem dX4_map_39 : decode cX4_map 39 = .ok (.iconst 1, 1) := by decide +kernel
theorem dX4_map_40 : decode cX4_map 40 = .ok (.goto 4, 3) := by decide +kernel
theorem dX4_map_43 : decode cX4_map 43 = .ok (.iconst 0, 1) := by decide +kernel
theorem dX4_map_44 : decode cX4_map 44 = .ok (.putfield 85, 3) := by decide +kernel
theorem dX4_map_47 : decode cX4_map 47 = .ok (.aload_n 0, 1) := by decide +kernel
theorem dX4_map_48 : decode cX4_map 48 = .ok (.getfield 85, 3) := by decide +kernel
theorem dX4_map_51 : decode cX4_map 51 = .ok (.ifCond .le 5, 3) := by decide +kernel
theorem dX4_map_54 : decode cX4_map 54 = .ok (.iconst 0, 1) := by decide +kernel
theorem dX4_map_55 : decode cX4_map 55 = .ok (.ireturn, 1) := by decide +kernel
theorem dX4_map_56 : decode cX4_map 56 = .ok (.aload_n 0, 1) := by decide +kernel
theorem dX4_map_57 : decode cX4_map 57 = .ok (.ldc2_w 93, 3) := by decide +kernel
theorem dX4_map_60 : decode cX4_map 60 = .ok (.ldc2_w 192, 3) := by decide +kernel
theorem dX4_map_63 : decode cX4_map 63 = .ok (.iconst 3, 1) := by decide +kernel
theorem dX4_map_64 : decode cX4_map 64 = .ok (.iload_n 2, 1) := by decide +kernel
theorem dX4_map_65 : decode cX4_map 65 = .ok (.iadd, 1) := by decide +kernel
theorem dX4_map_66 : decode cX4_map 66 = .ok (.iload_n 3, 1) := by decide +kernel
theorem dX4_map_67 : decode cX4_map 67 = .ok (.iadd, 1) := by decide +kernel
theorem dX4_map_68 : decode cX4_map 68 = .ok (.i2l, 1) := by decide +kernel
theorem dX4_map_69 : decode cX4_map 69 = .ok (.lmul, 1) := by decide +kernel
theorem dX4_map_70 : decode cX4_map 70 = .ok (.ladd, 1) := by decide +kernel
theorem dX4_map_71 : decode cX4_map 71 = .ok (.lconst 1, 1) := by decide +kernel
theorem dX4_map_72 : decode cX4_map 72 = .ok (.ladd, 1) := by decide +kernel
theorem dX4_map_73 : decode cX4_map 73 = .ok (.invokevirtual 176, 3) := by decide +kernel
theorem dX4_map_76 : decode cX4_map 76 = .ok (.istore 5, 2) := by decide +kernel
theorem dX4_map_78 : decode cX4_map 78 = .ok (.aload_n 0, 1) := by decide +kernel
theorem dX4_map_79 : decode cX4_map 79 = .ok (.iload 5, 2) := by decide +kernel
theorem dX4_map_81 : decode cX4_map 81 = .ok (.ifCond .eq 7, 3) := by decide +kernel
theorem dX4_map_84 : decode cX4_map 84 = .ok (.iconst 0, 1) := by decide +kernel
theorem dX4_map_85 : decode cX4_map 85 = .ok (.goto 4, 3) := by decide +kernel
theorem dX4_map_88 : decode cX4_map 88 = .ok (.iconst 2, 1) := by decide +kernel
theorem dX4_map_89 : decode cX4_map 89 = .ok (.putfield 85, 3) := by decide +kernel
theorem dX4_map_92 : decode cX4_map 92 = .ok (.iload 5, 2) := by decide +kernel
theorem dX4_map_94 : decode cX4_map 94 = .ok (.ifCond .ne 5, 3) := by decide +kernel
theorem dX4_map_97 : decode cX4_map 97 = .ok (.iconst 0, 1) := by decide +kernel
theorem dX4_map_98 : decode cX4_map 98 = .ok (.ireturn, 1) := by decide +kernel
theorem dX4_map_99 : decode cX4_map 99 = .ok (.aload_n 0, 1) := by decide +kernel
theorem dX4_map_100 : decode cX4_map 100 = .ok (.iconst 4, 1) := by decide +kernel
theorem dX4_map_101 : decode cX4_map 101 = .ok (.iconst 0, 1) := by decide +kernel
theorem dX4_map_102 : decode cX4_map 102 = .ok (.invokevirtual 157, 3) := by decide +kernel
theorem dX4_map_105 : decode cX4_map 105 = .ok (.istore 6, 2) := by decide +kernel
theorem dX4_map_107 : decode cX4_map 107 = .ok (.aload_n 0, 1) := by decide +kernel
theorem dX4_map_108 : decode cX4_map 108 = .ok (.getfield 26, 3) := by decide +kernel
theorem dX4_map_111 : decode cX4_map 111 = .ok (.iload 6, 2) := by decide +kernel
theorem dX4_map_113 : decode cX4_map 113 = .ok (.iload_n 2, 1) := by decide +kernel
theorem dX4_map_114 : decode cX4_map 114 = .ok (.iastore, 1) := by decide +kernel
theorem dX4_map_115 : decode cX4_map 115 = .ok (.aload_n 0, 1) := by decide +kernel
theorem dX4_map_116 : decode cX4_map 116 = .ok (.getfield 29, 3) := by decide +kernel
theorem dX4_map_119 : decode cX4_map 119 = .ok (.iload 6, 2) := by decide +kernel
theorem dX4_map_121 : decode cX4_map 121 = .ok (.iload_n 3, 1) := by decide +kernel
theorem dX4_map_122 : decode cX4_map 122 = .ok (.iastore, 1) := by decide +kernel
theorem dX4_map_123 : decode cX4_map 123 = .ok (.aload_n 0, 1) := by decide +kernel
theorem dX4_map_124 : decode cX4_map 124 = .ok (.getfield 32, 3) := by decide +kernel
theorem dX4_map_127 : decode cX4_map 127 = .ok (.iload 6, 2) := by decide +kernel
theorem dX4_map_129 : decode cX4_map 129 = .ok (.iload 4, 2) := by decide +kernel
theorem dX4_map_131 : decode cX4_map 131 = .ok (.iastore, 1) := by decide +kernel
theorem dX4_map_132 : decode cX4_map 132 = .ok (.aload_n 0, 1) := by decide +kernel
theorem dX4_map_133 : decode cX4_map 133 = .ok (.getfield 35, 3) := by decide +kernel
theorem dX4_map_136 : decode cX4_map 136 = .ok (.iload 6, 2) := by decide +kernel
theorem dX4_map_138 : decode cX4_map 138 = .ok (.bipush 8, 2) := by decide +kernel
theorem dX4_map_140 : decode cX4_map 140 = .ok (.iastore, 1) := by decide +kernel
theorem dX4_map_141 : decode cX4_map 141 = .ok (.aload_n 0, 1) := by decide +kernel
theorem dX4_map_142 : decode cX4_map 142 = .ok (.getfield 38, 3) := by decide +kernel
theorem dX4_map_145 : decode cX4_map 145 = .ok (.iload 6, 2) := by decide +kernel
theorem dX4_map_147 : decode cX4_map 147 = .ok (.iconst 0, 1) := by decide +kernel
theorem dX4_map_148 : decode cX4_map 148 = .ok (.iastore, 1) := by decide +kernel
theorem dX4_map_149 : decode cX4_map 149 = .ok (.aload_n 0, 1) := by decide +kernel
theorem dX4_map_150 : decode cX4_map 150 = .ok (.getfield 41, 3) := by decide +kernel
theorem dX4_map_153 : decode cX4_map 153 = .ok (.iload 6, 2) := by decide +kernel
theorem dX4_map_155 : decode cX4_map 155 = .ok (.iconst 0, 1) := by decide +kernel
theorem dX4_map_156 : decode cX4_map 156 = .ok (.iastore, 1) := by decide +kernel
theorem dX4_map_157 : decode cX4_map 157 = .ok (.aload_n 0, 1) := by decide +kernel
theorem dX4_map_158 : decode cX4_map 158 = .ok (.iload_n 1, 1) := by decide +kernel
theorem dX4_map_159 : decode cX4_map 159 = .ok (.iload 6, 2) := by decide +kernel
theorem dX4_map_161 : decode cX4_map 161 = .ok (.lconst 0, 1) := by decide +kernel
theorem dX4_map_162 : decode cX4_map 162 = .ok (.invokevirtual 168, 3) := by decide +kernel
theorem dX4_map_165 : decode cX4_map 165 = .ok (.iload 6, 2) := by decide +kernel
theorem dX4_map_167 : decode cX4_map 167 = .ok (.ireturn, 1) := by decide +kernel
theorem dX4_bytesOf_0 : decode cX4_bytesOf 0 = .ok (.iload_n 1, 1) := by decide +kernel
theorem dX4_bytesOf_1 : decode cX4_bytesOf 1 = .ok (.ifCond .le 12, 3) := by decide +kernel
theorem dX4_bytesOf_4 : decode cX4_bytesOf 4 = .ok (.aload_n 0, 1) := by decide +kernel
theorem dX4_bytesOf_5 : decode cX4_bytesOf 5 = .ok (.getfield 20, 3) := by decide +kernel
theorem dX4_bytesOf_8 : decode cX4_bytesOf 8 = .ok (.iload_n 1, 1) := by decide +kernel
theorem dX4_bytesOf_9 : decode cX4_bytesOf 9 = .ok (.iaload, 1) := by decide +kernel
theorem dX4_bytesOf_10 : decode cX4_bytesOf 10 = .ok (.goto 4, 3) := by decide +kernel
theorem dX4_bytesOf_13 : decode cX4_bytesOf 13 = .ok (.iconst 0, 1) := by decide +kernel
theorem dX4_bytesOf_14 : decode cX4_bytesOf 14 = .ok (.ireturn, 1) := by decide +kernel
theorem dX4_byteOf_0 : decode cX4_byteOf 0 = .ok (.aload_n 0, 1) := by decide +kernel
theorem dX4_byteOf_1 : decode cX4_byteOf 1 = .ok (.getfield 60, 3) := by decide +kernel
theorem dX4_byteOf_4 : decode cX4_byteOf 4 = .ok (.aload_n 0, 1) := by decide +kernel
theorem dX4_byteOf_5 : decode cX4_byteOf 5 = .ok (.getfield 23, 3) := by decide +kernel
theorem dX4_byteOf_8 : decode cX4_byteOf 8 = .ok (.iload_n 1, 1) := by decide +kernel
theorem dX4_byteOf_9 : decode cX4_byteOf 9 = .ok (.iaload, 1) := by decide +kernel
theorem dX4_byteOf_10 : decode cX4_byteOf 10 = .ok (.iload_n 2, 1) := by decide +kernel
theorem dX4_byteOf_11 : decode cX4_byteOf 11 = .ok (.iadd, 1) := by decide +kernel
theorem dX4_byteOf_12 : decode cX4_byteOf 12 = .ok (.baload, 1) := by decide +kernel
theorem dX4_byteOf_13 : decode cX4_byteOf 13 = .ok (.sipush 255, 3) := by decide +kernel
theorem dX4_byteOf_16 : decode cX4_byteOf 16 = .ok (.iand, 1) := by decide +kernel
theorem dX4_byteOf_17 : decode cX4_byteOf 17 = .ok (.ireturn, 1) := by decide +kernel
theorem dX4_join_0 : decode cX4_join 0 = .ok (.aload_n 0, 1) := by decide +kernel
theorem dX4_join_1 : decode cX4_join 1 = .ok (.iload_n 1, 1) := by decide +kernel
theorem dX4_join_2 : decode cX4_join 2 = .ok (.invokestatic 165, 3) := by decide +kernel
theorem dX4_join_5 : decode cX4_join 5 = .ok (.ifCond .eq 17, 3) := by decide +kernel
theorem dX4_join_8 : decode cX4_join 8 = .ok (.iload_n 2, 1) := by decide +kernel
theorem dX4_join_9 : decode cX4_join 9 = .ok (.invokestatic 165, 3) := by decide +kernel
theorem dX4_join_12 : decode cX4_join 12 = .ok (.ifCond .eq 10, 3) := by decide +kernel
theorem dX4_join_15 : decode cX4_join 15 = .ok (.iload_n 3, 1) := by decide +kernel
theorem dX4_join_16 : decode cX4_join 16 = .ok (.invokestatic 165, 3) := by decide +kernel
theorem dX4_join_19 : decode cX4_join 19 = .ok (.ifCond .ne 7, 3) := by decide +kernel
theorem dX4_join_22 : decode cX4_join 22 = .ok (.iconst 1, 1) := by decide +kernel
theorem dX4_join_23 : decode cX4_join 23 = .ok (.goto 4, 3) := by decide +kernel
theorem dX4_join_26 : decode cX4_join 26 = .ok (.iconst 0, 1) := by decide +kernel
theorem dX4_join_27 : decode cX4_join 27 = .ok (.putfield 85, 3) := by decide +kernel
theorem dX4_join_30 : decode cX4_join 30 = .ok (.aload_n 0, 1) := by decide +kernel
theorem dX4_join_31 : decode cX4_join 31 = .ok (.getfield 85, 3) := by decide +kernel
theorem dX4_join_34 : decode cX4_join 34 = .ok (.ifCond .le 5, 3) := by decide +kernel
theorem dX4_join_37 : decode cX4_join 37 = .ok (.iconst 0, 1) := by decide +kernel
theorem dX4_join_38 : decode cX4_join 38 = .ok (.ireturn, 1) := by decide +kernel
theorem dX4_join_39 : decode cX4_join 39 = .ok (.aload_n 0, 1) := by decide +kernel
theorem dX4_join_40 : decode cX4_join 40 = .ok (.aload_n 0, 1) := by decide +kernel
theorem dX4_join_41 : decode cX4_join 41 = .ok (.iload_n 2, 1) := by decide +kernel
theorem dX4_join_42 : decode cX4_join 42 = .ok (.invokevirtual 194, 3) := by decide +kernel
theorem dX4_join_45 : decode cX4_join 45 = .ok (.ifCond .eq 37, 3) := by decide +kernel
theorem dX4_join_48 : decode cX4_join 48 = .ok (.aload_n 0, 1) := by decide +kernel
theorem dX4_join_49 : decode cX4_join 49 = .ok (.iload_n 3, 1) := by decide +kernel
theorem dX4_join_50 : decode cX4_join 50 = .ok (.invokevirtual 194, 3) := by decide +kernel
theorem dX4_join_53 : decode cX4_join 53 = .ok (.ifCond .eq 29, 3) := by decide +kernel
theorem dX4_join_56 : decode cX4_join 56 = .ok (.aload_n 0, 1) := by decide +kernel
theorem dX4_join_57 : decode cX4_join 57 = .ok (.aload_n 0, 1) := by decide +kernel
theorem dX4_join_58 : decode cX4_join 58 = .ok (.getfield 7, 3) := by decide +kernel
theorem dX4_join_61 : decode cX4_join 61 = .ok (.iload_n 2, 1) := by decide +kernel
theorem dX4_join_62 : decode cX4_join 62 = .ok (.iaload, 1) := by decide +kernel
theorem dX4_join_63 : decode cX4_join 63 = .ok (.invokevirtual 197, 3) := by decide +kernel
theorem dX4_join_66 : decode cX4_join 66 = .ok (.aload_n 0, 1) := by decide +kernel
theorem dX4_join_67 : decode cX4_join 67 = .ok (.aload_n 0, 1) := by decide +kernel
theorem dX4_join_68 : decode cX4_join 68 = .ok (.getfield 7, 3) := by decide +kernel
theorem dX4_join_71 : decode cX4_join 71 = .ok (.iload_n 3, 1) := by decide +kernel
theorem dX4_join_72 : decode cX4_join 72 = .ok (.iaload, 1) := by decide +kernel
theorem dX4_join_73 : decode cX4_join 73 = .ok (.invokevirtual 197, 3) := by decide +kernel
theorem dX4_join_76 : decode cX4_join 76 = .ok (.iadd, 1) := by decide +kernel
theorem dX4_join_77 : decode cX4_join 77 = .ok (.ldc 187, 2) := by decide +kernel
theorem dX4_join_79 : decode cX4_join 79 = .ok (.if_icmp .le 7, 3) := by decide +kernel
theorem dX4_join_82 : decode cX4_join 82 = .ok (.iconst 2, 1) := by decide +kernel
theorem dX4_join_83 : decode cX4_join 83 = .ok (.goto 4, 3) := by decide +kernel
theorem dX4_join_86 : decode cX4_join 86 = .ok (.iconst 0, 1) := by decide +kernel
theorem dX4_join_87 : decode cX4_join 87 = .ok (.putfield 85, 3) := by decide +kernel
theorem dX4_join_90 : decode cX4_join 90 = .ok (.aload_n 0, 1) := by decide +kernel
theorem dX4_join_91 : decode cX4_join 91 = .ok (.getfield 85, 3) := by decide +kernel
theorem dX4_join_94 : decode cX4_join 94 = .ok (.ifCond .le 5, 3) := by decide +kernel
theorem dX4_join_97 : decode cX4_join 97 = .ok (.iconst 0, 1) := by decide +kernel
theorem dX4_join_98 : decode cX4_join 98 = .ok (.ireturn, 1) := by decide +kernel
theorem dX4_join_99 : decode cX4_join 99 = .ok (.aload_n 0, 1) := by decide +kernel
theorem dX4_join_100 : decode cX4_join 100 = .ok (.getfield 7, 3) := by decide +kernel
theorem dX4_join_103 : decode cX4_join 103 = .ok (.iload_n 2, 1) := by decide +kernel
theorem dX4_join_104 : decode cX4_join 104 = .ok (.iaload, 1) := by decide +kernel
theorem dX4_join_105 : decode cX4_join 105 = .ok (.istore 4, 2) := by decide +kernel
theorem dX4_join_107 : decode cX4_join 107 = .ok (.aload_n 0, 1) := by decide +kernel
theorem dX4_join_108 : decode cX4_join 108 = .ok (.getfield 7, 3) := by decide +kernel
theorem dX4_join_111 : decode cX4_join 111 = .ok (.iload_n 3, 1) := by decide +kernel
theorem dX4_join_112 : decode cX4_join 112 = .ok (.iaload, 1) := by decide +kernel
theorem dX4_join_113 : decode cX4_join 113 = .ok (.istore 5, 2) := by decide +kernel
theorem dX4_join_115 : decode cX4_join 115 = .ok (.aload_n 0, 1) := by decide +kernel
theorem dX4_join_116 : decode cX4_join 116 = .ok (.iload 4, 2) := by decide +kernel
theorem dX4_join_118 : decode cX4_join 118 = .ok (.invokevirtual 197, 3) := by decide +kernel
theorem dX4_join_121 : decode cX4_join 121 = .ok (.aload_n 0, 1) := by decide +kernel
theorem dX4_join_122 : decode cX4_join 122 = .ok (.iload 5, 2) := by decide +kernel
theorem dX4_join_124 : decode cX4_join 124 = .ok (.invokevirtual 197, 3) := by decide +kernel
theorem dX4_join_127 : decode cX4_join 127 = .ok (.iadd, 1) := by decide +kernel
theorem dX4_join_128 : decode cX4_join 128 = .ok (.istore 6, 2) := by decide +kernel
theorem dX4_join_130 : decode cX4_join 130 = .ok (.aload_n 0, 1) := by decide +kernel
theorem dX4_join_131 : decode cX4_join 131 = .ok (.iload 6, 2) := by decide +kernel
theorem dX4_join_133 : decode cX4_join 133 = .ok (.bipush 7, 2) := by decide +kernel
theorem dX4_join_135 : decode cX4_join 135 = .ok (.iadd, 1) := by decide +kernel
theorem dX4_join_136 : decode cX4_join 136 = .ok (.bipush 8, 2) := by decide +kernel
theorem dX4_join_138 : decode cX4_join 138 = .ok (.idiv, 1) := by decide +kernel
theorem dX4_join_139 : decode cX4_join 139 = .ok (.i2l, 1) := by decide +kernel
theorem dX4_join_140 : decode cX4_join 140 = .ok (.lconst 1, 1) := by decide +kernel
theorem dX4_join_141 : decode cX4_join 141 = .ok (.ladd, 1) := by decide +kernel
theorem dX4_join_142 : decode cX4_join 142 = .ok (.invokevirtual 176, 3) := by decide +kernel
theorem dX4_join_145 : decode cX4_join 145 = .ok (.istore 7, 2) := by decide +kernel
theorem dX4_join_147 : decode cX4_join 147 = .ok (.aload_n 0, 1) := by decide +kernel
theorem dX4_join_148 : decode cX4_join 148 = .ok (.iload 7, 2) := by decide +kernel
theorem dX4_join_150 : decode cX4_join 150 = .ok (.ifCond .eq 7, 3) := by decide +kernel
theorem dX4_join_153 : decode cX4_join 153 = .ok (.iconst 0, 1) := by decide +kernel
theorem dX4_join_154 : decode cX4_join 154 = .ok (.goto 4, 3) := by decide +kernel
theorem dX4_join_157 : decode cX4_join 157 = .ok (.iconst 3, 1) := by decide +kernel
theorem dX4_join_158 : decode cX4_join 158 = .ok (.putfield 85, 3) := by decide +kernel
theorem dX4_join_161 : decode cX4_join 161 = .ok (.iload 7, 2) := by decide +kernel
theorem dX4_join_163 : decode cX4_join 163 = .ok (.ifCond .ne 5, 3) := by decide +kernel
theorem dX4_join_166 : decode cX4_join 166 = .ok (.iconst 0, 1) := by decide +kernel
theorem dX4_join_167 : decode cX4_join 167 = .ok (.ireturn, 1) := by decide +kernel
theorem dX4_join_168 : decode cX4_join 168 = .ok (.aload_n 0, 1) := by decide +kernel
theorem dX4_join_169 : decode cX4_join 169 = .ok (.iload 6, 2) := by decide +kernel
theorem dX4_join_171 : decode cX4_join 171 = .ok (.invokevirtual 188, 3) := by decide +kernel
theorem dX4_join_174 : decode cX4_join 174 = .ok (.istore 8, 2) := by decide +kernel
theorem dX4_join_176 : decode cX4_join 176 = .ok (.iconst 0, 1) := by decide +kernel
theorem dX4_join_177 : decode cX4_join 177 = .ok (.istore 9, 2) := by decide +kernel
theorem dX4_join_179 : decode cX4_join 179 = .ok (.iload 9, 2) := by decide +kernel
theorem dX4_join_181 : decode cX4_join 181 = .ok (.iload 6, 2) := by decide +kernel
theorem dX4_join_183 : decode cX4_join 183 = .ok (.if_icmp .ge 62, 3) := by decide +kernel
theorem dX4_join_186 : decode cX4_join 186 = .ok (.aload_n 0, 1) := by decide +kernel
theorem dX4_join_187 : decode cX4_join 187 = .ok (.getfield 60, 3) := by decide +kernel
theorem dX4_join_190 : decode cX4_join 190 = .ok (.aload_n 0, 1) := by decide +kernel
theorem dX4_join_191 : decode cX4_join 191 = .ok (.getfield 23, 3) := by decide +kernel
theorem dX4_join_194 : decode cX4_join 194 = .ok (.iload 8, 2) := by decide +kernel
theorem dX4_join_196 : decode cX4_join 196 = .ok (.iaload, 1) := by decide +kernel
theorem dX4_join_197 : decode cX4_join 197 = .ok (.iload 9, 2) := by decide +kernel
theorem dX4_join_199 : decode cX4_join 199 = .ok (.iadd, 1) := by decide +kernel
theorem dX4_join_200 : decode cX4_join 200 = .ok (.iload 9, 2) := by decide +kernel
theorem dX4_join_202 : decode cX4_join 202 = .ok (.aload_n 0, 1) := by decide +kernel
theorem dX4_join_203 : decode cX4_join 203 = .ok (.iload 4, 2) := by decide +kernel
theorem dX4_join_205 : decode cX4_join 205 = .ok (.invokevirtual 197, 3) := by decide +kernel
theorem dX4_join_208 : decode cX4_join 208 = .ok (.if_icmp .ge 14, 3) := by decide +kernel
theorem dX4_join_211 : decode cX4_join 211 = .ok (.aload_n 0, 1) := by decide +kernel
theorem dX4_join_212 : decode cX4_join 212 = .ok (.iload 4, 2) := by decide +kernel
theorem dX4_join_214 : decode cX4_join 214 = .ok (.iload 9, 2) := by decide +kernel
theorem dX4_join_216 : decode cX4_join 216 = .ok (.invokevirtual 200, 3) := by decide +kernel
theorem dX4_join_219 : decode cX4_join 219 = .ok (.goto 18, 3) := by decide +kernel
theorem dX4_join_222 : decode cX4_join 222 = .ok (.aload_n 0, 1) := by decide +kernel
theorem dX4_join_223 : decode cX4_join 223 = .ok (.iload 5, 2) := by decide +kernel
theorem dX4_join_225 : decode cX4_join 225 = .ok (.iload 9, 2) := by decide +kernel
theorem dX4_join_227 : decode cX4_join 227 = .ok (.aload_n 0, 1) := by decide +kernel
theorem dX4_join_228 : decode cX4_join 228 = .ok (.iload 4, 2) := by decide +kernel
theorem dX4_join_230 : decode cX4_join 230 = .ok (.invokevirtual 197, 3) := by decide +kernel
theorem dX4_join_233 : decode cX4_join 233 = .ok (.isub, 1) := by decide +kernel
theorem dX4_join_234 : decode cX4_join 234 = .ok (.invokevirtual 200, 3) := by decide +kernel
theorem dX4_join_237 : decode cX4_join 237 = .ok (.i2b, 1) := by decide +kernel
theorem dX4_join_238 : decode cX4_join 238 = .ok (.bastore, 1) := by decide +kernel
theorem dX4_join_239 : decode cX4_join 239 = .ok (.iinc 9 1, 3) := by decide +kernel
theorem dX4_join_242 : decode cX4_join 242 = .ok (.goto (-63), 3) := by decide +kernel
theorem dX4_join_245 : decode cX4_join 245 = .ok (.aload_n 0, 1) := by decide +kernel
theorem dX4_join_246 : decode cX4_join 246 = .ok (.iload_n 1, 1) := by decide +kernel
theorem dX4_join_247 : decode cX4_join 247 = .ok (.iload 8, 2) := by decide +kernel
theorem dX4_join_249 : decode cX4_join 249 = .ok (.lconst 0, 1) := by decide +kernel
theorem dX4_join_250 : decode cX4_join 250 = .ok (.invokevirtual 168, 3) := by decide +kernel
theorem dX4_join_253 : decode cX4_join 253 = .ok (.iload 8, 2) := by decide +kernel
theorem dX4_join_255 : decode cX4_join 255 = .ok (.ireturn, 1) := by decide +kernel
theorem dX4_part_0 : decode cX4_part 0 = .ok (.aload_n 0, 1) := by decide +kernel
theorem dX4_part_1 : decode cX4_part 1 = .ok (.iload_n 1, 1) := by decide +kernel
theorem dX4_part_2 : decode cX4_part 2 = .ok (.invokestatic 165, 3) := by decide +kernel
theorem dX4_part_5 : decode cX4_part 5 = .ok (.ifCond .eq 10, 3) := by decide +kernel
theorem dX4_part_8 : decode cX4_part 8 = .ok (.iload_n 2, 1) := by decide +kernel
theorem dX4_part_9 : decode cX4_part 9 = .ok (.invokestatic 165, 3) := by decide +kernel
theorem dX4_part_12 : decode cX4_part 12 = .ok (.ifCond .ne 7, 3) := by decide +kernel
theorem dX4_part_15 : decode cX4_part 15 = .ok (.iconst 1, 1) := by decide +kernel
theorem dX4_part_16 : decode cX4_part 16 = .ok (.goto 4, 3) := by decide +kernel
theorem dX4_part_19 : decode cX4_part 19 = .ok (.iconst 0, 1) := by decide +kernel
theorem dX4_part_20 : decode cX4_part 20 = .ok (.putfield 85, 3) := by decide +kernel
theorem dX4_part_23 : decode cX4_part 23 = .ok (.aload_n 0, 1) := by decide +kernel
theorem dX4_part_24 : decode cX4_part 24 = .ok (.getfield 85, 3) := by decide +kernel
theorem dX4_part_27 : decode cX4_part 27 = .ok (.ifCond .le 5, 3) := by decide +kernel
theorem dX4_part_30 : decode cX4_part 30 = .ok (.iconst 0, 1) := by decide +kernel
theorem dX4_part_31 : decode cX4_part 31 = .ok (.ireturn, 1) := by decide +kernel
theorem dX4_part_32 : decode cX4_part 32 = .ok (.aload_n 0, 1) := by decide +kernel
theorem dX4_part_33 : decode cX4_part 33 = .ok (.aload_n 0, 1) := by decide +kernel
theorem dX4_part_34 : decode cX4_part 34 = .ok (.iload_n 2, 1) := by decide +kernel
theorem dX4_part_35 : decode cX4_part 35 = .ok (.invokevirtual 194, 3) := by decide +kernel
theorem dX4_part_38 : decode cX4_part 38 = .ok (.ifCond .ne 7, 3) := by decide +kernel
theorem dX4_part_41 : decode cX4_part 41 = .ok (.iconst 2, 1) := by decide +kernel
theorem dX4_part_42 : decode cX4_part 42 = .ok (.goto 33, 3) := by decide +kernel
theorem dX4_part_45 : decode cX4_part 45 = .ok (.iload_n 3, 1) := by decide +kernel
theorem dX4_part_46 : decode cX4_part 46 = .ok (.ifCond .lt 24, 3) := by decide +kernel
theorem dX4_part_49 : decode cX4_part 49 = .ok (.iload_n 3, 1) := by decide +kernel
theorem dX4_part_50 : decode cX4_part 50 = .ok (.iload 4, 2) := by decide +kernel
theorem dX4_part_52 : decode cX4_part 52 = .ok (.if_icmp .gt 18, 3) := by decide +kernel
theorem dX4_part_55 : decode cX4_part 55 = .ok (.iload 4, 2) := by decide +kernel
theorem dX4_part_57 : decode cX4_part 57 = .ok (.aload_n 0, 1) := by decide +kernel
theorem dX4_part_58 : decode cX4_part 58 = .ok (.aload_n 0, 1) := by decide +kernel
theorem dX4_part_59 : decode cX4_part 59 = .ok (.getfield 7, 3) := by decide +kernel
theorem dX4_part_62 : decode cX4_part 62 = .ok (.iload_n 2, 1) := by decide +kernel
theorem dX4_part_63 : decode cX4_part 63 = .ok (.iaload, 1) := by decide +kernel
theorem dX4_part_64 : decode cX4_part 64 = .ok (.invokevirtual 197, 3) := by decide +kernel
theorem dX4_part_67 : decode cX4_part 67 = .ok (.if_icmp .le 7, 3) := by decide +kernel
theorem dX4_part_70 : decode cX4_part 70 = .ok (.iconst 3, 1) := by decide +kernel
theorem dX4_part_71 : decode cX4_part 71 = .ok (.goto 4, 3) := by decide +kernel
theorem dX4_part_74 : decode cX4_part 74 = .ok (.iconst 0, 1) := by decide +kernel
theorem dX4_part_75 : decode cX4_part 75 = .ok (.putfield 85, 3) := by decide +kernel
theorem dX4_part_78 : decode cX4_part 78 = .ok (.aload_n 0, 1) := by decide +kernel
theorem dX4_part_79 : decode cX4_part 79 = .ok (.getfield 85, 3) := by decide +kernel
theorem dX4_part_82 : decode cX4_part 82 = .ok (.ifCond .le 5, 3) := by decide +kernel
theorem dX4_part_85 : decode cX4_part 85 = .ok (.iconst 0, 1) := by decide +kernel
theorem dX4_part_86 : decode cX4_part 86 = .ok (.ireturn, 1) := by decide +kernel
theorem dX4_part_87 : decode cX4_part 87 = .ok (.aload_n 0, 1) := by decide +kernel
theorem dX4_part_88 : decode cX4_part 88 = .ok (.getfield 7, 3) := by decide +kernel
theorem dX4_part_91 : decode cX4_part 91 = .ok (.iload_n 2, 1) := by decide +kernel
theorem dX4_part_92 : decode cX4_part 92 = .ok (.iaload, 1) := by decide +kernel
theorem dX4_part_93 : decode cX4_part 93 = .ok (.istore 5, 2) := by decide +kernel
theorem dX4_part_95 : decode cX4_part 95 = .ok (.aload_n 0, 1) := by decide +kernel
theorem dX4_part_96 : decode cX4_part 96 = .ok (.iload 4, 2) := by decide +kernel
theorem dX4_part_98 : decode cX4_part 98 = .ok (.iload_n 3, 1) := by decide +kernel
theorem dX4_part_99 : decode cX4_part 99 = .ok (.isub, 1) := by decide +kernel
theorem dX4_part_100 : decode cX4_part 100 = .ok (.bipush 7, 2) := by decide +kernel
theorem dX4_part_102 : decode cX4_part 102 = .ok (.iadd, 1) := by decide +kernel
theorem dX4_part_103 : decode cX4_part 103 = .ok (.bipush 8, 2) := by decide +kernel
theorem dX4_part_105 : decode cX4_part 105 = .ok (.idiv, 1) := by decide +kernel
theorem dX4_part_106 : decode cX4_part 106 = .ok (.i2l, 1) := by decide +kernel
theorem dX4_part_107 : decode cX4_part 107 = .ok (.lconst 1, 1) := by decide +kernel
theorem dX4_part_108 : decode cX4_part 108 = .ok (.ladd, 1) := by decide +kernel
theorem dX4_part_109 : decode cX4_part 109 = .ok (.invokevirtual 176, 3) := by decide +kernel
theorem dX4_part_112 : decode cX4_part 112 = .ok (.istore 6, 2) := by decide +kernel
theorem dX4_part_114 : decode cX4_part 114 = .ok (.aload_n 0, 1) := by decide +kernel
theorem dX4_part_115 : decode cX4_part 115 = .ok (.iload 6, 2) := by decide +kernel
theorem dX4_part_117 : decode cX4_part 117 = .ok (.ifCond .eq 7, 3) := by decide +kernel
theorem dX4_part_120 : decode cX4_part 120 = .ok (.iconst 0, 1) := by decide +kernel
theorem dX4_part_121 : decode cX4_part 121 = .ok (.goto 4, 3) := by decide +kernel
theorem dX4_part_124 : decode cX4_part 124 = .ok (.iconst 4, 1) := by decide +kernel
theorem dX4_part_125 : decode cX4_part 125 = .ok (.putfield 85, 3) := by decide +kernel
theorem dX4_part_128 : decode cX4_part 128 = .ok (.iload 6, 2) := by decide +kernel
theorem dX4_part_130 : decode cX4_part 130 = .ok (.ifCond .ne 5, 3) := by decide +kernel
theorem dX4_part_133 : decode cX4_part 133 = .ok (.iconst 0, 1) := by decide +kernel
theorem dX4_part_134 : decode cX4_part 134 = .ok (.ireturn, 1) := by decide +kernel
theorem dX4_part_135 : decode cX4_part 135 = .ok (.aload_n 0, 1) := by decide +kernel
theorem dX4_part_136 : decode cX4_part 136 = .ok (.iload 4, 2) := by decide +kernel
theorem dX4_part_138 : decode cX4_part 138 = .ok (.iload_n 3, 1) := by decide +kernel
theorem dX4_part_139 : decode cX4_part 139 = .ok (.isub, 1) := by decide +kernel
theorem dX4_part_140 : decode cX4_part 140 = .ok (.invokevirtual 188, 3) := by decide +kernel
theorem dX4_part_143 : decode cX4_part 143 = .ok (.istore 7, 2) := by decide +kernel
theorem dX4_part_145 : decode cX4_part 145 = .ok (.iload_n 3, 1) := by decide +kernel
theorem dX4_part_146 : decode cX4_part 146 = .ok (.istore 8, 2) := by decide +kernel
theorem dX4_part_148 : decode cX4_part 148 = .ok (.iload 8, 2) := by decide +kernel
theorem dX4_part_150 : decode cX4_part 150 = .ok (.iload 4, 2) := by decide +kernel
theorem dX4_part_152 : decode cX4_part 152 = .ok (.if_icmp .ge 35, 3) := by decide +kernel
theorem dX4_part_155 : decode cX4_part 155 = .ok (.aload_n 0, 1) := by decide +kernel
theorem dX4_part_156 : decode cX4_part 156 = .ok (.getfield 60, 3) := by decide +kernel
theorem dX4_part_159 : decode cX4_part 159 = .ok (.aload_n 0, 1) := by decide +kernel
theorem dX4_part_160 : decode cX4_part 160 = .ok (.getfield 23, 3) := by decide +kernel
theorem dX4_part_163 : decode cX4_part 163 = .ok (.iload 7, 2) := by decide +kernel
theorem dX4_part_165 : decode cX4_part 165 = .ok (.iaload, 1) := by decide +kernel
theorem dX4_part_166 : decode cX4_part 166 = .ok (.iload 8, 2) := by decide +kernel
theorem dX4_part_168 : decode cX4_part 168 = .ok (.iadd, 1) := by decide +kernel
theorem dX4_part_169 : decode cX4_part 169 = .ok (.iload_n 3, 1) := by decide +kernel
theorem dX4_part_170 : decode cX4_part 170 = .ok (.isub, 1) := by decide +kernel
theorem dX4_part_171 : decode cX4_part 171 = .ok (.aload_n 0, 1) := by decide +kernel
theorem dX4_part_172 : decode cX4_part 172 = .ok (.iload 5, 2) := by decide +kernel
theorem dX4_part_174 : decode cX4_part 174 = .ok (.iload 8, 2) := by decide +kernel
theorem dX4_part_176 : decode cX4_part 176 = .ok (.invokevirtual 200, 3) := by decide +kernel
theorem dX4_part_179 : decode cX4_part 179 = .ok (.i2b, 1) := by decide +kernel
theorem dX4_part_180 : decode cX4_part 180 = .ok (.bastore, 1) := by decide +kernel
theorem dX4_part_181 : decode cX4_part 181 = .ok (.iinc 8 1, 3) := by decide +kernel
theorem dX4_part_184 : decode cX4_part 184 = .ok (.goto (-36), 3) := by decide +kernel
theorem dX4_part_187 : decode cX4_part 187 = .ok (.aload_n 0, 1) := by decide +kernel
theorem dX4_part_188 : decode cX4_part 188 = .ok (.iload_n 1, 1) := by decide +kernel
theorem dX4_part_189 : decode cX4_part 189 = .ok (.iload 7, 2) := by decide +kernel
theorem dX4_part_191 : decode cX4_part 191 = .ok (.lconst 0, 1) := by decide +kernel
theorem dX4_part_192 : decode cX4_part 192 = .ok (.invokevirtual 168, 3) := by decide +kernel
theorem dX4_part_195 : decode cX4_part 195 = .ok (.iload 7, 2) := by decide +kernel
theorem dX4_part_197 : decode cX4_part 197 = .ok (.ireturn, 1) := by decide +kernel
theorem dX4_order_0 : decode cX4_order 0 = .ok (.iconst 0, 1) := by decide +kernel
theorem dX4_order_1 : decode cX4_order 1 = .ok (.istore_n 3, 1) := by decide +kernel
theorem dX4_order_2 : decode cX4_order 2 = .ok (.iload_n 3, 1) := by decide +kernel
theorem dX4_order_3 : decode cX4_order 3 = .ok (.aload_n 0, 1) := by decide +kernel
theorem dX4_order_4 : decode cX4_order 4 = .ok (.iload_n 1, 1) := by decide +kernel
theorem dX4_order_5 : decode cX4_order 5 = .ok (.invokevirtual 197, 3) := by decide +kernel
theorem dX4_order_8 : decode cX4_order 8 = .ok (.if_icmp .ge 54, 3) := by decide +kernel
theorem dX4_order_11 : decode cX4_order 11 = .ok (.iload_n 3, 1) := by decide +kernel
theorem dX4_order_12 : decode cX4_order 12 = .ok (.aload_n 0, 1) := by decide +kernel
theorem dX4_order_13 : decode cX4_order 13 = .ok (.iload_n 2, 1) := by decide +kernel
theorem dX4_order_14 : decode cX4_order 14 = .ok (.invokevirtual 197, 3) := by decide +kernel
theorem dX4_order_17 : decode cX4_order 17 = .ok (.if_icmp .ge 45, 3) := by decide +kernel
theorem dX4_order_20 : decode cX4_order 20 = .ok (.aload_n 0, 1) := by decide +kernel
theorem dX4_order_21 : decode cX4_order 21 = .ok (.iload_n 1, 1) := by decide +kernel
theorem dX4_order_22 : decode cX4_order 22 = .ok (.iload_n 3, 1) := by decide +kernel
theorem dX4_order_23 : decode cX4_order 23 = .ok (.invokevirtual 200, 3) := by decide +kernel
theorem dX4_order_26 : decode cX4_order 26 = .ok (.aload_n 0, 1) := by decide +kernel
theorem dX4_order_27 : decode cX4_order 27 = .ok (.iload_n 2, 1) := by decide +kernel
theorem dX4_order_28 : decode cX4_order 28 = .ok (.iload_n 3, 1) := by decide +kernel
theorem dX4_order_29 : decode cX4_order 29 = .ok (.invokevirtual 200, 3) := by decide +kernel
theorem dX4_order_32 : decode cX4_order 32 = .ok (.if_icmp .eq 24, 3) := by decide +kernel
theorem dX4_order_35 : decode cX4_order 35 = .ok (.aload_n 0, 1) := by decide +kernel
theorem dX4_order_36 : decode cX4_order 36 = .ok (.iload_n 1, 1) := by decide +kernel
theorem dX4_order_37 : decode cX4_order 37 = .ok (.iload_n 3, 1) := by decide +kernel
theorem dX4_order_38 : decode cX4_order 38 = .ok (.invokevirtual 200, 3) := by decide +kernel
theorem dX4_order_41 : decode cX4_order 41 = .ok (.aload_n 0, 1) := by decide +kernel
theorem dX4_order_42 : decode cX4_order 42 = .ok (.iload_n 2, 1) := by decide +kernel
theorem dX4_order_43 : decode cX4_order 43 = .ok (.iload_n 3, 1) := by decide +kernel
theorem dX4_order_44 : decode cX4_order 44 = .ok (.invokevirtual 200, 3) := by decide +kernel
theorem dX4_order_47 : decode cX4_order 47 = .ok (.if_icmp .ge 7, 3) := by decide +kernel
theorem dX4_order_50 : decode cX4_order 50 = .ok (.iconst (-1), 1) := by decide +kernel
theorem dX4_order_51 : decode cX4_order 51 = .ok (.goto 4, 3) := by decide +kernel
theorem dX4_order_54 : decode cX4_order 54 = .ok (.iconst 1, 1) := by decide +kernel
theorem dX4_order_55 : decode cX4_order 55 = .ok (.ireturn, 1) := by decide +kernel
theorem dX4_order_56 : decode cX4_order 56 = .ok (.iinc 3 1, 3) := by decide +kernel
theorem dX4_order_59 : decode cX4_order 59 = .ok (.goto (-57), 3) := by decide +kernel
theorem dX4_order_62 : decode cX4_order 62 = .ok (.aload_n 0, 1) := by decide +kernel
theorem dX4_order_63 : decode cX4_order 63 = .ok (.iload_n 1, 1) := by decide +kernel
theorem dX4_order_64 : decode cX4_order 64 = .ok (.invokevirtual 197, 3) := by decide +kernel
theorem dX4_order_67 : decode cX4_order 67 = .ok (.aload_n 0, 1) := by decide +kernel
theorem dX4_order_68 : decode cX4_order 68 = .ok (.iload_n 2, 1) := by decide +kernel
theorem dX4_order_69 : decode cX4_order 69 = .ok (.invokevirtual 197, 3) := by decide +kernel
theorem dX4_order_72 : decode cX4_order 72 = .ok (.if_icmp .ge 7, 3) := by decide +kernel
theorem dX4_order_75 : decode cX4_order 75 = .ok (.iconst (-1), 1) := by decide +kernel
theorem dX4_order_76 : decode cX4_order 76 = .ok (.goto 21, 3) := by decide +kernel
theorem dX4_order_79 : decode cX4_order 79 = .ok (.aload_n 0, 1) := by decide +kernel
theorem dX4_order_80 : decode cX4_order 80 = .ok (.iload_n 1, 1) := by decide +kernel
theorem dX4_order_81 : decode cX4_order 81 = .ok (.invokevirtual 197, 3) := by decide +kernel
theorem dX4_order_84 : decode cX4_order 84 = .ok (.aload_n 0, 1) := by decide +kernel
theorem dX4_order_85 : decode cX4_order 85 = .ok (.iload_n 2, 1) := by decide +kernel
theorem dX4_order_86 : decode cX4_order 86 = .ok (.invokevirtual 197, 3) := by decide +kernel
theorem dX4_order_89 : decode cX4_order 89 = .ok (.if_icmp .le 7, 3) := by decide +kernel
theorem dX4_order_92 : decode cX4_order 92 = .ok (.iconst 1, 1) := by decide +kernel
theorem dX4_order_93 : decode cX4_order 93 = .ok (.goto 4, 3) := by decide +kernel
theorem dX4_order_96 : decode cX4_order 96 = .ok (.iconst 0, 1) := by decide +kernel
theorem dX4_order_97 : decode cX4_order 97 = .ok (.ireturn, 1) := by decide +kernel
theorem dX4_compare_0 : decode cX4_compare 0 = .ok (.aload_n 0, 1) := by decide +kernel
theorem dX4_compare_1 : decode cX4_compare 1 = .ok (.iload_n 1, 1) := by decide +kernel
theorem dX4_compare_2 : decode cX4_compare 2 = .ok (.invokestatic 165, 3) := by decide +kernel
theorem dX4_compare_5 : decode cX4_compare 5 = .ok (.ifCond .eq 10, 3) := by decide +kernel
theorem dX4_compare_8 : decode cX4_compare 8 = .ok (.iload_n 2, 1) := by decide +kernel
theorem dX4_compare_9 : decode cX4_compare 9 = .ok (.invokestatic 165, 3) := by decide +kernel
theorem dX4_compare_12 : decode cX4_compare 12 = .ok (.ifCond .ne 7, 3) := by decide +kernel
theorem dX4_compare_15 : decode cX4_compare 15 = .ok (.iconst 1, 1) := by decide +kernel
theorem dX4_compare_16 : decode cX4_compare 16 = .ok (.goto 4, 3) := by decide +kernel
theorem dX4_compare_19 : decode cX4_compare 19 = .ok (.iconst 0, 1) := by decide +kernel
theorem dX4_compare_20 : decode cX4_compare 20 = .ok (.putfield 85, 3) := by decide +kernel
theorem dX4_compare_23 : decode cX4_compare 23 = .ok (.aload_n 0, 1) := by decide +kernel
theorem dX4_compare_24 : decode cX4_compare 24 = .ok (.getfield 85, 3) := by decide +kernel
theorem dX4_compare_27 : decode cX4_compare 27 = .ok (.ifCond .le 5, 3) := by decide +kernel
theorem dX4_compare_30 : decode cX4_compare 30 = .ok (.iconst 0, 1) := by decide +kernel
theorem dX4_compare_31 : decode cX4_compare 31 = .ok (.ireturn, 1) := by decide +kernel
theorem dX4_compare_32 : decode cX4_compare 32 = .ok (.aload_n 0, 1) := by decide +kernel
theorem dX4_compare_33 : decode cX4_compare 33 = .ok (.aload_n 0, 1) := by decide +kernel
theorem dX4_compare_34 : decode cX4_compare 34 = .ok (.iload_n 1, 1) := by decide +kernel
theorem dX4_compare_35 : decode cX4_compare 35 = .ok (.invokevirtual 194, 3) := by decide +kernel
theorem dX4_compare_38 : decode cX4_compare 38 = .ok (.ifCond .eq 15, 3) := by decide +kernel
theorem dX4_compare_41 : decode cX4_compare 41 = .ok (.aload_n 0, 1) := by decide +kernel
theorem dX4_compare_42 : decode cX4_compare 42 = .ok (.iload_n 2, 1) := by decide +kernel
theorem dX4_compare_43 : decode cX4_compare 43 = .ok (.invokevirtual 194, 3) := by decide +kernel
theorem dX4_compare_46 : decode cX4_compare 46 = .ok (.ifCond .eq 7, 3) := by decide +kernel
theorem dX4_compare_49 : decode cX4_compare 49 = .ok (.iconst 0, 1) := by decide +kernel
theorem dX4_compare_50 : decode cX4_compare 50 = .ok (.goto 4, 3) := by decide +kernel
theorem dX4_compare_53 : decode cX4_compare 53 = .ok (.iconst 2, 1) := by decide +kernel
theorem dX4_compare_54 : decode cX4_compare 54 = .ok (.putfield 85, 3) := by decide +kernel
theorem dX4_compare_57 : decode cX4_compare 57 = .ok (.aload_n 0, 1) := by decide +kernel
theorem dX4_compare_58 : decode cX4_compare 58 = .ok (.getfield 85, 3) := by decide +kernel
theorem dX4_compare_61 : decode cX4_compare 61 = .ok (.ifCond .le 7, 3) := by decide +kernel
theorem dX4_compare_64 : decode cX4_compare 64 = .ok (.iconst 0, 1) := by decide +kernel
theorem dX4_compare_65 : decode cX4_compare 65 = .ok (.goto 19, 3) := by decide +kernel
theorem dX4_compare_68 : decode cX4_compare 68 = .ok (.aload_n 0, 1) := by decide +kernel
theorem dX4_compare_69 : decode cX4_compare 69 = .ok (.aload_n 0, 1) := by decide +kernel
theorem dX4_compare_70 : decode cX4_compare 70 = .ok (.getfield 7, 3) := by decide +kernel
theorem dX4_compare_73 : decode cX4_compare 73 = .ok (.iload_n 1, 1) := by decide +kernel
theorem dX4_compare_74 : decode cX4_compare 74 = .ok (.iaload, 1) := by decide +kernel
theorem dX4_compare_75 : decode cX4_compare 75 = .ok (.aload_n 0, 1) := by decide +kernel
theorem dX4_compare_76 : decode cX4_compare 76 = .ok (.getfield 7, 3) := by decide +kernel
theorem dX4_compare_79 : decode cX4_compare 79 = .ok (.iload_n 2, 1) := by decide +kernel
theorem dX4_compare_80 : decode cX4_compare 80 = .ok (.iaload, 1) := by decide +kernel
theorem dX4_compare_81 : decode cX4_compare 81 = .ok (.invokevirtual 203, 3) := by decide +kernel
theorem dX4_compare_84 : decode cX4_compare 84 = .ok (.ireturn, 1) := by decide +kernel
theorem dX4_byteAt_0 : decode cX4_byteAt 0 = .ok (.aload_n 0, 1) := by decide +kernel
theorem dX4_byteAt_1 : decode cX4_byteAt 1 = .ok (.iload_n 1, 1) := by decide +kernel
theorem dX4_byteAt_2 : decode cX4_byteAt 2 = .ok (.invokestatic 165, 3) := by decide +kernel
theorem dX4_byteAt_5 : decode cX4_byteAt 5 = .ok (.ifCond .eq 7, 3) := by decide +kernel
theorem dX4_byteAt_8 : decode cX4_byteAt 8 = .ok (.iconst 0, 1) := by decide +kernel
theorem dX4_byteAt_9 : decode cX4_byteAt 9 = .ok (.goto 4, 3) := by decide +kernel
theorem dX4_byteAt_12 : decode cX4_byteAt 12 = .ok (.iconst 1, 1) := by decide +kernel
theorem dX4_byteAt_13 : decode cX4_byteAt 13 = .ok (.putfield 85, 3) := by decide +kernel
theorem dX4_byteAt_16 : decode cX4_byteAt 16 = .ok (.aload_n 0, 1) := by decide +kernel
theorem dX4_byteAt_17 : decode cX4_byteAt 17 = .ok (.getfield 85, 3) := by decide +kernel
theorem dX4_byteAt_20 : decode cX4_byteAt 20 = .ok (.ifCond .le 5, 3) := by decide +kernel
theorem dX4_byteAt_23 : decode cX4_byteAt 23 = .ok (.iconst 0, 1) := by decide +kernel
theorem dX4_byteAt_24 : decode cX4_byteAt 24 = .ok (.ireturn, 1) := by decide +kernel
theorem dX4_byteAt_25 : decode cX4_byteAt 25 = .ok (.aload_n 0, 1) := by decide +kernel
theorem dX4_byteAt_26 : decode cX4_byteAt 26 = .ok (.aload_n 0, 1) := by decide +kernel
theorem dX4_byteAt_27 : decode cX4_byteAt 27 = .ok (.iload_n 1, 1) := by decide +kernel
theorem dX4_byteAt_28 : decode cX4_byteAt 28 = .ok (.invokevirtual 194, 3) := by decide +kernel
theorem dX4_byteAt_31 : decode cX4_byteAt 31 = .ok (.ifCond .ne 7, 3) := by decide +kernel
theorem dX4_byteAt_34 : decode cX4_byteAt 34 = .ok (.iconst 2, 1) := by decide +kernel
theorem dX4_byteAt_35 : decode cX4_byteAt 35 = .ok (.goto 28, 3) := by decide +kernel
theorem dX4_byteAt_38 : decode cX4_byteAt 38 = .ok (.iload_n 2, 1) := by decide +kernel
theorem dX4_byteAt_39 : decode cX4_byteAt 39 = .ok (.iconst 0, 1) := by decide +kernel
theorem dX4_byteAt_40 : decode cX4_byteAt 40 = .ok (.aload_n 0, 1) := by decide +kernel
