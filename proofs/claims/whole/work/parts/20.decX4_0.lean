theorem dX4_init_0 : decode cX4_init 0 = .ok (.aload_n 0, 1) := by decide +kernel
theorem dX4_init_1 : decode cX4_init 1 = .ok (.invokespecial 1, 3) := by decide +kernel
theorem dX4_init_4 : decode cX4_init 4 = .ok (.aload_n 0, 1) := by decide +kernel
theorem dX4_init_5 : decode cX4_init 5 = .ok (.bipush 16, 2) := by decide +kernel
theorem dX4_init_7 : decode cX4_init 7 = .ok (.newarray .int, 2) := by decide +kernel
theorem dX4_init_9 : decode cX4_init 9 = .ok (.putfield 7, 3) := by decide +kernel
theorem dX4_init_12 : decode cX4_init 12 = .ok (.aload_n 0, 1) := by decide +kernel
theorem dX4_init_13 : decode cX4_init 13 = .ok (.bipush 16, 2) := by decide +kernel
theorem dX4_init_15 : decode cX4_init 15 = .ok (.newarray .long, 2) := by decide +kernel
theorem dX4_init_17 : decode cX4_init 17 = .ok (.putfield 13, 3) := by decide +kernel
theorem dX4_init_20 : decode cX4_init 20 = .ok (.aload_n 0, 1) := by decide +kernel
theorem dX4_init_21 : decode cX4_init 21 = .ok (.bipush 64, 2) := by decide +kernel
theorem dX4_init_23 : decode cX4_init 23 = .ok (.newarray .int, 2) := by decide +kernel
theorem dX4_init_25 : decode cX4_init 25 = .ok (.putfield 17, 3) := by decide +kernel
theorem dX4_init_28 : decode cX4_init 28 = .ok (.aload_n 0, 1) := by decide +kernel
theorem dX4_init_29 : decode cX4_init 29 = .ok (.bipush 64, 2) := by decide +kernel
theorem dX4_init_31 : decode cX4_init 31 = .ok (.newarray .int, 2) := by decide +kernel
theorem dX4_init_33 : decode cX4_init 33 = .ok (.putfield 20, 3) := by decide +kernel
theorem dX4_init_36 : decode cX4_init 36 = .ok (.aload_n 0, 1) := by decide +kernel
theorem dX4_init_37 : decode cX4_init 37 = .ok (.bipush 64, 2) := by decide +kernel
theorem dX4_init_39 : decode cX4_init 39 = .ok (.newarray .int, 2) := by decide +kernel
theorem dX4_init_41 : decode cX4_init 41 = .ok (.putfield 23, 3) := by decide +kernel
theorem dX4_init_44 : decode cX4_init 44 = .ok (.aload_n 0, 1) := by decide +kernel
theorem dX4_init_45 : decode cX4_init 45 = .ok (.bipush 64, 2) := by decide +kernel
theorem dX4_init_47 : decode cX4_init 47 = .ok (.newarray .int, 2) := by decide +kernel
theorem dX4_init_49 : decode cX4_init 49 = .ok (.putfield 26, 3) := by decide +kernel
theorem dX4_init_52 : decode cX4_init 52 = .ok (.aload_n 0, 1) := by decide +kernel
theorem dX4_init_53 : decode cX4_init 53 = .ok (.bipush 64, 2) := by decide +kernel
theorem dX4_init_55 : decode cX4_init 55 = .ok (.newarray .int, 2) := by decide +kernel
theorem dX4_init_57 : decode cX4_init 57 = .ok (.putfield 29, 3) := by decide +kernel
theorem dX4_init_60 : decode cX4_init 60 = .ok (.aload_n 0, 1) := by decide +kernel
theorem dX4_init_61 : decode cX4_init 61 = .ok (.bipush 64, 2) := by decide +kernel
theorem dX4_init_63 : decode cX4_init 63 = .ok (.newarray .int, 2) := by decide +kernel
theorem dX4_init_65 : decode cX4_init 65 = .ok (.putfield 32, 3) := by decide +kernel
theorem dX4_init_68 : decode cX4_init 68 = .ok (.aload_n 0, 1) := by decide +kernel
theorem dX4_init_69 : decode cX4_init 69 = .ok (.bipush 64, 2) := by decide +kernel
theorem dX4_init_71 : decode cX4_init 71 = .ok (.newarray .int, 2) := by decide +kernel
theorem dX4_init_73 : decode cX4_init 73 = .ok (.putfield 35, 3) := by decide +kernel
theorem dX4_init_76 : decode cX4_init 76 = .ok (.aload_n 0, 1) := by decide +kernel
theorem dX4_init_77 : decode cX4_init 77 = .ok (.bipush 64, 2) := by decide +kernel
theorem dX4_init_79 : decode cX4_init 79 = .ok (.newarray .int, 2) := by decide +kernel
theorem dX4_init_81 : decode cX4_init 81 = .ok (.putfield 38, 3) := by decide +kernel
theorem dX4_init_84 : decode cX4_init 84 = .ok (.aload_n 0, 1) := by decide +kernel
theorem dX4_init_85 : decode cX4_init 85 = .ok (.bipush 64, 2) := by decide +kernel
theorem dX4_init_87 : decode cX4_init 87 = .ok (.newarray .int, 2) := by decide +kernel
theorem dX4_init_89 : decode cX4_init 89 = .ok (.putfield 41, 3) := by decide +kernel
theorem dX4_init_92 : decode cX4_init 92 = .ok (.aload_n 0, 1) := by decide +kernel
theorem dX4_init_93 : decode cX4_init 93 = .ok (.bipush 64, 2) := by decide +kernel
theorem dX4_init_95 : decode cX4_init 95 = .ok (.newarray .boolean, 2) := by decide +kernel
theorem dX4_init_97 : decode cX4_init 97 = .ok (.putfield 44, 3) := by decide +kernel
theorem dX4_init_100 : decode cX4_init 100 = .ok (.aload_n 0, 1) := by decide +kernel
theorem dX4_init_101 : decode cX4_init 101 = .ok (.bipush 64, 2) := by decide +kernel
theorem dX4_init_103 : decode cX4_init 103 = .ok (.newarray .boolean, 2) := by decide +kernel
theorem dX4_init_105 : decode cX4_init 105 = .ok (.putfield 48, 3) := by decide +kernel
theorem dX4_init_108 : decode cX4_init 108 = .ok (.aload_n 0, 1) := by decide +kernel
theorem dX4_init_109 : decode cX4_init 109 = .ok (.bipush 64, 2) := by decide +kernel
theorem dX4_init_111 : decode cX4_init 111 = .ok (.newarray .boolean, 2) := by decide +kernel
theorem dX4_init_113 : decode cX4_init 113 = .ok (.putfield 51, 3) := by decide +kernel
theorem dX4_init_116 : decode cX4_init 116 = .ok (.aload_n 0, 1) := by decide +kernel
theorem dX4_init_117 : decode cX4_init 117 = .ok (.bipush 64, 2) := by decide +kernel
theorem dX4_init_119 : decode cX4_init 119 = .ok (.newarray .int, 2) := by decide +kernel
theorem dX4_init_121 : decode cX4_init 121 = .ok (.putfield 54, 3) := by decide +kernel
theorem dX4_init_124 : decode cX4_init 124 = .ok (.aload_n 0, 1) := by decide +kernel
theorem dX4_init_125 : decode cX4_init 125 = .ok (.bipush 64, 2) := by decide +kernel
theorem dX4_init_127 : decode cX4_init 127 = .ok (.newarray .long, 2) := by decide +kernel
theorem dX4_init_129 : decode cX4_init 129 = .ok (.putfield 57, 3) := by decide +kernel
theorem dX4_init_132 : decode cX4_init 132 = .ok (.aload_n 0, 1) := by decide +kernel
theorem dX4_init_133 : decode cX4_init 133 = .ok (.bipush 64, 2) := by decide +kernel
theorem dX4_init_135 : decode cX4_init 135 = .ok (.newarray .byte, 2) := by decide +kernel
theorem dX4_init_137 : decode cX4_init 137 = .ok (.putfield 60, 3) := by decide +kernel
theorem dX4_init_140 : decode cX4_init 140 = .ok (.aload_n 0, 1) := by decide +kernel
theorem dX4_init_141 : decode cX4_init 141 = .ok (.bipush 64, 2) := by decide +kernel
theorem dX4_init_143 : decode cX4_init 143 = .ok (.newarray .int, 2) := by decide +kernel
theorem dX4_init_145 : decode cX4_init 145 = .ok (.putfield 64, 3) := by decide +kernel
theorem dX4_init_148 : decode cX4_init 148 = .ok (.aload_n 0, 1) := by decide +kernel
theorem dX4_init_149 : decode cX4_init 149 = .ok (.bipush 64, 2) := by decide +kernel
theorem dX4_init_151 : decode cX4_init 151 = .ok (.newarray .int, 2) := by decide +kernel
theorem dX4_init_153 : decode cX4_init 153 = .ok (.putfield 67, 3) := by decide +kernel
theorem dX4_init_156 : decode cX4_init 156 = .ok (.aload_n 0, 1) := by decide +kernel
theorem dX4_init_157 : decode cX4_init 157 = .ok (.sipush 512, 3) := by decide +kernel
theorem dX4_init_160 : decode cX4_init 160 = .ok (.newarray .int, 2) := by decide +kernel
theorem dX4_init_162 : decode cX4_init 162 = .ok (.putfield 70, 3) := by decide +kernel
theorem dX4_init_165 : decode cX4_init 165 = .ok (.aload_n 0, 1) := by decide +kernel
theorem dX4_init_166 : decode cX4_init 166 = .ok (.sipush 512, 3) := by decide +kernel
theorem dX4_init_169 : decode cX4_init 169 = .ok (.newarray .long, 2) := by decide +kernel
theorem dX4_init_171 : decode cX4_init 171 = .ok (.putfield 73, 3) := by decide +kernel
theorem dX4_init_174 : decode cX4_init 174 = .ok (.aload_n 0, 1) := by decide +kernel
theorem dX4_init_175 : decode cX4_init 175 = .ok (.iload_n 1, 1) := by decide +kernel
theorem dX4_init_176 : decode cX4_init 176 = .ok (.bipush 64, 2) := by decide +kernel
theorem dX4_init_178 : decode cX4_init 178 = .ok (.if_icmp .ge 9, 3) := by decide +kernel
theorem dX4_init_181 : decode cX4_init 181 = .ok (.ldc2_w 76, 3) := by decide +kernel
theorem dX4_init_184 : decode cX4_init 184 = .ok (.goto 17, 3) := by decide +kernel
theorem dX4_init_187 : decode cX4_init 187 = .ok (.iload_n 1, 1) := by decide +kernel
theorem dX4_init_188 : decode cX4_init 188 = .ok (.ldc 78, 2) := by decide +kernel
theorem dX4_init_190 : decode cX4_init 190 = .ok (.if_icmp .le 9, 3) := by decide +kernel
theorem dX4_init_193 : decode cX4_init 193 = .ok (.ldc2_w 79, 3) := by decide +kernel
theorem dX4_init_196 : decode cX4_init 196 = .ok (.goto 5, 3) := by decide +kernel
theorem dX4_init_199 : decode cX4_init 199 = .ok (.iload_n 1, 1) := by decide +kernel
theorem dX4_init_200 : decode cX4_init 200 = .ok (.i2l, 1) := by decide +kernel
theorem dX4_init_201 : decode cX4_init 201 = .ok (.putfield 81, 3) := by decide +kernel
theorem dX4_init_204 : decode cX4_init 204 = .ok (.iconst 0, 1) := by decide +kernel
theorem dX4_init_205 : decode cX4_init 205 = .ok (.istore_n 2, 1) := by decide +kernel
theorem dX4_init_206 : decode cX4_init 206 = .ok (.iload_n 2, 1) := by decide +kernel
theorem dX4_init_207 : decode cX4_init 207 = .ok (.bipush 16, 2) := by decide +kernel
theorem dX4_init_209 : decode cX4_init 209 = .ok (.if_icmp .ge 16, 3) := by decide +kernel
theorem dX4_init_212 : decode cX4_init 212 = .ok (.aload_n 0, 1) := by decide +kernel
theorem dX4_init_213 : decode cX4_init 213 = .ok (.getfield 7, 3) := by decide +kernel
theorem dX4_init_216 : decode cX4_init 216 = .ok (.iload_n 2, 1) := by decide +kernel
theorem dX4_init_217 : decode cX4_init 217 = .ok (.iconst (-1), 1) := by decide +kernel
theorem dX4_init_218 : decode cX4_init 218 = .ok (.iastore, 1) := by decide +kernel
theorem dX4_init_219 : decode cX4_init 219 = .ok (.iinc 2 1, 3) := by decide +kernel
theorem dX4_init_222 : decode cX4_init 222 = .ok (.goto (-16), 3) := by decide +kernel
theorem dX4_init_225 : decode cX4_init 225 = .ok (.return_, 1) := by decide +kernel
theorem dX4_thrown_0 : decode cX4_thrown 0 = .ok (.aload_n 0, 1) := by decide +kernel
theorem dX4_thrown_1 : decode cX4_thrown 1 = .ok (.getfield 85, 3) := by decide +kernel
theorem dX4_thrown_4 : decode cX4_thrown 4 = .ok (.ireturn, 1) := by decide +kernel
theorem dX4_wider_0 : decode cX4_wider 0 = .ok (.iconst 2, 1) := by decide +kernel
theorem dX4_wider_1 : decode cX4_wider 1 = .ok (.aload_n 0, 1) := by decide +kernel
theorem dX4_wider_2 : decode cX4_wider 2 = .ok (.arraylength, 1) := by decide +kernel
theorem dX4_wider_3 : decode cX4_wider 3 = .ok (.imul, 1) := by decide +kernel
theorem dX4_wider_4 : decode cX4_wider 4 = .ok (.newarray .int, 2) := by decide +kernel
theorem dX4_wider_6 : decode cX4_wider 6 = .ok (.astore_n 1, 1) := by decide +kernel
theorem dX4_wider_7 : decode cX4_wider 7 = .ok (.iconst 0, 1) := by decide +kernel
theorem dX4_wider_8 : decode cX4_wider 8 = .ok (.istore_n 2, 1) := by decide +kernel
theorem dX4_wider_9 : decode cX4_wider 9 = .ok (.iload_n 2, 1) := by decide +kernel
theorem dX4_wider_10 : decode cX4_wider 10 = .ok (.aload_n 0, 1) := by decide +kernel
theorem dX4_wider_11 : decode cX4_wider 11 = .ok (.arraylength, 1) := by decide +kernel
theorem dX4_wider_12 : decode cX4_wider 12 = .ok (.if_icmp .ge 15, 3) := by decide +kernel
theorem dX4_wider_15 : decode cX4_wider 15 = .ok (.aload_n 1, 1) := by decide +kernel
theorem dX4_wider_16 : decode cX4_wider 16 = .ok (.iload_n 2, 1) := by decide +kernel
theorem dX4_wider_17 : decode cX4_wider 17 = .ok (.aload_n 0, 1) := by decide +kernel
theorem dX4_wider_18 : decode cX4_wider 18 = .ok (.iload_n 2, 1) := by decide +kernel
theorem dX4_wider_19 : decode cX4_wider 19 = .ok (.iaload, 1) := by decide +kernel
theorem dX4_wider_20 : decode cX4_wider 20 = .ok (.iastore, 1) := by decide +kernel
theorem dX4_wider_21 : decode cX4_wider 21 = .ok (.iinc 2 1, 3) := by decide +kernel
theorem dX4_wider_24 : decode cX4_wider 24 = .ok (.goto (-15), 3) := by decide +kernel
theorem dX4_wider_27 : decode cX4_wider 27 = .ok (.aload_n 1, 1) := by decide +kernel
theorem dX4_wider_28 : decode cX4_wider 28 = .ok (.areturn, 1) := by decide +kernel
theorem dX4_widerLongs_0 : decode cX4_widerLongs 0 = .ok (.iconst 2, 1) := by decide +kernel
theorem dX4_widerLongs_1 : decode cX4_widerLongs 1 = .ok (.aload_n 0, 1) := by decide +kernel
theorem dX4_widerLongs_2 : decode cX4_widerLongs 2 = .ok (.arraylength, 1) := by decide +kernel
theorem dX4_widerLongs_3 : decode cX4_widerLongs 3 = .ok (.imul, 1) := by decide +kernel
theorem dX4_widerLongs_4 : decode cX4_widerLongs 4 = .ok (.newarray .long, 2) := by decide +kernel
theorem dX4_widerLongs_6 : decode cX4_widerLongs 6 = .ok (.astore_n 1, 1) := by decide +kernel
theorem dX4_widerLongs_7 : decode cX4_widerLongs 7 = .ok (.iconst 0, 1) := by decide +kernel
theorem dX4_widerLongs_8 : decode cX4_widerLongs 8 = .ok (.istore_n 2, 1) := by decide +kernel
theorem dX4_widerLongs_9 : decode cX4_widerLongs 9 = .ok (.iload_n 2, 1) := by decide +kernel
theorem dX4_widerLongs_10 : decode cX4_widerLongs 10 = .ok (.aload_n 0, 1) := by decide +kernel
theorem dX4_widerLongs_11 : decode cX4_widerLongs 11 = .ok (.arraylength, 1) := by decide +kernel
theorem dX4_widerLongs_12 : decode cX4_widerLongs 12 = .ok (.if_icmp .ge 15, 3) := by decide +kernel
theorem dX4_widerLongs_15 : decode cX4_widerLongs 15 = .ok (.aload_n 1, 1) := by decide +kernel
theorem dX4_widerLongs_16 : decode cX4_widerLongs 16 = .ok (.iload_n 2, 1) := by decide +kernel
theorem dX4_widerLongs_17 : decode cX4_widerLongs 17 = .ok (.aload_n 0, 1) := by decide +kernel
theorem dX4_widerLongs_18 : decode cX4_widerLongs 18 = .ok (.iload_n 2, 1) := by decide +kernel
theorem dX4_widerLongs_19 : decode cX4_widerLongs 19 = .ok (.laload, 1) := by decide +kernel
theorem dX4_widerLongs_20 : decode cX4_widerLongs 20 = .ok (.lastore, 1) := by decide +kernel
theorem dX4_widerLongs_21 : decode cX4_widerLongs 21 = .ok (.iinc 2 1, 3) := by decide +kernel
theorem dX4_widerLongs_24 : decode cX4_widerLongs 24 = .ok (.goto (-15), 3) := by decide +kernel
theorem dX4_widerLongs_27 : decode cX4_widerLongs 27 = .ok (.aload_n 1, 1) := by decide +kernel
theorem dX4_widerLongs_28 : decode cX4_widerLongs 28 = .ok (.areturn, 1) := by decide +kernel
theorem dX4_widerTruths_0 : decode cX4_widerTruths 0 = .ok (.iconst 2, 1) := by decide +kernel
theorem dX4_widerTruths_1 : decode cX4_widerTruths 1 = .ok (.aload_n 0, 1) := by decide +kernel
theorem dX4_widerTruths_2 : decode cX4_widerTruths 2 = .ok (.arraylength, 1) := by decide +kernel
theorem dX4_widerTruths_3 : decode cX4_widerTruths 3 = .ok (.imul, 1) := by decide +kernel
theorem dX4_widerTruths_4 : decode cX4_widerTruths 4 = .ok (.newarray .boolean, 2) := by decide +kernel
theorem dX4_widerTruths_6 : decode cX4_widerTruths 6 = .ok (.astore_n 1, 1) := by decide +kernel
theorem dX4_widerTruths_7 : decode cX4_widerTruths 7 = .ok (.iconst 0, 1) := by decide +kernel
theorem dX4_widerTruths_8 : decode cX4_widerTruths 8 = .ok (.istore_n 2, 1) := by decide +kernel
theorem dX4_widerTruths_9 : decode cX4_widerTruths 9 = .ok (.iload_n 2, 1) := by decide +kernel
theorem dX4_widerTruths_10 : decode cX4_widerTruths 10 = .ok (.aload_n 0, 1) := by decide +kernel
theorem dX4_widerTruths_11 : decode cX4_widerTruths 11 = .ok (.arraylength, 1) := by decide +kernel
theorem dX4_widerTruths_12 : decode cX4_widerTruths 12 = .ok (.if_icmp .ge 15, 3) := by decide +kernel
theorem dX4_widerTruths_15 : decode cX4_widerTruths 15 = .ok (.aload_n 1, 1) := by decide +kernel
theorem dX4_widerTruths_16 : decode cX4_widerTruths 16 = .ok (.iload_n 2, 1) := by decide +kernel
theorem dX4_widerTruths_17 : decode cX4_widerTruths 17 = .ok (.aload_n 0, 1) := by decide +kernel
theorem dX4_widerTruths_18 : decode cX4_widerTruths 18 = .ok (.iload_n 2, 1) := by decide +kernel
theorem dX4_widerTruths_19 : decode cX4_widerTruths 19 = .ok (.baload, 1) := by decide +kernel
theorem dX4_widerTruths_20 : decode cX4_widerTruths 20 = .ok (.bastore, 1) := by decide +kernel
theorem dX4_widerTruths_21 : decode cX4_widerTruths 21 = .ok (.iinc 2 1, 3) := by decide +kernel
theorem dX4_widerTruths_24 : decode cX4_widerTruths 24 = .ok (.goto (-15), 3) := by decide +kernel
theorem dX4_widerTruths_27 : decode cX4_widerTruths 27 = .ok (.aload_n 1, 1) := by decide +kernel
theorem dX4_widerTruths_28 : decode cX4_widerTruths 28 = .ok (.areturn, 1) := by decide +kernel
theorem dX4_widerBytes_0 : decode cX4_widerBytes 0 = .ok (.iconst 2, 1) := by decide +kernel
theorem dX4_widerBytes_1 : decode cX4_widerBytes 1 = .ok (.aload_n 0, 1) := by decide +kernel
theorem dX4_widerBytes_2 : decode cX4_widerBytes 2 = .ok (.arraylength, 1) := by decide +kernel
theorem dX4_widerBytes_3 : decode cX4_widerBytes 3 = .ok (.imul, 1) := by decide +kernel
theorem dX4_widerBytes_4 : decode cX4_widerBytes 4 = .ok (.newarray .byte, 2) := by decide +kernel
theorem dX4_widerBytes_6 : decode cX4_widerBytes 6 = .ok (.astore_n 1, 1) := by decide +kernel
theorem dX4_widerBytes_7 : decode cX4_widerBytes 7 = .ok (.iconst 0, 1) := by decide +kernel
theorem dX4_widerBytes_8 : decode cX4_widerBytes 8 = .ok (.istore_n 2, 1) := by decide +kernel
theorem dX4_widerBytes_9 : decode cX4_widerBytes 9 = .ok (.iload_n 2, 1) := by decide +kernel
theorem dX4_widerBytes_10 : decode cX4_widerBytes 10 = .ok (.aload_n 0, 1) := by decide +kernel
theorem dX4_widerBytes_11 : decode cX4_widerBytes 11 = .ok (.arraylength, 1) := by decide +kernel
theorem dX4_widerBytes_12 : decode cX4_widerBytes 12 = .ok (.if_icmp .ge 15, 3) := by decide +kernel
theorem dX4_widerBytes_15 : decode cX4_widerBytes 15 = .ok (.aload_n 1, 1) := by decide +kernel
theorem dX4_widerBytes_16 : decode cX4_widerBytes 16 = .ok (.iload_n 2, 1) := by decide +kernel
theorem dX4_widerBytes_17 : decode cX4_widerBytes 17 = .ok (.aload_n 0, 1) := by decide +kernel
theorem dX4_widerBytes_18 : decode cX4_widerBytes 18 = .ok (.iload_n 2, 1) := by decide +kernel
theorem dX4_widerBytes_19 : decode cX4_widerBytes 19 = .ok (.baload, 1) := by decide +kernel
theorem dX4_widerBytes_20 : decode cX4_widerBytes 20 = .ok (.bastore, 1) := by decide +kernel
theorem dX4_widerBytes_21 : decode cX4_widerBytes 21 = .ok (.iinc 2 1, 3) := by decide +kernel
theorem dX4_widerBytes_24 : decode cX4_widerBytes 24 = .ok (.goto (-15), 3) := by decide +kernel
theorem dX4_widerBytes_27 : decode cX4_widerBytes 27 = .ok (.aload_n 1, 1) := by decide +kernel
theorem dX4_widerBytes_28 : decode cX4_widerBytes 28 = .ok (.areturn, 1) := by decide +kernel
theorem dX4_isRegister_0 : decode cX4_isRegister 0 = .ok (.iload_n 0, 1) := by decide +kernel
theorem dX4_isRegister_1 : decode cX4_isRegister 1 = .ok (.ifCond .lt 13, 3) := by decide +kernel
theorem dX4_isRegister_4 : decode cX4_isRegister 4 = .ok (.iload_n 0, 1) := by decide +kernel
theorem dX4_isRegister_5 : decode cX4_isRegister 5 = .ok (.bipush 16, 2) := by decide +kernel
theorem dX4_isRegister_7 : decode cX4_isRegister 7 = .ok (.if_icmp .ge 7, 3) := by decide +kernel
theorem dX4_isRegister_10 : decode cX4_isRegister 10 = .ok (.iconst 1, 1) := by decide +kernel
theorem dX4_isRegister_11 : decode cX4_isRegister 11 = .ok (.goto 4, 3) := by decide +kernel
theorem dX4_isRegister_14 : decode cX4_isRegister 14 = .ok (.iconst 0, 1) := by decide +kernel
theorem dX4_isRegister_15 : decode cX4_isRegister 15 = .ok (.ireturn, 1) := by decide +kernel
theorem dX4_outside_0 : decode cX4_outside 0 = .ok (.iload_n 0, 1) := by decide +kernel
theorem dX4_outside_1 : decode cX4_outside 1 = .ok (.iload_n 1, 1) := by decide +kernel
theorem dX4_outside_2 : decode cX4_outside 2 = .ok (.if_icmp .lt 8, 3) := by decide +kernel
theorem dX4_outside_5 : decode cX4_outside 5 = .ok (.iload_n 0, 1) := by decide +kernel
theorem dX4_outside_6 : decode cX4_outside 6 = .ok (.iload_n 2, 1) := by decide +kernel
theorem dX4_outside_7 : decode cX4_outside 7 = .ok (.if_icmp .le 7, 3) := by decide +kernel
theorem dX4_outside_10 : decode cX4_outside 10 = .ok (.iconst 1, 1) := by decide +kernel
theorem dX4_outside_11 : decode cX4_outside 11 = .ok (.goto 4, 3) := by decide +kernel
theorem dX4_outside_14 : decode cX4_outside 14 = .ok (.iconst 0, 1) := by decide +kernel
theorem dX4_outside_15 : decode cX4_outside 15 = .ok (.ireturn, 1) := by decide +kernel
theorem dX4_is_0 : decode cX4_is 0 = .ok (.aload_n 0, 1) := by decide +kernel
theorem dX4_is_1 : decode cX4_is 1 = .ok (.getfield 7, 3) := by decide +kernel
theorem dX4_is_4 : decode cX4_is 4 = .ok (.iload_n 1, 1) := by decide +kernel
theorem dX4_is_5 : decode cX4_is 5 = .ok (.iaload, 1) := by decide +kernel
theorem dX4_is_6 : decode cX4_is 6 = .ok (.ifCond .le 22, 3) := by decide +kernel
theorem dX4_is_9 : decode cX4_is 9 = .ok (.aload_n 0, 1) := by decide +kernel
theorem dX4_is_10 : decode cX4_is 10 = .ok (.getfield 17, 3) := by decide +kernel
theorem dX4_is_13 : decode cX4_is 13 = .ok (.aload_n 0, 1) := by decide +kernel
theorem dX4_is_14 : decode cX4_is 14 = .ok (.getfield 7, 3) := by decide +kernel
theorem dX4_is_17 : decode cX4_is 17 = .ok (.iload_n 1, 1) := by decide +kernel
theorem dX4_is_18 : decode cX4_is 18 = .ok (.iaload, 1) := by decide +kernel
theorem dX4_is_19 : decode cX4_is 19 = .ok (.iaload, 1) := by decide +kernel
theorem dX4_is_20 : decode cX4_is 20 = .ok (.iload_n 2, 1) := by decide +kernel
theorem dX4_is_21 : decode cX4_is 21 = .ok (.if_icmp .ne 7, 3) := by decide +kernel
theorem dX4_is_24 : decode cX4_is 24 = .ok (.iconst 1, 1) := by decide +kernel
theorem dX4_is_25 : decode cX4_is 25 = .ok (.goto 4, 3) := by decide +kernel
theorem dX4_is_28 : decode cX4_is 28 = .ok (.iconst 0, 1) := by decide +kernel
theorem dX4_is_29 : decode cX4_is 29 = .ok (.ireturn, 1) := by decide +kernel
theorem dX4_isText_0 : decode cX4_isText 0 = .ok (.aload_n 0, 1) := by decide +kernel
theorem dX4_isText_1 : decode cX4_isText 1 = .ok (.getfield 7, 3) := by decide +kernel
theorem dX4_isText_4 : decode cX4_isText 4 = .ok (.iload_n 1, 1) := by decide +kernel
theorem dX4_isText_5 : decode cX4_isText 5 = .ok (.iaload, 1) := by decide +kernel
theorem dX4_isText_6 : decode cX4_isText 6 = .ok (.iconst (-1), 1) := by decide +kernel
theorem dX4_isText_7 : decode cX4_isText 7 = .ok (.if_icmp .eq 12, 3) := by decide +kernel
theorem dX4_isText_10 : decode cX4_isText 10 = .ok (.aload_n 0, 1) := by decide +kernel
theorem dX4_isText_11 : decode cX4_isText 11 = .ok (.iload_n 1, 1) := by decide +kernel
theorem dX4_isText_12 : decode cX4_isText 12 = .ok (.iconst 3, 1) := by decide +kernel
theorem dX4_isText_13 : decode cX4_isText 13 = .ok (.invokevirtual 89, 3) := by decide +kernel
theorem dX4_isText_16 : decode cX4_isText 16 = .ok (.ifCond .eq 7, 3) := by decide +kernel
theorem dX4_isText_19 : decode cX4_isText 19 = .ok (.iconst 1, 1) := by decide +kernel
theorem dX4_isText_20 : decode cX4_isText 20 = .ok (.goto 4, 3) := by decide +kernel
theorem dX4_isText_23 : decode cX4_isText 23 = .ok (.iconst 0, 1) := by decide +kernel
theorem dX4_isText_24 : decode cX4_isText 24 = .ok (.ireturn, 1) := by decide +kernel
theorem dX4_set_0 : decode cX4_set 0 = .ok (.aload_n 0, 1) := by decide +kernel
theorem dX4_set_1 : decode cX4_set 1 = .ok (.getfield 7, 3) := by decide +kernel
theorem dX4_set_4 : decode cX4_set 4 = .ok (.iload_n 1, 1) := by decide +kernel
theorem dX4_set_5 : decode cX4_set 5 = .ok (.iload_n 2, 1) := by decide +kernel
theorem dX4_set_6 : decode cX4_set 6 = .ok (.iastore, 1) := by decide +kernel
theorem dX4_set_7 : decode cX4_set 7 = .ok (.aload_n 0, 1) := by decide +kernel
theorem dX4_set_8 : decode cX4_set 8 = .ok (.getfield 13, 3) := by decide +kernel
theorem dX4_set_11 : decode cX4_set 11 = .ok (.iload_n 1, 1) := by decide +kernel
theorem dX4_set_12 : decode cX4_set 12 = .ok (.lload_n 3, 1) := by decide +kernel
theorem dX4_set_13 : decode cX4_set 13 = .ok (.lastore, 1) := by decide +kernel
theorem dX4_set_14 : decode cX4_set 14 = .ok (.return_, 1) := by decide +kernel
theorem dX4_tableOf_0 : decode cX4_tableOf 0 = .ok (.lload_n 2, 1) := by decide +kernel
theorem dX4_tableOf_1 : decode cX4_tableOf 1 = .ok (.iconst 3, 1) := by decide +kernel
theorem dX4_tableOf_2 : decode cX4_tableOf 2 = .ok (.aload_n 0, 1) := by decide +kernel
theorem dX4_tableOf_3 : decode cX4_tableOf 3 = .ok (.getfield 26, 3) := by decide +kernel
theorem dX4_tableOf_6 : decode cX4_tableOf 6 = .ok (.iload_n 1, 1) := by decide +kernel
theorem dX4_tableOf_7 : decode cX4_tableOf 7 = .ok (.iaload, 1) := by decide +kernel
theorem dX4_tableOf_8 : decode cX4_tableOf 8 = .ok (.iadd, 1) := by decide +kernel
theorem dX4_tableOf_9 : decode cX4_tableOf 9 = .ok (.aload_n 0, 1) := by decide +kernel
theorem dX4_tableOf_10 : decode cX4_tableOf 10 = .ok (.getfield 29, 3) := by decide +kernel
theorem dX4_tableOf_13 : decode cX4_tableOf 13 = .ok (.iload_n 1, 1) := by decide +kernel
theorem dX4_tableOf_14 : decode cX4_tableOf 14 = .ok (.iaload, 1) := by decide +kernel
theorem dX4_tableOf_15 : decode cX4_tableOf 15 = .ok (.iadd, 1) := by decide +kernel
theorem dX4_tableOf_16 : decode cX4_tableOf 16 = .ok (.i2l, 1) := by decide +kernel
theorem dX4_tableOf_17 : decode cX4_tableOf 17 = .ok (.lmul, 1) := by decide +kernel
theorem dX4_tableOf_18 : decode cX4_tableOf 18 = .ok (.lconst 1, 1) := by decide +kernel
theorem dX4_tableOf_19 : decode cX4_tableOf 19 = .ok (.ladd, 1) := by decide +kernel
theorem dX4_tableOf_20 : decode cX4_tableOf 20 = .ok (.lreturn, 1) := by decide +kernel
theorem dX4_takes_0 : decode cX4_takes 0 = .ok (.aload_n 0, 1) := by decide +kernel
theorem dX4_takes_1 : decode cX4_takes 1 = .ok (.getfield 17, 3) := by decide +kernel
theorem dX4_takes_4 : decode cX4_takes 4 = .ok (.iload_n 1, 1) := by decide +kernel
theorem dX4_takes_5 : decode cX4_takes 5 = .ok (.iaload, 1) := by decide +kernel
theorem dX4_takes_6 : decode cX4_takes 6 = .ok (.iconst 2, 1) := by decide +kernel
theorem dX4_takes_7 : decode cX4_takes 7 = .ok (.if_icmp .ne 13, 3) := by decide +kernel
theorem dX4_takes_10 : decode cX4_takes 10 = .ok (.aload_n 0, 1) := by decide +kernel
theorem dX4_takes_11 : decode cX4_takes 11 = .ok (.getfield 20, 3) := by decide +kernel
theorem dX4_takes_14 : decode cX4_takes 14 = .ok (.iload_n 1, 1) := by decide +kernel
theorem dX4_takes_15 : decode cX4_takes 15 = .ok (.iaload, 1) := by decide +kernel
theorem dX4_takes_16 : decode cX4_takes 16 = .ok (.i2l, 1) := by decide +kernel
theorem dX4_takes_17 : decode cX4_takes 17 = .ok (.lconst 1, 1) := by decide +kernel
theorem dX4_takes_18 : decode cX4_takes 18 = .ok (.ladd, 1) := by decide +kernel
theorem dX4_takes_19 : decode cX4_takes 19 = .ok (.lreturn, 1) := by decide +kernel
theorem dX4_takes_20 : decode cX4_takes 20 = .ok (.aload_n 0, 1) := by decide +kernel
theorem dX4_takes_21 : decode cX4_takes 21 = .ok (.getfield 17, 3) := by decide +kernel
theorem dX4_takes_24 : decode cX4_takes 24 = .ok (.iload_n 1, 1) := by decide +kernel
theorem dX4_takes_25 : decode cX4_takes 25 = .ok (.iaload, 1) := by decide +kernel
theorem dX4_takes_26 : decode cX4_takes 26 = .ok (.iconst 3, 1) := by decide +kernel
theorem dX4_takes_27 : decode cX4_takes 27 = .ok (.if_icmp .ne 21, 3) := by decide +kernel
theorem dX4_takes_30 : decode cX4_takes 30 = .ok (.aload_n 0, 1) := by decide +kernel
theorem dX4_takes_31 : decode cX4_takes 31 = .ok (.getfield 20, 3) := by decide +kernel
theorem dX4_takes_34 : decode cX4_takes 34 = .ok (.iload_n 1, 1) := by decide +kernel
theorem dX4_takes_35 : decode cX4_takes 35 = .ok (.iaload, 1) := by decide +kernel
theorem dX4_takes_36 : decode cX4_takes 36 = .ok (.bipush 7, 2) := by decide +kernel
theorem dX4_takes_38 : decode cX4_takes 38 = .ok (.iadd, 1) := by decide +kernel
theorem dX4_takes_39 : decode cX4_takes 39 = .ok (.bipush 8, 2) := by decide +kernel
theorem dX4_takes_41 : decode cX4_takes 41 = .ok (.idiv, 1) := by decide +kernel
theorem dX4_takes_42 : decode cX4_takes 42 = .ok (.i2l, 1) := by decide +kernel
theorem dX4_takes_43 : decode cX4_takes 43 = .ok (.lconst 1, 1) := by decide +kernel
theorem dX4_takes_44 : decode cX4_takes 44 = .ok (.ladd, 1) := by decide +kernel
theorem dX4_takes_45 : decode cX4_takes 45 = .ok (.goto 19, 3) := by decide +kernel
theorem dX4_takes_48 : decode cX4_takes 48 = .ok (.ldc2_w 93, 3) := by decide +kernel
theorem dX4_takes_51 : decode cX4_takes 51 = .ok (.aload_n 0, 1) := by decide +kernel
theorem dX4_takes_52 : decode cX4_takes 52 = .ok (.iload_n 1, 1) := by decide +kernel
theorem dX4_takes_53 : decode cX4_takes 53 = .ok (.aload_n 0, 1) := by decide +kernel
theorem dX4_takes_54 : decode cX4_takes 54 = .ok (.getfield 35, 3) := by decide +kernel
theorem dX4_takes_57 : decode cX4_takes 57 = .ok (.iload_n 1, 1) := by decide +kernel
theorem dX4_takes_58 : decode cX4_takes 58 = .ok (.iaload, 1) := by decide +kernel
theorem dX4_takes_59 : decode cX4_takes 59 = .ok (.i2l, 1) := by decide +kernel
theorem dX4_takes_60 : decode cX4_takes 60 = .ok (.invokevirtual 95, 3) := by decide +kernel
theorem dX4_takes_63 : decode cX4_takes 63 = .ok (.ladd, 1) := by decide +kernel
theorem dX4_takes_64 : decode cX4_takes 64 = .ok (.lreturn, 1) := by decide +kernel
theorem dX4_reach_0 : decode cX4_reach 0 = .ok (.iload_n 1, 1) := by decide +kernel
theorem dX4_reach_1 : decode cX4_reach 1 = .ok (.ifCond .le 12, 3) := by decide +kernel
theorem dX4_reach_4 : decode cX4_reach 4 = .ok (.aload_n 0, 1) := by decide +kernel
theorem dX4_reach_5 : decode cX4_reach 5 = .ok (.getfield 51, 3) := by decide +kernel
theorem dX4_reach_8 : decode cX4_reach 8 = .ok (.iload_n 1, 1) := by decide +kernel
theorem dX4_reach_9 : decode cX4_reach 9 = .ok (.baload, 1) := by decide +kernel
theorem dX4_reach_10 : decode cX4_reach 10 = .ok (.ifCond .eq 5, 3) := by decide +kernel
theorem dX4_reach_13 : decode cX4_reach 13 = .ok (.iconst 0, 1) := by decide +kernel
theorem dX4_reach_14 : decode cX4_reach 14 = .ok (.ireturn, 1) := by decide +kernel
theorem dX4_reach_15 : decode cX4_reach 15 = .ok (.aload_n 0, 1) := by decide +kernel
theorem dX4_reach_16 : decode cX4_reach 16 = .ok (.getfield 51, 3) := by decide +kernel
theorem dX4_reach_19 : decode cX4_reach 19 = .ok (.iload_n 1, 1) := by decide +kernel
theorem dX4_reach_20 : decode cX4_reach 20 = .ok (.iconst 1, 1) := by decide +kernel
theorem dX4_reach_21 : decode cX4_reach 21 = .ok (.bastore, 1) := by decide +kernel
theorem dX4_reach_22 : decode cX4_reach 22 = .ok (.iconst 1, 1) := by decide +kernel
theorem dX4_reach_23 : decode cX4_reach 23 = .ok (.ireturn, 1) := by decide +kernel
theorem dX4_findReached_0 : decode cX4_findReached 0 = .ok (.iconst 1, 1) := by decide +kernel
theorem dX4_findReached_1 : decode cX4_findReached 1 = .ok (.istore_n 1, 1) := by decide +kernel
theorem dX4_findReached_2 : decode cX4_findReached 2 = .ok (.iload_n 1, 1) := by decide +kernel
theorem dX4_findReached_3 : decode cX4_findReached 3 = .ok (.aload_n 0, 1) := by decide +kernel
theorem dX4_findReached_4 : decode cX4_findReached 4 = .ok (.getfield 99, 3) := by decide +kernel
theorem dX4_findReached_7 : decode cX4_findReached 7 = .ok (.if_icmp .gt 16, 3) := by decide +kernel
theorem dX4_findReached_10 : decode cX4_findReached 10 = .ok (.aload_n 0, 1) := by decide +kernel
theorem dX4_findReached_11 : decode cX4_findReached 11 = .ok (.getfield 51, 3) := by decide +kernel
theorem dX4_findReached_14 : decode cX4_findReached 14 = .ok (.iload_n 1, 1) := by decide +kernel
theorem dX4_findReached_15 : decode cX4_findReached 15 = .ok (.iconst 0, 1) := by decide +kernel
theorem dX4_findReached_16 : decode cX4_findReached 16 = .ok (.bastore, 1) := by decide +kernel
theorem dX4_findReached_17 : decode cX4_findReached 17 = .ok (.iinc 1 1, 3) := by decide +kernel
theorem dX4_findReached_20 : decode cX4_findReached 20 = .ok (.goto (-18), 3) := by decide +kernel
theorem dX4_findReached_23 : decode cX4_findReached 23 = .ok (.iconst 0, 1) := by decide +kernel
theorem dX4_findReached_24 : decode cX4_findReached 24 = .ok (.istore_n 1, 1) := by decide +kernel
theorem dX4_findReached_25 : decode cX4_findReached 25 = .ok (.iload_n 1, 1) := by decide +kernel
theorem dX4_findReached_26 : decode cX4_findReached 26 = .ok (.bipush 16, 2) := by decide +kernel
theorem dX4_findReached_28 : decode cX4_findReached 28 = .ok (.if_icmp .ge 20, 3) := by decide +kernel
theorem dX4_findReached_31 : decode cX4_findReached 31 = .ok (.aload_n 0, 1) := by decide +kernel
theorem dX4_findReached_32 : decode cX4_findReached 32 = .ok (.aload_n 0, 1) := by decide +kernel
theorem dX4_findReached_33 : decode cX4_findReached 33 = .ok (.getfield 7, 3) := by decide +kernel
theorem dX4_findReached_36 : decode cX4_findReached 36 = .ok (.iload_n 1, 1) := by decide +kernel
theorem dX4_findReached_37 : decode cX4_findReached 37 = .ok (.iaload, 1) := by decide +kernel
theorem dX4_findReached_38 : decode cX4_findReached 38 = .ok (.invokevirtual 102, 3) := by decide +kernel
theorem dX4_findReached_41 : decode cX4_findReached 41 = .ok (.pop, 1) := by decide +kernel
theorem dX4_findReached_42 : decode cX4_findReached 42 = .ok (.iinc 1 1, 3) := by decide +kernel
theorem dX4_findReached_45 : decode cX4_findReached 45 = .ok (.goto (-20), 3) := by decide +kernel
theorem dX4_findReached_48 : decode cX4_findReached 48 = .ok (.iconst 1, 1) := by decide +kernel
theorem dX4_findReached_49 : decode cX4_findReached 49 = .ok (.istore_n 1, 1) := by decide +kernel
theorem dX4_findReached_50 : decode cX4_findReached 50 = .ok (.iload_n 1, 1) := by decide +kernel
theorem dX4_findReached_51 : decode cX4_findReached 51 = .ok (.ifCond .eq 179, 3) := by decide +kernel
theorem dX4_findReached_54 : decode cX4_findReached 54 = .ok (.iconst 0, 1) := by decide +kernel
theorem dX4_findReached_55 : decode cX4_findReached 55 = .ok (.istore_n 1, 1) := by decide +kernel
theorem dX4_findReached_56 : decode cX4_findReached 56 = .ok (.iconst 1, 1) := by decide +kernel
theorem dX4_findReached_57 : decode cX4_findReached 57 = .ok (.istore_n 2, 1) := by decide +kernel
theorem dX4_findReached_58 : decode cX4_findReached 58 = .ok (.iload_n 2, 1) := by decide +kernel
theorem dX4_findReached_59 : decode cX4_findReached 59 = .ok (.aload_n 0, 1) := by decide +kernel
theorem dX4_findReached_60 : decode cX4_findReached 60 = .ok (.getfield 99, 3) := by decide +kernel
theorem dX4_findReached_63 : decode cX4_findReached 63 = .ok (.if_icmp .gt 76, 3) := by decide +kernel
theorem dX4_findReached_66 : decode cX4_findReached 66 = .ok (.iconst 0, 1) := by decide +kernel
theorem dX4_findReached_67 : decode cX4_findReached 67 = .ok (.istore_n 3, 1) := by decide +kernel
theorem dX4_findReached_68 : decode cX4_findReached 68 = .ok (.iload_n 3, 1) := by decide +kernel
theorem dX4_findReached_69 : decode cX4_findReached 69 = .ok (.aload_n 0, 1) := by decide +kernel
theorem dX4_findReached_70 : decode cX4_findReached 70 = .ok (.getfield 20, 3) := by decide +kernel
theorem dX4_findReached_73 : decode cX4_findReached 73 = .ok (.iload_n 2, 1) := by decide +kernel
theorem dX4_findReached_74 : decode cX4_findReached 74 = .ok (.iaload, 1) := by decide +kernel
theorem dX4_findReached_75 : decode cX4_findReached 75 = .ok (.if_icmp .ge 58, 3) := by decide +kernel
theorem dX4_findReached_78 : decode cX4_findReached 78 = .ok (.aload_n 0, 1) := by decide +kernel
theorem dX4_findReached_79 : decode cX4_findReached 79 = .ok (.getfield 51, 3) := by decide +kernel
theorem dX4_findReached_82 : decode cX4_findReached 82 = .ok (.iload_n 2, 1) := by decide +kernel
theorem dX4_findReached_83 : decode cX4_findReached 83 = .ok (.baload, 1) := by decide +kernel
theorem dX4_findReached_84 : decode cX4_findReached 84 = .ok (.ifCond .eq 49, 3) := by decide +kernel
theorem dX4_findReached_87 : decode cX4_findReached 87 = .ok (.aload_n 0, 1) := by decide +kernel
theorem dX4_findReached_88 : decode cX4_findReached 88 = .ok (.getfield 17, 3) := by decide +kernel
theorem dX4_findReached_91 : decode cX4_findReached 91 = .ok (.iload_n 2, 1) := by decide +kernel
theorem dX4_findReached_92 : decode cX4_findReached 92 = .ok (.iaload, 1) := by decide +kernel
theorem dX4_findReached_93 : decode cX4_findReached 93 = .ok (.iconst 2, 1) := by decide +kernel
theorem dX4_findReached_94 : decode cX4_findReached 94 = .ok (.if_icmp .ne 39, 3) := by decide +kernel
theorem dX4_findReached_97 : decode cX4_findReached 97 = .ok (.aload_n 0, 1) := by decide +kernel
theorem dX4_findReached_98 : decode cX4_findReached 98 = .ok (.aload_n 0, 1) := by decide +kernel
theorem dX4_findReached_99 : decode cX4_findReached 99 = .ok (.getfield 54, 3) := by decide +kernel
theorem dX4_findReached_102 : decode cX4_findReached 102 = .ok (.aload_n 0, 1) := by decide +kernel
theorem dX4_findReached_103 : decode cX4_findReached 103 = .ok (.getfield 23, 3) := by decide +kernel
theorem dX4_findReached_106 : decode cX4_findReached 106 = .ok (.iload_n 2, 1) := by decide +kernel
theorem dX4_findReached_107 : decode cX4_findReached 107 = .ok (.iaload, 1) := by decide +kernel
theorem dX4_findReached_108 : decode cX4_findReached 108 = .ok (.iload_n 3, 1) := by decide +kernel
theorem dX4_findReached_109 : decode cX4_findReached 109 = .ok (.iadd, 1) := by decide +kernel
theorem dX4_findReached_110 : decode cX4_findReached 110 = .ok (.iaload, 1) := by decide +kernel
theorem dX4_findReached_111 : decode cX4_findReached 111 = .ok (.invokevirtual 102, 3) := by decide +kernel
theorem dX4_findReached_114 : decode cX4_findReached 114 = .ok (.ifCond .ne 7, 3) := by decide +kernel
theorem dX4_findReached_117 : decode cX4_findReached 117 = .ok (.iload_n 1, 1) := by decide +kernel
theorem dX4_findReached_118 : decode cX4_findReached 118 = .ok (.ifCond .eq 7, 3) := by decide +kernel
theorem dX4_findReached_121 : decode cX4_findReached 121 = .ok (.iconst 1, 1) := by decide +kernel
theorem dX4_findReached_122 : decode cX4_findReached 122 = .ok (.goto 4, 3) := by decide +kernel
theorem dX4_findReached_125 : decode cX4_findReached 125 = .ok (.iconst 0, 1) := by decide +kernel
theorem dX4_findReached_126 : decode cX4_findReached 126 = .ok (.istore_n 1, 1) := by decide +kernel
theorem dX4_findReached_127 : decode cX4_findReached 127 = .ok (.iinc 3 1, 3) := by decide +kernel
theorem dX4_findReached_130 : decode cX4_findReached 130 = .ok (.goto (-62), 3) := by decide +kernel
theorem dX4_findReached_133 : decode cX4_findReached 133 = .ok (.iinc 2 1, 3) := by decide +kernel
theorem dX4_findReached_136 : decode cX4_findReached 136 = .ok (.goto (-78), 3) := by decide +kernel
theorem dX4_findReached_139 : decode cX4_findReached 139 = .ok (.iconst 0, 1) := by decide +kernel
theorem dX4_findReached_140 : decode cX4_findReached 140 = .ok (.istore_n 2, 1) := by decide +kernel
theorem dX4_findReached_141 : decode cX4_findReached 141 = .ok (.iload_n 2, 1) := by decide +kernel
theorem dX4_findReached_142 : decode cX4_findReached 142 = .ok (.aload_n 0, 1) := by decide +kernel
theorem dX4_findReached_143 : decode cX4_findReached 143 = .ok (.getfield 106, 3) := by decide +kernel
theorem dX4_findReached_146 : decode cX4_findReached 146 = .ok (.if_icmp .ge 81, 3) := by decide +kernel
theorem dX4_findReached_149 : decode cX4_findReached 149 = .ok (.aload_n 0, 1) := by decide +kernel
theorem dX4_findReached_150 : decode cX4_findReached 150 = .ok (.getfield 64, 3) := by decide +kernel
theorem dX4_findReached_153 : decode cX4_findReached 153 = .ok (.iload_n 2, 1) := by decide +kernel
theorem dX4_findReached_154 : decode cX4_findReached 154 = .ok (.iaload, 1) := by decide +kernel
theorem dX4_findReached_155 : decode cX4_findReached 155 = .ok (.istore_n 3, 1) := by decide +kernel
theorem dX4_findReached_156 : decode cX4_findReached 156 = .ok (.iconst 0, 1) := by decide +kernel
theorem dX4_findReached_157 : decode cX4_findReached 157 = .ok (.istore 4, 2) := by decide +kernel
theorem dX4_findReached_159 : decode cX4_findReached 159 = .ok (.iload 4, 2) := by decide +kernel
theorem dX4_findReached_161 : decode cX4_findReached 161 = .ok (.aload_n 0, 1) := by decide +kernel
theorem dX4_findReached_162 : decode cX4_findReached 162 = .ok (.getfield 26, 3) := by decide +kernel
theorem dX4_findReached_165 : decode cX4_findReached 165 = .ok (.iload_n 3, 1) := by decide +kernel
theorem dX4_findReached_166 : decode cX4_findReached 166 = .ok (.iaload, 1) := by decide +kernel
theorem dX4_findReached_167 : decode cX4_findReached 167 = .ok (.aload_n 0, 1) := by decide +kernel
theorem dX4_findReached_168 : decode cX4_findReached 168 = .ok (.getfield 29, 3) := by decide +kernel
theorem dX4_findReached_171 : decode cX4_findReached 171 = .ok (.iload_n 3, 1) := by decide +kernel
theorem dX4_findReached_172 : decode cX4_findReached 172 = .ok (.iaload, 1) := by decide +kernel
theorem dX4_findReached_173 : decode cX4_findReached 173 = .ok (.iadd, 1) := by decide +kernel
theorem dX4_findReached_174 : decode cX4_findReached 174 = .ok (.if_icmp .ge 47, 3) := by decide +kernel
theorem dX4_findReached_177 : decode cX4_findReached 177 = .ok (.aload_n 0, 1) := by decide +kernel
theorem dX4_findReached_178 : decode cX4_findReached 178 = .ok (.getfield 51, 3) := by decide +kernel
theorem dX4_findReached_181 : decode cX4_findReached 181 = .ok (.iload_n 3, 1) := by decide +kernel
theorem dX4_findReached_182 : decode cX4_findReached 182 = .ok (.baload, 1) := by decide +kernel
theorem dX4_findReached_183 : decode cX4_findReached 183 = .ok (.ifCond .eq 38, 3) := by decide +kernel
theorem dX4_findReached_186 : decode cX4_findReached 186 = .ok (.aload_n 0, 1) := by decide +kernel
theorem dX4_findReached_187 : decode cX4_findReached 187 = .ok (.aload_n 0, 1) := by decide +kernel
theorem dX4_findReached_188 : decode cX4_findReached 188 = .ok (.getfield 70, 3) := by decide +kernel
theorem dX4_findReached_191 : decode cX4_findReached 191 = .ok (.bipush 8, 2) := by decide +kernel
theorem dX4_findReached_193 : decode cX4_findReached 193 = .ok (.iload_n 2, 1) := by decide +kernel
theorem dX4_findReached_194 : decode cX4_findReached 194 = .ok (.imul, 1) := by decide +kernel
theorem dX4_findReached_195 : decode cX4_findReached 195 = .ok (.iload 4, 2) := by decide +kernel
theorem dX4_findReached_197 : decode cX4_findReached 197 = .ok (.iadd, 1) := by decide +kernel
theorem dX4_findReached_198 : decode cX4_findReached 198 = .ok (.iaload, 1) := by decide +kernel
theorem dX4_findReached_199 : decode cX4_findReached 199 = .ok (.invokevirtual 102, 3) := by decide +kernel
theorem dX4_findReached_202 : decode cX4_findReached 202 = .ok (.ifCond .ne 7, 3) := by decide +kernel
theorem dX4_findReached_205 : decode cX4_findReached 205 = .ok (.iload_n 1, 1) := by decide +kernel
theorem dX4_findReached_206 : decode cX4_findReached 206 = .ok (.ifCond .eq 7, 3) := by decide +kernel
theorem dX4_findReached_209 : decode cX4_findReached 209 = .ok (.iconst 1, 1) := by decide +kernel
theorem dX4_findReached_210 : decode cX4_findReached 210 = .ok (.goto 4, 3) := by decide +kernel
theorem dX4_findReached_213 : decode cX4_findReached 213 = .ok (.iconst 0, 1) := by decide +kernel
theorem dX4_findReached_214 : decode cX4_findReached 214 = .ok (.istore_n 1, 1) := by decide +kernel
theorem dX4_findReached_215 : decode cX4_findReached 215 = .ok (.iinc 4 1, 3) := by decide +kernel
theorem dX4_findReached_218 : decode cX4_findReached 218 = .ok (.goto (-59), 3) := by decide +kernel
theorem dX4_findReached_221 : decode cX4_findReached 221 = .ok (.iinc 2 1, 3) := by decide +kernel
theorem dX4_findReached_224 : decode cX4_findReached 224 = .ok (.goto (-83), 3) := by decide +kernel
theorem dX4_findReached_227 : decode cX4_findReached 227 = .ok (.goto (-177), 3) := by decide +kernel
theorem dX4_findReached_230 : decode cX4_findReached 230 = .ok (.return_, 1) := by decide +kernel
theorem dX4_push_0 : decode cX4_push 0 = .ok (.iconst 0, 1) := by decide +kernel
theorem dX4_push_1 : decode cX4_push 1 = .ok (.istore_n 1, 1) := by decide +kernel
theorem dX4_push_2 : decode cX4_push 2 = .ok (.iconst 0, 1) := by decide +kernel
theorem dX4_push_3 : decode cX4_push 3 = .ok (.istore_n 2, 1) := by decide +kernel
theorem dX4_push_4 : decode cX4_push 4 = .ok (.iconst 1, 1) := by decide +kernel
theorem dX4_push_5 : decode cX4_push 5 = .ok (.istore_n 3, 1) := by decide +kernel
theorem dX4_push_6 : decode cX4_push 6 = .ok (.iload_n 3, 1) := by decide +kernel
theorem dX4_push_7 : decode cX4_push 7 = .ok (.aload_n 0, 1) := by decide +kernel
theorem dX4_push_8 : decode cX4_push 8 = .ok (.getfield 99, 3) := by decide +kernel
theorem dX4_push_11 : decode cX4_push 11 = .ok (.if_icmp .gt 147, 3) := by decide +kernel
theorem dX4_push_14 : decode cX4_push 14 = .ok (.aload_n 0, 1) := by decide +kernel
theorem dX4_push_15 : decode cX4_push 15 = .ok (.getfield 44, 3) := by decide +kernel
theorem dX4_push_18 : decode cX4_push 18 = .ok (.iload_n 3, 1) := by decide +kernel
theorem dX4_push_19 : decode cX4_push 19 = .ok (.baload, 1) := by decide +kernel
theorem dX4_push_20 : decode cX4_push 20 = .ok (.ifCond .eq 132, 3) := by decide +kernel
theorem dX4_push_23 : decode cX4_push 23 = .ok (.aload_n 0, 1) := by decide +kernel
theorem dX4_push_24 : decode cX4_push 24 = .ok (.getfield 17, 3) := by decide +kernel
theorem dX4_push_27 : decode cX4_push 27 = .ok (.iload_n 3, 1) := by decide +kernel
theorem dX4_push_28 : decode cX4_push 28 = .ok (.iaload, 1) := by decide +kernel
theorem dX4_push_29 : decode cX4_push 29 = .ok (.iconst 4, 1) := by decide +kernel
theorem dX4_push_30 : decode cX4_push 30 = .ok (.if_icmp .ne 6, 3) := by decide +kernel
theorem dX4_push_33 : decode cX4_push 33 = .ok (.goto 119, 3) := by decide +kernel
theorem dX4_push_36 : decode cX4_push 36 = .ok (.aload_n 0, 1) := by decide +kernel
theorem dX4_push_37 : decode cX4_push 37 = .ok (.getfield 23, 3) := by decide +kernel
theorem dX4_push_40 : decode cX4_push 40 = .ok (.iload_n 3, 1) := by decide +kernel
theorem dX4_push_41 : decode cX4_push 41 = .ok (.iaload, 1) := by decide +kernel
theorem dX4_push_42 : decode cX4_push 42 = .ok (.istore 4, 2) := by decide +kernel
theorem dX4_push_44 : decode cX4_push 44 = .ok (.aload_n 0, 1) := by decide +kernel
theorem dX4_push_45 : decode cX4_push 45 = .ok (.getfield 23, 3) := by decide +kernel
theorem dX4_push_48 : decode cX4_push 48 = .ok (.iload_n 3, 1) := by decide +kernel
theorem dX4_push_49 : decode cX4_push 49 = .ok (.aload_n 0, 1) := by decide +kernel
theorem dX4_push_50 : decode cX4_push 50 = .ok (.getfield 17, 3) := by decide +kernel
theorem dX4_push_53 : decode cX4_push 53 = .ok (.iload_n 3, 1) := by decide +kernel
theorem dX4_push_54 : decode cX4_push 54 = .ok (.iaload, 1) := by decide +kernel
theorem dX4_push_55 : decode cX4_push 55 = .ok (.iconst 2, 1) := by decide +kernel
theorem dX4_push_56 : decode cX4_push 56 = .ok (.if_icmp .ne 7, 3) := by decide +kernel
theorem dX4_push_59 : decode cX4_push 59 = .ok (.iload_n 1, 1) := by decide +kernel
theorem dX4_push_60 : decode cX4_push 60 = .ok (.goto 4, 3) := by decide +kernel
theorem dX4_push_63 : decode cX4_push 63 = .ok (.iload_n 2, 1) := by decide +kernel
theorem dX4_push_64 : decode cX4_push 64 = .ok (.iastore, 1) := by decide +kernel
theorem dX4_push_65 : decode cX4_push 65 = .ok (.iconst 0, 1) := by decide +kernel
theorem dX4_push_66 : decode cX4_push 66 = .ok (.istore 5, 2) := by decide +kernel
theorem dX4_push_68 : decode cX4_push 68 = .ok (.iload 5, 2) := by decide +kernel
theorem dX4_push_70 : decode cX4_push 70 = .ok (.aload_n 0, 1) := by decide +kernel
theorem dX4_push_71 : decode cX4_push 71 = .ok (.getfield 20, 3) := by decide +kernel
theorem dX4_push_74 : decode cX4_push 74 = .ok (.iload_n 3, 1) := by decide +kernel
theorem dX4_push_75 : decode cX4_push 75 = .ok (.iaload, 1) := by decide +kernel
theorem dX4_push_76 : decode cX4_push 76 = .ok (.if_icmp .ge 76, 3) := by decide +kernel
theorem dX4_push_79 : decode cX4_push 79 = .ok (.aload_n 0, 1) := by decide +kernel
theorem dX4_push_80 : decode cX4_push 80 = .ok (.getfield 17, 3) := by decide +kernel
theorem dX4_push_83 : decode cX4_push 83 = .ok (.iload_n 3, 1) := by decide +kernel
theorem dX4_push_84 : decode cX4_push 84 = .ok (.iaload, 1) := by decide +kernel
theorem dX4_push_85 : decode cX4_push 85 = .ok (.iconst 2, 1) := by decide +kernel
theorem dX4_push_86 : decode cX4_push 86 = .ok (.if_icmp .ne 41, 3) := by decide +kernel
theorem dX4_push_89 : decode cX4_push 89 = .ok (.aload_n 0, 1) := by decide +kernel
theorem dX4_push_90 : decode cX4_push 90 = .ok (.getfield 54, 3) := by decide +kernel
theorem dX4_push_93 : decode cX4_push 93 = .ok (.iload_n 1, 1) := by decide +kernel
theorem dX4_push_94 : decode cX4_push 94 = .ok (.aload_n 0, 1) := by decide +kernel
theorem dX4_push_95 : decode cX4_push 95 = .ok (.getfield 54, 3) := by decide +kernel
theorem dX4_push_98 : decode cX4_push 98 = .ok (.iload 4, 2) := by decide +kernel
theorem dX4_push_100 : decode cX4_push 100 = .ok (.iload 5, 2) := by decide +kernel
theorem dX4_push_102 : decode cX4_push 102 = .ok (.iadd, 1) := by decide +kernel
theorem dX4_push_103 : decode cX4_push 103 = .ok (.iaload, 1) := by decide +kernel
theorem dX4_push_104 : decode cX4_push 104 = .ok (.iastore, 1) := by decide +kernel
theorem dX4_push_105 : decode cX4_push 105 = .ok (.aload_n 0, 1) := by decide +kernel
theorem dX4_push_106 : decode cX4_push 106 = .ok (.getfield 57, 3) := by decide +kernel
theorem dX4_push_109 : decode cX4_push 109 = .ok (.iload_n 1, 1) := by decide +kernel
theorem dX4_push_110 : decode cX4_push 110 = .ok (.aload_n 0, 1) := by decide +kernel
theorem dX4_push_111 : decode cX4_push 111 = .ok (.getfield 57, 3) := by decide +kernel
theorem dX4_push_114 : decode cX4_push 114 = .ok (.iload 4, 2) := by decide +kernel
theorem dX4_push_116 : decode cX4_push 116 = .ok (.iload 5, 2) := by decide +kernel
theorem dX4_push_118 : decode cX4_push 118 = .ok (.iadd, 1) := by decide +kernel
theorem dX4_push_119 : decode cX4_push 119 = .ok (.laload, 1) := by decide +kernel
theorem dX4_push_120 : decode cX4_push 120 = .ok (.lastore, 1) := by decide +kernel
theorem dX4_push_121 : decode cX4_push 121 = .ok (.iinc 1 1, 3) := by decide +kernel
theorem dX4_push_124 : decode cX4_push 124 = .ok (.goto 22, 3) := by decide +kernel
theorem dX4_push_127 : decode cX4_push 127 = .ok (.aload_n 0, 1) := by decide +kernel
theorem dX4_push_128 : decode cX4_push 128 = .ok (.getfield 60, 3) := by decide +kernel
theorem dX4_push_131 : decode cX4_push 131 = .ok (.iload_n 2, 1) := by decide +kernel
theorem dX4_push_132 : decode cX4_push 132 = .ok (.aload_n 0, 1) := by decide +kernel
theorem dX4_push_133 : decode cX4_push 133 = .ok (.getfield 60, 3) := by decide +kernel
theorem dX4_push_136 : decode cX4_push 136 = .ok (.iload 4, 2) := by decide +kernel
theorem dX4_push_138 : decode cX4_push 138 = .ok (.iload 5, 2) := by decide +kernel
theorem dX4_push_140 : decode cX4_push 140 = .ok (.iadd, 1) := by decide +kernel
theorem dX4_push_141 : decode cX4_push 141 = .ok (.baload, 1) := by decide +kernel
theorem dX4_push_142 : decode cX4_push 142 = .ok (.bastore, 1) := by decide +kernel
theorem dX4_push_143 : decode cX4_push 143 = .ok (.iinc 2 1, 3) := by decide +kernel
theorem dX4_push_146 : decode cX4_push 146 = .ok (.iinc 5 1, 3) := by decide +kernel
theorem dX4_push_149 : decode cX4_push 149 = .ok (.goto (-81), 3) := by decide +kernel
theorem dX4_push_152 : decode cX4_push 152 = .ok (.iinc 3 1, 3) := by decide +kernel
theorem dX4_push_155 : decode cX4_push 155 = .ok (.goto (-149), 3) := by decide +kernel
theorem dX4_push_158 : decode cX4_push 158 = .ok (.aload_n 0, 1) := by decide +kernel
theorem dX4_push_159 : decode cX4_push 159 = .ok (.iload_n 1, 1) := by decide +kernel
theorem dX4_push_160 : decode cX4_push 160 = .ok (.putfield 109, 3) := by decide +kernel
theorem dX4_push_163 : decode cX4_push 163 = .ok (.aload_n 0, 1) := by decide +kernel
theorem dX4_push_164 : decode cX4_push 164 = .ok (.iload_n 2, 1) := by decide +kernel
theorem dX4_push_165 : decode cX4_push 165 = .ok (.putfield 112, 3) := by decide +kernel
theorem dX4_push_168 : decode cX4_push 168 = .ok (.iconst 0, 1) := by decide +kernel
theorem dX4_push_169 : decode cX4_push 169 = .ok (.istore_n 3, 1) := by decide +kernel
theorem dX4_push_170 : decode cX4_push 170 = .ok (.iconst 0, 1) := by decide +kernel
theorem dX4_push_171 : decode cX4_push 171 = .ok (.istore 4, 2) := by decide +kernel
theorem dX4_push_173 : decode cX4_push 173 = .ok (.iload 4, 2) := by decide +kernel
theorem dX4_push_175 : decode cX4_push 175 = .ok (.aload_n 0, 1) := by decide +kernel
theorem dX4_push_176 : decode cX4_push 176 = .ok (.getfield 106, 3) := by decide +kernel
theorem dX4_push_179 : decode cX4_push 179 = .ok (.if_icmp .ge 37, 3) := by decide +kernel
theorem dX4_push_182 : decode cX4_push 182 = .ok (.aload_n 0, 1) := by decide +kernel
theorem dX4_push_183 : decode cX4_push 183 = .ok (.getfield 44, 3) := by decide +kernel
theorem dX4_push_186 : decode cX4_push 186 = .ok (.aload_n 0, 1) := by decide +kernel
theorem dX4_push_187 : decode cX4_push 187 = .ok (.getfield 64, 3) := by decide +kernel
theorem dX4_push_190 : decode cX4_push 190 = .ok (.iload 4, 2) := by decide +kernel
theorem dX4_push_192 : decode cX4_push 192 = .ok (.iaload, 1) := by decide +kernel
theorem dX4_push_193 : decode cX4_push 193 = .ok (.baload, 1) := by decide +kernel
theorem dX4_push_194 : decode cX4_push 194 = .ok (.ifCond .ne 6, 3) := by decide +kernel
theorem dX4_push_197 : decode cX4_push 197 = .ok (.goto 13, 3) := by decide +kernel
theorem dX4_push_200 : decode cX4_push 200 = .ok (.aload_n 0, 1) := by decide +kernel
theorem dX4_push_201 : decode cX4_push 201 = .ok (.iload 4, 2) := by decide +kernel
theorem dX4_push_203 : decode cX4_push 203 = .ok (.iload_n 3, 1) := by decide +kernel
theorem dX4_push_204 : decode cX4_push 204 = .ok (.invokevirtual 115, 3) := by decide +kernel
theorem dX4_push_207 : decode cX4_push 207 = .ok (.iinc 3 1, 3) := by decide +kernel
theorem dX4_push_210 : decode cX4_push 210 = .ok (.iinc 4 1, 3) := by decide +kernel
theorem dX4_push_213 : decode cX4_push 213 = .ok (.goto (-40), 3) := by decide +kernel
theorem dX4_push_216 : decode cX4_push 216 = .ok (.aload_n 0, 1) := by decide +kernel
theorem dX4_push_217 : decode cX4_push 217 = .ok (.iload_n 3, 1) := by decide +kernel
theorem dX4_push_218 : decode cX4_push 218 = .ok (.putfield 106, 3) := by decide +kernel
theorem dX4_push_221 : decode cX4_push 221 = .ok (.return_, 1) := by decide +kernel
theorem dX4_moveEntry_0 : decode cX4_moveEntry 0 = .ok (.aload_n 0, 1) := by decide +kernel
theorem dX4_moveEntry_1 : decode cX4_moveEntry 1 = .ok (.getfield 64, 3) := by decide +kernel
theorem dX4_moveEntry_4 : decode cX4_moveEntry 4 = .ok (.iload_n 2, 1) := by decide +kernel
theorem dX4_moveEntry_5 : decode cX4_moveEntry 5 = .ok (.aload_n 0, 1) := by decide +kernel
theorem dX4_moveEntry_6 : decode cX4_moveEntry 6 = .ok (.getfield 64, 3) := by decide +kernel
theorem dX4_moveEntry_9 : decode cX4_moveEntry 9 = .ok (.iload_n 1, 1) := by decide +kernel
theorem dX4_moveEntry_10 : decode cX4_moveEntry 10 = .ok (.iaload, 1) := by decide +kernel
theorem dX4_moveEntry_11 : decode cX4_moveEntry 11 = .ok (.iastore, 1) := by decide +kernel
theorem dX4_moveEntry_12 : decode cX4_moveEntry 12 = .ok (.aload_n 0, 1) := by decide +kernel
theorem dX4_moveEntry_13 : decode cX4_moveEntry 13 = .ok (.getfield 67, 3) := by decide +kernel
theorem dX4_moveEntry_16 : decode cX4_moveEntry 16 = .ok (.iload_n 2, 1) := by decide +kernel
theorem dX4_moveEntry_17 : decode cX4_moveEntry 17 = .ok (.aload_n 0, 1) := by decide +kernel
theorem dX4_moveEntry_18 : decode cX4_moveEntry 18 = .ok (.getfield 67, 3) := by decide +kernel
theorem dX4_moveEntry_21 : decode cX4_moveEntry 21 = .ok (.iload_n 1, 1) := by decide +kernel
theorem dX4_moveEntry_22 : decode cX4_moveEntry 22 = .ok (.iaload, 1) := by decide +kernel
theorem dX4_moveEntry_23 : decode cX4_moveEntry 23 = .ok (.iastore, 1) := by decide +kernel
theorem dX4_moveEntry_24 : decode cX4_moveEntry 24 = .ok (.iconst 0, 1) := by decide +kernel
theorem dX4_moveEntry_25 : decode cX4_moveEntry 25 = .ok (.istore_n 3, 1) := by decide +kernel
theorem dX4_moveEntry_26 : decode cX4_moveEntry 26 = .ok (.iload_n 3, 1) := by decide +kernel
theorem dX4_moveEntry_27 : decode cX4_moveEntry 27 = .ok (.bipush 8, 2) := by decide +kernel
theorem dX4_moveEntry_29 : decode cX4_moveEntry 29 = .ok (.if_icmp .ge 53, 3) := by decide +kernel
theorem dX4_moveEntry_32 : decode cX4_moveEntry 32 = .ok (.aload_n 0, 1) := by decide +kernel
theorem dX4_moveEntry_33 : decode cX4_moveEntry 33 = .ok (.getfield 70, 3) := by decide +kernel
theorem dX4_moveEntry_36 : decode cX4_moveEntry 36 = .ok (.bipush 8, 2) := by decide +kernel
theorem dX4_moveEntry_38 : decode cX4_moveEntry 38 = .ok (.iload_n 2, 1) := by decide +kernel
theorem dX4_moveEntry_39 : decode cX4_moveEntry 39 = .ok (.imul, 1) := by decide +kernel
theorem dX4_moveEntry_40 : decode cX4_moveEntry 40 = .ok (.iload_n 3, 1) := by decide +kernel
theorem dX4_moveEntry_41 : decode cX4_moveEntry 41 = .ok (.iadd, 1) := by decide +kernel
theorem dX4_moveEntry_42 : decode cX4_moveEntry 42 = .ok (.aload_n 0, 1) := by decide +kernel
theorem dX4_moveEntry_43 : decode cX4_moveEntry 43 = .ok (.getfield 70, 3) := by decide +kernel
theorem dX4_moveEntry_46 : decode cX4_moveEntry 46 = .ok (.bipush 8, 2) := by decide +kernel
theorem dX4_moveEntry_48 : decode cX4_moveEntry 48 = .ok (.iload_n 1, 1) := by decide +kernel
theorem dX4_moveEntry_49 : decode cX4_moveEntry 49 = .ok (.imul, 1) := by decide +kernel
theorem dX4_moveEntry_50 : decode cX4_moveEntry 50 = .ok (.iload_n 3, 1) := by decide +kernel
theorem dX4_moveEntry_51 : decode cX4_moveEntry 51 = .ok (.iadd, 1) := by decide +kernel
theorem dX4_moveEntry_52 : decode cX4_moveEntry 52 = .ok (.iaload, 1) := by decide +kernel
theorem dX4_moveEntry_53 : decode cX4_moveEntry 53 = .ok (.iastore, 1) := by decide +kernel
theorem dX4_moveEntry_54 : decode cX4_moveEntry 54 = .ok (.aload_n 0, 1) := by decide +kernel
theorem dX4_moveEntry_55 : decode cX4_moveEntry 55 = .ok (.getfield 73, 3) := by decide +kernel
theorem dX4_moveEntry_58 : decode cX4_moveEntry 58 = .ok (.bipush 8, 2) := by decide +kernel
theorem dX4_moveEntry_60 : decode cX4_moveEntry 60 = .ok (.iload_n 2, 1) := by decide +kernel
theorem dX4_moveEntry_61 : decode cX4_moveEntry 61 = .ok (.imul, 1) := by decide +kernel
theorem dX4_moveEntry_62 : decode cX4_moveEntry 62 = .ok (.iload_n 3, 1) := by decide +kernel
theorem dX4_moveEntry_63 : decode cX4_moveEntry 63 = .ok (.iadd, 1) := by decide +kernel
theorem dX4_moveEntry_64 : decode cX4_moveEntry 64 = .ok (.aload_n 0, 1) := by decide +kernel
theorem dX4_moveEntry_65 : decode cX4_moveEntry 65 = .ok (.getfield 73, 3) := by decide +kernel
theorem dX4_moveEntry_68 : decode cX4_moveEntry 68 = .ok (.bipush 8, 2) := by decide +kernel
theorem dX4_moveEntry_70 : decode cX4_moveEntry 70 = .ok (.iload_n 1, 1) := by decide +kernel
theorem dX4_moveEntry_71 : decode cX4_moveEntry 71 = .ok (.imul, 1) := by decide +kernel
theorem dX4_moveEntry_72 : decode cX4_moveEntry 72 = .ok (.iload_n 3, 1) := by decide +kernel
theorem dX4_moveEntry_73 : decode cX4_moveEntry 73 = .ok (.iadd, 1) := by decide +kernel
theorem dX4_moveEntry_74 : decode cX4_moveEntry 74 = .ok (.laload, 1) := by decide +kernel
theorem dX4_moveEntry_75 : decode cX4_moveEntry 75 = .ok (.lastore, 1) := by decide +kernel
theorem dX4_moveEntry_76 : decode cX4_moveEntry 76 = .ok (.iinc 3 1, 3) := by decide +kernel
theorem dX4_moveEntry_79 : decode cX4_moveEntry 79 = .ok (.goto (-53), 3) := by decide +kernel
theorem dX4_moveEntry_82 : decode cX4_moveEntry 82 = .ok (.return_, 1) := by decide +kernel
theorem dX4_collect_0 : decode cX4_collect 0 = .ok (.aload_n 0, 1) := by decide +kernel
theorem dX4_collect_1 : decode cX4_collect 1 = .ok (.iconst 0, 1) := by decide +kernel
theorem dX4_collect_2 : decode cX4_collect 2 = .ok (.putfield 85, 3) := by decide +kernel
theorem dX4_collect_5 : decode cX4_collect 5 = .ok (.aload_n 0, 1) := by decide +kernel
theorem dX4_collect_6 : decode cX4_collect 6 = .ok (.invokevirtual 119, 3) := by decide +kernel
theorem dX4_collect_9 : decode cX4_collect 9 = .ok (.aload_n 0, 1) := by decide +kernel
theorem dX4_collect_10 : decode cX4_collect 10 = .ok (.getfield 122, 3) := by decide +kernel
theorem dX4_collect_13 : decode cX4_collect 13 = .ok (.lstore_n 1, 1) := by decide +kernel
theorem dX4_collect_14 : decode cX4_collect 14 = .ok (.iconst 1, 1) := by decide +kernel
theorem dX4_collect_15 : decode cX4_collect 15 = .ok (.istore_n 3, 1) := by decide +kernel
theorem dX4_collect_16 : decode cX4_collect 16 = .ok (.iload_n 3, 1) := by decide +kernel
theorem dX4_collect_17 : decode cX4_collect 17 = .ok (.aload_n 0, 1) := by decide +kernel
theorem dX4_collect_18 : decode cX4_collect 18 = .ok (.getfield 99, 3) := by decide +kernel
theorem dX4_collect_21 : decode cX4_collect 21 = .ok (.if_icmp .gt 42, 3) := by decide +kernel
theorem dX4_collect_24 : decode cX4_collect 24 = .ok (.aload_n 0, 1) := by decide +kernel
theorem dX4_collect_25 : decode cX4_collect 25 = .ok (.getfield 44, 3) := by decide +kernel
theorem dX4_collect_28 : decode cX4_collect 28 = .ok (.iload_n 3, 1) := by decide +kernel
theorem dX4_collect_29 : decode cX4_collect 29 = .ok (.baload, 1) := by decide +kernel
theorem dX4_collect_30 : decode cX4_collect 30 = .ok (.ifCond .eq 27, 3) := by decide +kernel
theorem dX4_collect_33 : decode cX4_collect 33 = .ok (.aload_n 0, 1) := by decide +kernel
theorem dX4_collect_34 : decode cX4_collect 34 = .ok (.getfield 51, 3) := by decide +kernel
theorem dX4_collect_37 : decode cX4_collect 37 = .ok (.iload_n 3, 1) := by decide +kernel
theorem dX4_collect_38 : decode cX4_collect 38 = .ok (.baload, 1) := by decide +kernel
theorem dX4_collect_39 : decode cX4_collect 39 = .ok (.ifCond .ne 18, 3) := by decide +kernel
theorem dX4_collect_42 : decode cX4_collect 42 = .ok (.lload_n 1, 1) := by decide +kernel
theorem dX4_collect_43 : decode cX4_collect 43 = .ok (.aload_n 0, 1) := by decide +kernel
theorem dX4_collect_44 : decode cX4_collect 44 = .ok (.iload_n 3, 1) := by decide +kernel
theorem dX4_collect_45 : decode cX4_collect 45 = .ok (.invokevirtual 125, 3) := by decide +kernel
theorem dX4_collect_48 : decode cX4_collect 48 = .ok (.ladd, 1) := by decide +kernel
theorem dX4_collect_49 : decode cX4_collect 49 = .ok (.lstore_n 1, 1) := by decide +kernel
theorem dX4_collect_50 : decode cX4_collect 50 = .ok (.aload_n 0, 1) := by decide +kernel
theorem dX4_collect_51 : decode cX4_collect 51 = .ok (.getfield 44, 3) := by decide +kernel
theorem dX4_collect_54 : decode cX4_collect 54 = .ok (.iload_n 3, 1) := by decide +kernel
theorem dX4_collect_55 : decode cX4_collect 55 = .ok (.iconst 0, 1) := by decide +kernel
theorem dX4_collect_56 : decode cX4_collect 56 = .ok (.bastore, 1) := by decide +kernel
theorem dX4_collect_57 : decode cX4_collect 57 = .ok (.iinc 3 1, 3) := by decide +kernel
theorem dX4_collect_60 : decode cX4_collect 60 = .ok (.goto (-44), 3) := by decide +kernel
theorem dX4_collect_63 : decode cX4_collect 63 = .ok (.aload_n 0, 1) := by decide +kernel
theorem dX4_collect_64 : decode cX4_collect 64 = .ok (.invokevirtual 129, 3) := by decide +kernel
theorem dX4_collect_67 : decode cX4_collect 67 = .ok (.aload_n 0, 1) := by decide +kernel
theorem dX4_collect_68 : decode cX4_collect 68 = .ok (.lconst 0, 1) := by decide +kernel
theorem dX4_collect_69 : decode cX4_collect 69 = .ok (.putfield 122, 3) := by decide +kernel
theorem dX4_collect_72 : decode cX4_collect 72 = .ok (.aload_n 0, 1) := by decide +kernel
theorem dX4_collect_73 : decode cX4_collect 73 = .ok (.dup, 1) := by decide +kernel
theorem dX4_collect_74 : decode cX4_collect 74 = .ok (.getfield 132, 3) := by decide +kernel
theorem dX4_collect_77 : decode cX4_collect 77 = .ok (.lload_n 1, 1) := by decide +kernel
theorem dX4_collect_78 : decode cX4_collect 78 = .ok (.lsub, 1) := by decide +kernel
theorem dX4_collect_79 : decode cX4_collect 79 = .ok (.putfield 132, 3) := by decide +kernel
theorem dX4_collect_82 : decode cX4_collect 82 = .ok (.aload_n 0, 1) := by decide +kernel
theorem dX4_collect_83 : decode cX4_collect 83 = .ok (.dup, 1) := by decide +kernel
theorem dX4_collect_84 : decode cX4_collect 84 = .ok (.getfield 135, 3) := by decide +kernel
theorem dX4_collect_87 : decode cX4_collect 87 = .ok (.lload_n 1, 1) := by decide +kernel
theorem dX4_collect_88 : decode cX4_collect 88 = .ok (.ladd, 1) := by decide +kernel
theorem dX4_collect_89 : decode cX4_collect 89 = .ok (.putfield 135, 3) := by decide +kernel
theorem dX4_collect_92 : decode cX4_collect 92 = .ok (.aload_n 0, 1) := by decide +kernel
theorem dX4_collect_93 : decode cX4_collect 93 = .ok (.dup, 1) := by decide +kernel
theorem dX4_collect_94 : decode cX4_collect 94 = .ok (.getfield 138, 3) := by decide +kernel
theorem dX4_collect_97 : decode cX4_collect 97 = .ok (.iconst 1, 1) := by decide +kernel
theorem dX4_collect_98 : decode cX4_collect 98 = .ok (.iadd, 1) := by decide +kernel
theorem dX4_collect_99 : decode cX4_collect 99 = .ok (.putfield 138, 3) := by decide +kernel
theorem dX4_collect_102 : decode cX4_collect 102 = .ok (.lload_n 1, 1) := by decide +kernel
theorem dX4_collect_103 : decode cX4_collect 103 = .ok (.l2i, 1) := by decide +kernel
theorem dX4_collect_104 : decode cX4_collect 104 = .ok (.ireturn, 1) := by decide +kernel
theorem dX4_hasRoom_0 : decode cX4_hasRoom 0 = .ok (.aload_n 0, 1) := by decide +kernel
theorem dX4_hasRoom_1 : decode cX4_hasRoom 1 = .ok (.getfield 141, 3) := by decide +kernel
theorem dX4_hasRoom_4 : decode cX4_hasRoom 4 = .ok (.ifCond .ne 17, 3) := by decide +kernel
theorem dX4_hasRoom_7 : decode cX4_hasRoom 7 = .ok (.aload_n 0, 1) := by decide +kernel
theorem dX4_hasRoom_8 : decode cX4_hasRoom 8 = .ok (.getfield 132, 3) := by decide +kernel
theorem dX4_hasRoom_11 : decode cX4_hasRoom 11 = .ok (.lload_n 1, 1) := by decide +kernel
theorem dX4_hasRoom_12 : decode cX4_hasRoom 12 = .ok (.ladd, 1) := by decide +kernel
theorem dX4_hasRoom_13 : decode cX4_hasRoom 13 = .ok (.aload_n 0, 1) := by decide +kernel
theorem dX4_hasRoom_14 : decode cX4_hasRoom 14 = .ok (.getfield 81, 3) := by decide +kernel
theorem dX4_hasRoom_17 : decode cX4_hasRoom 17 = .ok (.lcmp, 1) := by decide +kernel
theorem dX4_hasRoom_18 : decode cX4_hasRoom 18 = .ok (.ifCond .le 8, 3) := by decide +kernel
theorem dX4_hasRoom_21 : decode cX4_hasRoom 21 = .ok (.aload_n 0, 1) := by decide +kernel
theorem dX4_hasRoom_22 : decode cX4_hasRoom 22 = .ok (.invokevirtual 145, 3) := by decide +kernel
theorem dX4_hasRoom_25 : decode cX4_hasRoom 25 = .ok (.pop, 1) := by decide +kernel
theorem dX4_hasRoom_26 : decode cX4_hasRoom 26 = .ok (.aload_n 0, 1) := by decide +kernel
theorem dX4_hasRoom_27 : decode cX4_hasRoom 27 = .ok (.getfield 132, 3) := by decide +kernel
theorem dX4_hasRoom_30 : decode cX4_hasRoom 30 = .ok (.lload_n 1, 1) := by decide +kernel
theorem dX4_hasRoom_31 : decode cX4_hasRoom 31 = .ok (.ladd, 1) := by decide +kernel
theorem dX4_hasRoom_32 : decode cX4_hasRoom 32 = .ok (.aload_n 0, 1) := by decide +kernel
theorem dX4_hasRoom_33 : decode cX4_hasRoom 33 = .ok (.getfield 81, 3) := by decide +kernel
theorem dX4_hasRoom_36 : decode cX4_hasRoom 36 = .ok (.lcmp, 1) := by decide +kernel
theorem dX4_hasRoom_37 : decode cX4_hasRoom 37 = .ok (.ifCond .le 5, 3) := by decide +kernel
theorem dX4_hasRoom_40 : decode cX4_hasRoom 40 = .ok (.iconst 0, 1) := by decide +kernel
theorem dX4_hasRoom_41 : decode cX4_hasRoom 41 = .ok (.ireturn, 1) := by decide +kernel
theorem dX4_hasRoom_42 : decode cX4_hasRoom 42 = .ok (.aload_n 0, 1) := by decide +kernel
theorem dX4_hasRoom_43 : decode cX4_hasRoom 43 = .ok (.dup, 1) := by decide +kernel
theorem dX4_hasRoom_44 : decode cX4_hasRoom 44 = .ok (.getfield 132, 3) := by decide +kernel
theorem dX4_hasRoom_47 : decode cX4_hasRoom 47 = .ok (.lload_n 1, 1) := by decide +kernel
theorem dX4_hasRoom_48 : decode cX4_hasRoom 48 = .ok (.ladd, 1) := by decide +kernel
theorem dX4_hasRoom_49 : decode cX4_hasRoom 49 = .ok (.putfield 132, 3) := by decide +kernel
theorem dX4_hasRoom_52 : decode cX4_hasRoom 52 = .ok (.iconst 1, 1) := by decide +kernel
theorem dX4_hasRoom_53 : decode cX4_hasRoom 53 = .ok (.ireturn, 1) := by decide +kernel
theorem dX4_begin_0 : decode cX4_begin 0 = .ok (.aload_n 0, 1) := by decide +kernel
theorem dX4_begin_1 : decode cX4_begin 1 = .ok (.dup, 1) := by decide +kernel
theorem dX4_begin_2 : decode cX4_begin 2 = .ok (.getfield 99, 3) := by decide +kernel
theorem dX4_begin_5 : decode cX4_begin 5 = .ok (.iconst 1, 1) := by decide +kernel
theorem dX4_begin_6 : decode cX4_begin 6 = .ok (.iadd, 1) := by decide +kernel
theorem dX4_begin_7 : decode cX4_begin 7 = .ok (.putfield 99, 3) := by decide +kernel
theorem dX4_begin_10 : decode cX4_begin 10 = .ok (.aload_n 0, 1) := by decide +kernel
theorem dX4_begin_11 : decode cX4_begin 11 = .ok (.getfield 99, 3) := by decide +kernel
theorem dX4_begin_14 : decode cX4_begin 14 = .ok (.aload_n 0, 1) := by decide +kernel
theorem dX4_begin_15 : decode cX4_begin 15 = .ok (.getfield 17, 3) := by decide +kernel
theorem dX4_begin_18 : decode cX4_begin 18 = .ok (.arraylength, 1) := by decide +kernel
theorem dX4_begin_19 : decode cX4_begin 19 = .ok (.if_icmp .ne 135, 3) := by decide +kernel
theorem dX4_begin_22 : decode cX4_begin 22 = .ok (.aload_n 0, 1) := by decide +kernel
theorem dX4_begin_23 : decode cX4_begin 23 = .ok (.aload_n 0, 1) := by decide +kernel
theorem dX4_begin_24 : decode cX4_begin 24 = .ok (.getfield 17, 3) := by decide +kernel
theorem dX4_begin_27 : decode cX4_begin 27 = .ok (.invokestatic 149, 3) := by decide +kernel
theorem dX4_begin_30 : decode cX4_begin 30 = .ok (.putfield 17, 3) := by decide +kernel
theorem dX4_begin_33 : decode cX4_begin 33 = .ok (.aload_n 0, 1) := by decide +kernel
theorem dX4_begin_34 : decode cX4_begin 34 = .ok (.aload_n 0, 1) := by decide +kernel
theorem dX4_begin_35 : decode cX4_begin 35 = .ok (.getfield 20, 3) := by decide +kernel
theorem dX4_begin_38 : decode cX4_begin 38 = .ok (.invokestatic 149, 3) := by decide +kernel
theorem dX4_begin_41 : decode cX4_begin 41 = .ok (.putfield 20, 3) := by decide +kernel
theorem dX4_begin_44 : decode cX4_begin 44 = .ok (.aload_n 0, 1) := by decide +kernel
theorem dX4_begin_45 : decode cX4_begin 45 = .ok (.aload_n 0, 1) := by decide +kernel
theorem dX4_begin_46 : decode cX4_begin 46 = .ok (.getfield 23, 3) := by decide +kernel
theorem dX4_begin_49 : decode cX4_begin 49 = .ok (.invokestatic 149, 3) := by decide +kernel
theorem dX4_begin_52 : decode cX4_begin 52 = .ok (.putfield 23, 3) := by decide +kernel
theorem dX4_begin_55 : decode cX4_begin 55 = .ok (.aload_n 0, 1) := by decide +kernel
theorem dX4_begin_56 : decode cX4_begin 56 = .ok (.aload_n 0, 1) := by decide +kernel
theorem dX4_begin_57 : decode cX4_begin 57 = .ok (.getfield 26, 3) := by decide +kernel
theorem dX4_begin_60 : decode cX4_begin 60 = .ok (.invokestatic 149, 3) := by decide +kernel
theorem dX4_begin_63 : decode cX4_begin 63 = .ok (.putfield 26, 3) := by decide +kernel
theorem dX4_begin_66 : decode cX4_begin 66 = .ok (.aload_n 0, 1) := by decide +kernel
theorem dX4_begin_67 : decode cX4_begin 67 = .ok (.aload_n 0, 1) := by decide +kernel
theorem dX4_begin_68 : decode cX4_begin 68 = .ok (.getfield 29, 3) := by decide +kernel
theorem dX4_begin_71 : decode cX4_begin 71 = .ok (.invokestatic 149, 3) := by decide +kernel
theorem dX4_begin_74 : decode cX4_begin 74 = .ok (.putfield 29, 3) := by decide +kernel
theorem dX4_begin_77 : decode cX4_begin 77 = .ok (.aload_n 0, 1) := by decide +kernel
theorem dX4_begin_78 : decode cX4_begin 78 = .ok (.aload_n 0, 1) := by decide +kernel
theorem dX4_begin_79 : decode cX4_begin 79 = .ok (.getfield 32, 3) := by decide +kernel
theorem dX4_begin_82 : decode cX4_begin 82 = .ok (.invokestatic 149, 3) := by decide +kernel
theorem dX4_begin_85 : decode cX4_begin 85 = .ok (.putfield 32, 3) := by decide +kernel
theorem dX4_begin_88 : decode cX4_begin 88 = .ok (.aload_n 0, 1) := by decide +kernel
theorem dX4_begin_89 : decode cX4_begin 89 = .ok (.aload_n 0, 1) := by decide +kernel
theorem dX4_begin_90 : decode cX4_begin 90 = .ok (.getfield 35, 3) := by decide +kernel
theorem dX4_begin_93 : decode cX4_begin 93 = .ok (.invokestatic 149, 3) := by decide +kernel
theorem dX4_begin_96 : decode cX4_begin 96 = .ok (.putfield 35, 3) := by decide +kernel
theorem dX4_begin_99 : decode cX4_begin 99 = .ok (.aload_n 0, 1) := by decide +kernel
theorem dX4_begin_100 : decode cX4_begin 100 = .ok (.aload_n 0, 1) := by decide +kernel
