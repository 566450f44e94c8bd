theorem dX4_put_4 : decode cX4_put 4 = .ok (.iconst 1, 1) := by decide +kernel
theorem dX4_put_5 : decode cX4_put 5 = .ok (.invokevirtual 226, 3) := by decide +kernel
theorem dX4_put_8 : decode cX4_put 8 = .ok (.putfield 85, 3) := by decide +kernel
theorem dX4_put_11 : decode cX4_put 11 = .ok (.aload_n 0, 1) := by decide +kernel
theorem dX4_put_12 : decode cX4_put 12 = .ok (.getfield 85, 3) := by decide +kernel
theorem dX4_put_15 : decode cX4_put 15 = .ok (.ifCond .le 5, 3) := by decide +kernel
theorem dX4_put_18 : decode cX4_put 18 = .ok (.iconst 0, 1) := by decide +kernel
theorem dX4_put_19 : decode cX4_put 19 = .ok (.ireturn, 1) := by decide +kernel
theorem dX4_put_20 : decode cX4_put 20 = .ok (.aload_n 0, 1) := by decide +kernel
theorem dX4_put_21 : decode cX4_put 21 = .ok (.getfield 7, 3) := by decide +kernel
theorem dX4_put_24 : decode cX4_put 24 = .ok (.iload_n 1, 1) := by decide +kernel
theorem dX4_put_25 : decode cX4_put 25 = .ok (.iaload, 1) := by decide +kernel
theorem dX4_put_26 : decode cX4_put 26 = .ok (.istore_n 3, 1) := by decide +kernel
theorem dX4_put_27 : decode cX4_put 27 = .ok (.aload_n 0, 1) := by decide +kernel
theorem dX4_put_28 : decode cX4_put 28 = .ok (.iload_n 1, 1) := by decide +kernel
theorem dX4_put_29 : decode cX4_put 29 = .ok (.iload_n 2, 1) := by decide +kernel
theorem dX4_put_30 : decode cX4_put 30 = .ok (.invokevirtual 230, 3) := by decide +kernel
theorem dX4_put_33 : decode cX4_put 33 = .ok (.istore 4, 2) := by decide +kernel
theorem dX4_put_35 : decode cX4_put 35 = .ok (.iload 4, 2) := by decide +kernel
theorem dX4_put_37 : decode cX4_put 37 = .ok (.ifCond .lt 37, 3) := by decide +kernel
theorem dX4_put_40 : decode cX4_put 40 = .ok (.aload_n 0, 1) := by decide +kernel
theorem dX4_put_41 : decode cX4_put 41 = .ok (.iload 4, 2) := by decide +kernel
theorem dX4_put_43 : decode cX4_put 43 = .ok (.iload_n 2, 1) := by decide +kernel
theorem dX4_put_44 : decode cX4_put 44 = .ok (.aload_n 0, 1) := by decide +kernel
theorem dX4_put_45 : decode cX4_put 45 = .ok (.getfield 26, 3) := by decide +kernel
theorem dX4_put_48 : decode cX4_put 48 = .ok (.iload_n 3, 1) := by decide +kernel
theorem dX4_put_49 : decode cX4_put 49 = .ok (.iaload, 1) := by decide +kernel
theorem dX4_put_50 : decode cX4_put 50 = .ok (.aload_n 0, 1) := by decide +kernel
theorem dX4_put_51 : decode cX4_put 51 = .ok (.getfield 26, 3) := by decide +kernel
theorem dX4_put_54 : decode cX4_put 54 = .ok (.iload_n 3, 1) := by decide +kernel
theorem dX4_put_55 : decode cX4_put 55 = .ok (.iaload, 1) := by decide +kernel
theorem dX4_put_56 : decode cX4_put 56 = .ok (.aload_n 0, 1) := by decide +kernel
theorem dX4_put_57 : decode cX4_put 57 = .ok (.getfield 29, 3) := by decide +kernel
theorem dX4_put_60 : decode cX4_put 60 = .ok (.iload_n 3, 1) := by decide +kernel
theorem dX4_put_61 : decode cX4_put 61 = .ok (.iaload, 1) := by decide +kernel
theorem dX4_put_62 : decode cX4_put 62 = .ok (.iadd, 1) := by decide +kernel
theorem dX4_put_63 : decode cX4_put 63 = .ok (.invokevirtual 233, 3) := by decide +kernel
theorem dX4_put_66 : decode cX4_put 66 = .ok (.aload_n 0, 1) := by decide +kernel
theorem dX4_put_67 : decode cX4_put 67 = .ok (.getfield 67, 3) := by decide +kernel
theorem dX4_put_70 : decode cX4_put 70 = .ok (.iload 4, 2) := by decide +kernel
theorem dX4_put_72 : decode cX4_put 72 = .ok (.iaload, 1) := by decide +kernel
theorem dX4_put_73 : decode cX4_put 73 = .ok (.ireturn, 1) := by decide +kernel
theorem dX4_put_74 : decode cX4_put 74 = .ok (.aload_n 0, 1) := by decide +kernel
theorem dX4_put_75 : decode cX4_put 75 = .ok (.iload_n 3, 1) := by decide +kernel
theorem dX4_put_76 : decode cX4_put 76 = .ok (.invokevirtual 237, 3) := by decide +kernel
theorem dX4_put_79 : decode cX4_put 79 = .ok (.istore 5, 2) := by decide +kernel
theorem dX4_put_81 : decode cX4_put 81 = .ok (.aload_n 0, 1) := by decide +kernel
theorem dX4_put_82 : decode cX4_put 82 = .ok (.iload 5, 2) := by decide +kernel
theorem dX4_put_84 : decode cX4_put 84 = .ok (.ifCond .eq 7, 3) := by decide +kernel
theorem dX4_put_87 : decode cX4_put 87 = .ok (.iconst 0, 1) := by decide +kernel
theorem dX4_put_88 : decode cX4_put 88 = .ok (.goto 4, 3) := by decide +kernel
theorem dX4_put_91 : decode cX4_put 91 = .ok (.iconst 4, 1) := by decide +kernel
theorem dX4_put_92 : decode cX4_put 92 = .ok (.putfield 85, 3) := by decide +kernel
theorem dX4_put_95 : decode cX4_put 95 = .ok (.iload 5, 2) := by decide +kernel
theorem dX4_put_97 : decode cX4_put 97 = .ok (.ifCond .ne 5, 3) := by decide +kernel
theorem dX4_put_100 : decode cX4_put 100 = .ok (.iconst 0, 1) := by decide +kernel
theorem dX4_put_101 : decode cX4_put 101 = .ok (.ireturn, 1) := by decide +kernel
theorem dX4_put_102 : decode cX4_put 102 = .ok (.aload_n 0, 1) := by decide +kernel
theorem dX4_put_103 : decode cX4_put 103 = .ok (.getfield 106, 3) := by decide +kernel
theorem dX4_put_106 : decode cX4_put 106 = .ok (.aload_n 0, 1) := by decide +kernel
theorem dX4_put_107 : decode cX4_put 107 = .ok (.getfield 64, 3) := by decide +kernel
theorem dX4_put_110 : decode cX4_put 110 = .ok (.arraylength, 1) := by decide +kernel
theorem dX4_put_111 : decode cX4_put 111 = .ok (.if_icmp .ne 47, 3) := by decide +kernel
theorem dX4_put_114 : decode cX4_put 114 = .ok (.aload_n 0, 1) := by decide +kernel
theorem dX4_put_115 : decode cX4_put 115 = .ok (.aload_n 0, 1) := by decide +kernel
theorem dX4_put_116 : decode cX4_put 116 = .ok (.getfield 64, 3) := by decide +kernel
theorem dX4_put_119 : decode cX4_put 119 = .ok (.invokestatic 149, 3) := by decide +kernel
theorem dX4_put_122 : decode cX4_put 122 = .ok (.putfield 64, 3) := by decide +kernel
theorem dX4_put_125 : decode cX4_put 125 = .ok (.aload_n 0, 1) := by decide +kernel
theorem dX4_put_126 : decode cX4_put 126 = .ok (.aload_n 0, 1) := by decide +kernel
theorem dX4_put_127 : decode cX4_put 127 = .ok (.getfield 67, 3) := by decide +kernel
theorem dX4_put_130 : decode cX4_put 130 = .ok (.invokestatic 149, 3) := by decide +kernel
theorem dX4_put_133 : decode cX4_put 133 = .ok (.putfield 67, 3) := by decide +kernel
theorem dX4_put_136 : decode cX4_put 136 = .ok (.aload_n 0, 1) := by decide +kernel
theorem dX4_put_137 : decode cX4_put 137 = .ok (.aload_n 0, 1) := by decide +kernel
theorem dX4_put_138 : decode cX4_put 138 = .ok (.getfield 70, 3) := by decide +kernel
theorem dX4_put_141 : decode cX4_put 141 = .ok (.invokestatic 149, 3) := by decide +kernel
theorem dX4_put_144 : decode cX4_put 144 = .ok (.putfield 70, 3) := by decide +kernel
theorem dX4_put_147 : decode cX4_put 147 = .ok (.aload_n 0, 1) := by decide +kernel
theorem dX4_put_148 : decode cX4_put 148 = .ok (.aload_n 0, 1) := by decide +kernel
theorem dX4_put_149 : decode cX4_put 149 = .ok (.getfield 73, 3) := by decide +kernel
theorem dX4_put_152 : decode cX4_put 152 = .ok (.invokestatic 183, 3) := by decide +kernel
theorem dX4_put_155 : decode cX4_put 155 = .ok (.putfield 73, 3) := by decide +kernel
theorem dX4_put_158 : decode cX4_put 158 = .ok (.aload_n 0, 1) := by decide +kernel
theorem dX4_put_159 : decode cX4_put 159 = .ok (.getfield 64, 3) := by decide +kernel
theorem dX4_put_162 : decode cX4_put 162 = .ok (.aload_n 0, 1) := by decide +kernel
theorem dX4_put_163 : decode cX4_put 163 = .ok (.getfield 106, 3) := by decide +kernel
theorem dX4_put_166 : decode cX4_put 166 = .ok (.iload_n 3, 1) := by decide +kernel
theorem dX4_put_167 : decode cX4_put 167 = .ok (.iastore, 1) := by decide +kernel
theorem dX4_put_168 : decode cX4_put 168 = .ok (.aload_n 0, 1) := by decide +kernel
theorem dX4_put_169 : decode cX4_put 169 = .ok (.getfield 67, 3) := by decide +kernel
theorem dX4_put_172 : decode cX4_put 172 = .ok (.aload_n 0, 1) := by decide +kernel
theorem dX4_put_173 : decode cX4_put 173 = .ok (.getfield 106, 3) := by decide +kernel
theorem dX4_put_176 : decode cX4_put 176 = .ok (.aload_n 0, 1) := by decide +kernel
theorem dX4_put_177 : decode cX4_put 177 = .ok (.getfield 41, 3) := by decide +kernel
theorem dX4_put_180 : decode cX4_put 180 = .ok (.iload_n 3, 1) := by decide +kernel
theorem dX4_put_181 : decode cX4_put 181 = .ok (.iaload, 1) := by decide +kernel
theorem dX4_put_182 : decode cX4_put 182 = .ok (.iastore, 1) := by decide +kernel
theorem dX4_put_183 : decode cX4_put 183 = .ok (.aload_n 0, 1) := by decide +kernel
theorem dX4_put_184 : decode cX4_put 184 = .ok (.aload_n 0, 1) := by decide +kernel
theorem dX4_put_185 : decode cX4_put 185 = .ok (.getfield 106, 3) := by decide +kernel
theorem dX4_put_188 : decode cX4_put 188 = .ok (.iload_n 2, 1) := by decide +kernel
theorem dX4_put_189 : decode cX4_put 189 = .ok (.iconst 0, 1) := by decide +kernel
theorem dX4_put_190 : decode cX4_put 190 = .ok (.aload_n 0, 1) := by decide +kernel
theorem dX4_put_191 : decode cX4_put 191 = .ok (.getfield 26, 3) := by decide +kernel
theorem dX4_put_194 : decode cX4_put 194 = .ok (.iload_n 3, 1) := by decide +kernel
theorem dX4_put_195 : decode cX4_put 195 = .ok (.iaload, 1) := by decide +kernel
theorem dX4_put_196 : decode cX4_put 196 = .ok (.aload_n 0, 1) := by decide +kernel
theorem dX4_put_197 : decode cX4_put 197 = .ok (.getfield 29, 3) := by decide +kernel
theorem dX4_put_200 : decode cX4_put 200 = .ok (.iload_n 3, 1) := by decide +kernel
theorem dX4_put_201 : decode cX4_put 201 = .ok (.iaload, 1) := by decide +kernel
theorem dX4_put_202 : decode cX4_put 202 = .ok (.iadd, 1) := by decide +kernel
theorem dX4_put_203 : decode cX4_put 203 = .ok (.invokevirtual 233, 3) := by decide +kernel
theorem dX4_put_206 : decode cX4_put 206 = .ok (.iconst 0, 1) := by decide +kernel
theorem dX4_put_207 : decode cX4_put 207 = .ok (.istore 6, 2) := by decide +kernel
theorem dX4_put_209 : decode cX4_put 209 = .ok (.iload 6, 2) := by decide +kernel
theorem dX4_put_211 : decode cX4_put 211 = .ok (.aload_n 0, 1) := by decide +kernel
theorem dX4_put_212 : decode cX4_put 212 = .ok (.getfield 26, 3) := by decide +kernel
theorem dX4_put_215 : decode cX4_put 215 = .ok (.iload_n 3, 1) := by decide +kernel
theorem dX4_put_216 : decode cX4_put 216 = .ok (.iaload, 1) := by decide +kernel
theorem dX4_put_217 : decode cX4_put 217 = .ok (.if_icmp .ge 51, 3) := by decide +kernel
theorem dX4_put_220 : decode cX4_put 220 = .ok (.aload_n 0, 1) := by decide +kernel
theorem dX4_put_221 : decode cX4_put 221 = .ok (.getfield 54, 3) := by decide +kernel
theorem dX4_put_224 : decode cX4_put 224 = .ok (.aload_n 0, 1) := by decide +kernel
theorem dX4_put_225 : decode cX4_put 225 = .ok (.iload_n 2, 1) := by decide +kernel
theorem dX4_put_226 : decode cX4_put 226 = .ok (.iload 6, 2) := by decide +kernel
theorem dX4_put_228 : decode cX4_put 228 = .ok (.invokevirtual 210, 3) := by decide +kernel
theorem dX4_put_231 : decode cX4_put 231 = .ok (.iaload, 1) := by decide +kernel
theorem dX4_put_232 : decode cX4_put 232 = .ok (.istore 7, 2) := by decide +kernel
theorem dX4_put_234 : decode cX4_put 234 = .ok (.aload_n 0, 1) := by decide +kernel
theorem dX4_put_235 : decode cX4_put 235 = .ok (.getfield 32, 3) := by decide +kernel
theorem dX4_put_238 : decode cX4_put 238 = .ok (.iload_n 3, 1) := by decide +kernel
theorem dX4_put_239 : decode cX4_put 239 = .ok (.iaload, 1) := by decide +kernel
theorem dX4_put_240 : decode cX4_put 240 = .ok (.iload 6, 2) := by decide +kernel
theorem dX4_put_242 : decode cX4_put 242 = .ok (.ishr, 1) := by decide +kernel
theorem dX4_put_243 : decode cX4_put 243 = .ok (.iconst 1, 1) := by decide +kernel
theorem dX4_put_244 : decode cX4_put 244 = .ok (.iand, 1) := by decide +kernel
theorem dX4_put_245 : decode cX4_put 245 = .ok (.iconst 1, 1) := by decide +kernel
theorem dX4_put_246 : decode cX4_put 246 = .ok (.if_icmp .ne 16, 3) := by decide +kernel
theorem dX4_put_249 : decode cX4_put 249 = .ok (.iload 7, 2) := by decide +kernel
theorem dX4_put_251 : decode cX4_put 251 = .ok (.ifCond .le 11, 3) := by decide +kernel
theorem dX4_put_254 : decode cX4_put 254 = .ok (.aload_n 0, 1) := by decide +kernel
theorem dX4_put_255 : decode cX4_put 255 = .ok (.getfield 48, 3) := by decide +kernel
theorem dX4_put_258 : decode cX4_put 258 = .ok (.iload 7, 2) := by decide +kernel
theorem dX4_put_260 : decode cX4_put 260 = .ok (.iconst 1, 1) := by decide +kernel
theorem dX4_put_261 : decode cX4_put 261 = .ok (.bastore, 1) := by decide +kernel
theorem dX4_put_262 : decode cX4_put 262 = .ok (.iinc 6 1, 3) := by decide +kernel
theorem dX4_put_265 : decode cX4_put 265 = .ok (.goto (-56), 3) := by decide +kernel
theorem dX4_put_268 : decode cX4_put 268 = .ok (.aload_n 0, 1) := by decide +kernel
theorem dX4_put_269 : decode cX4_put 269 = .ok (.dup, 1) := by decide +kernel
theorem dX4_put_270 : decode cX4_put 270 = .ok (.getfield 106, 3) := by decide +kernel
theorem dX4_put_273 : decode cX4_put 273 = .ok (.iconst 1, 1) := by decide +kernel
theorem dX4_put_274 : decode cX4_put 274 = .ok (.iadd, 1) := by decide +kernel
theorem dX4_put_275 : decode cX4_put 275 = .ok (.putfield 106, 3) := by decide +kernel
theorem dX4_put_278 : decode cX4_put 278 = .ok (.aload_n 0, 1) := by decide +kernel
theorem dX4_put_279 : decode cX4_put 279 = .ok (.getfield 38, 3) := by decide +kernel
theorem dX4_put_282 : decode cX4_put 282 = .ok (.iload_n 3, 1) := by decide +kernel
theorem dX4_put_283 : decode cX4_put 283 = .ok (.dup2, 1) := by decide +kernel
theorem dX4_put_284 : decode cX4_put 284 = .ok (.iaload, 1) := by decide +kernel
theorem dX4_put_285 : decode cX4_put 285 = .ok (.iconst 1, 1) := by decide +kernel
theorem dX4_put_286 : decode cX4_put 286 = .ok (.iadd, 1) := by decide +kernel
theorem dX4_put_287 : decode cX4_put 287 = .ok (.iastore, 1) := by decide +kernel
theorem dX4_put_288 : decode cX4_put 288 = .ok (.aload_n 0, 1) := by decide +kernel
theorem dX4_put_289 : decode cX4_put 289 = .ok (.getfield 41, 3) := by decide +kernel
theorem dX4_put_292 : decode cX4_put 292 = .ok (.iload_n 3, 1) := by decide +kernel
theorem dX4_put_293 : decode cX4_put 293 = .ok (.dup2, 1) := by decide +kernel
theorem dX4_put_294 : decode cX4_put 294 = .ok (.iaload, 1) := by decide +kernel
theorem dX4_put_295 : decode cX4_put 295 = .ok (.iconst 1, 1) := by decide +kernel
theorem dX4_put_296 : decode cX4_put 296 = .ok (.iadd, 1) := by decide +kernel
theorem dX4_put_297 : decode cX4_put 297 = .ok (.iastore, 1) := by decide +kernel
theorem dX4_put_298 : decode cX4_put 298 = .ok (.aload_n 0, 1) := by decide +kernel
theorem dX4_put_299 : decode cX4_put 299 = .ok (.getfield 41, 3) := by decide +kernel
theorem dX4_put_302 : decode cX4_put 302 = .ok (.iload_n 3, 1) := by decide +kernel
theorem dX4_put_303 : decode cX4_put 303 = .ok (.iaload, 1) := by decide +kernel
theorem dX4_put_304 : decode cX4_put 304 = .ok (.iconst 1, 1) := by decide +kernel
theorem dX4_put_305 : decode cX4_put 305 = .ok (.isub, 1) := by decide +kernel
theorem dX4_put_306 : decode cX4_put 306 = .ok (.ireturn, 1) := by decide +kernel
theorem dX4_show_0 : decode cX4_show 0 = .ok (.iload_n 3, 1) := by decide +kernel
theorem dX4_show_1 : decode cX4_show 1 = .ok (.istore 5, 2) := by decide +kernel
theorem dX4_show_3 : decode cX4_show 3 = .ok (.iload 5, 2) := by decide +kernel
theorem dX4_show_5 : decode cX4_show 5 = .ok (.iload 4, 2) := by decide +kernel
theorem dX4_show_7 : decode cX4_show 7 = .ok (.if_icmp .ge 57, 3) := by decide +kernel
theorem dX4_show_10 : decode cX4_show 10 = .ok (.aload_n 0, 1) := by decide +kernel
theorem dX4_show_11 : decode cX4_show 11 = .ok (.getfield 54, 3) := by decide +kernel
theorem dX4_show_14 : decode cX4_show 14 = .ok (.aload_n 0, 1) := by decide +kernel
theorem dX4_show_15 : decode cX4_show 15 = .ok (.iload_n 2, 1) := by decide +kernel
theorem dX4_show_16 : decode cX4_show 16 = .ok (.iload 5, 2) := by decide +kernel
theorem dX4_show_18 : decode cX4_show 18 = .ok (.invokevirtual 210, 3) := by decide +kernel
theorem dX4_show_21 : decode cX4_show 21 = .ok (.aload_n 0, 1) := by decide +kernel
theorem dX4_show_22 : decode cX4_show 22 = .ok (.getfield 70, 3) := by decide +kernel
theorem dX4_show_25 : decode cX4_show 25 = .ok (.bipush 8, 2) := by decide +kernel
theorem dX4_show_27 : decode cX4_show 27 = .ok (.iload_n 1, 1) := by decide +kernel
theorem dX4_show_28 : decode cX4_show 28 = .ok (.imul, 1) := by decide +kernel
theorem dX4_show_29 : decode cX4_show 29 = .ok (.iload 5, 2) := by decide +kernel
theorem dX4_show_31 : decode cX4_show 31 = .ok (.iadd, 1) := by decide +kernel
theorem dX4_show_32 : decode cX4_show 32 = .ok (.iaload, 1) := by decide +kernel
theorem dX4_show_33 : decode cX4_show 33 = .ok (.iastore, 1) := by decide +kernel
theorem dX4_show_34 : decode cX4_show 34 = .ok (.aload_n 0, 1) := by decide +kernel
theorem dX4_show_35 : decode cX4_show 35 = .ok (.getfield 57, 3) := by decide +kernel
theorem dX4_show_38 : decode cX4_show 38 = .ok (.aload_n 0, 1) := by decide +kernel
theorem dX4_show_39 : decode cX4_show 39 = .ok (.iload_n 2, 1) := by decide +kernel
theorem dX4_show_40 : decode cX4_show 40 = .ok (.iload 5, 2) := by decide +kernel
theorem dX4_show_42 : decode cX4_show 42 = .ok (.invokevirtual 210, 3) := by decide +kernel
theorem dX4_show_45 : decode cX4_show 45 = .ok (.aload_n 0, 1) := by decide +kernel
theorem dX4_show_46 : decode cX4_show 46 = .ok (.getfield 73, 3) := by decide +kernel
theorem dX4_show_49 : decode cX4_show 49 = .ok (.bipush 8, 2) := by decide +kernel
theorem dX4_show_51 : decode cX4_show 51 = .ok (.iload_n 1, 1) := by decide +kernel
theorem dX4_show_52 : decode cX4_show 52 = .ok (.imul, 1) := by decide +kernel
theorem dX4_show_53 : decode cX4_show 53 = .ok (.iload 5, 2) := by decide +kernel
theorem dX4_show_55 : decode cX4_show 55 = .ok (.iadd, 1) := by decide +kernel
theorem dX4_show_56 : decode cX4_show 56 = .ok (.laload, 1) := by decide +kernel
theorem dX4_show_57 : decode cX4_show 57 = .ok (.lastore, 1) := by decide +kernel
theorem dX4_show_58 : decode cX4_show 58 = .ok (.iinc 5 1, 3) := by decide +kernel
theorem dX4_show_61 : decode cX4_show 61 = .ok (.goto (-58), 3) := by decide +kernel
theorem dX4_show_64 : decode cX4_show 64 = .ok (.return_, 1) := by decide +kernel
theorem dX4_get_0 : decode cX4_get 0 = .ok (.aload_n 0, 1) := by decide +kernel
theorem dX4_get_1 : decode cX4_get 1 = .ok (.aload_n 0, 1) := by decide +kernel
theorem dX4_get_2 : decode cX4_get 2 = .ok (.iload_n 1, 1) := by decide +kernel
theorem dX4_get_3 : decode cX4_get 3 = .ok (.iload_n 2, 1) := by decide +kernel
theorem dX4_get_4 : decode cX4_get 4 = .ok (.iconst 1, 1) := by decide +kernel
theorem dX4_get_5 : decode cX4_get 5 = .ok (.invokevirtual 226, 3) := by decide +kernel
theorem dX4_get_8 : decode cX4_get 8 = .ok (.putfield 85, 3) := by decide +kernel
theorem dX4_get_11 : decode cX4_get 11 = .ok (.aload_n 0, 1) := by decide +kernel
theorem dX4_get_12 : decode cX4_get 12 = .ok (.getfield 85, 3) := by decide +kernel
theorem dX4_get_15 : decode cX4_get 15 = .ok (.ifCond .le 5, 3) := by decide +kernel
theorem dX4_get_18 : decode cX4_get 18 = .ok (.iconst 0, 1) := by decide +kernel
theorem dX4_get_19 : decode cX4_get 19 = .ok (.ireturn, 1) := by decide +kernel
theorem dX4_get_20 : decode cX4_get 20 = .ok (.aload_n 0, 1) := by decide +kernel
theorem dX4_get_21 : decode cX4_get 21 = .ok (.getfield 7, 3) := by decide +kernel
theorem dX4_get_24 : decode cX4_get 24 = .ok (.iload_n 1, 1) := by decide +kernel
theorem dX4_get_25 : decode cX4_get 25 = .ok (.iaload, 1) := by decide +kernel
theorem dX4_get_26 : decode cX4_get 26 = .ok (.istore_n 3, 1) := by decide +kernel
theorem dX4_get_27 : decode cX4_get 27 = .ok (.aload_n 0, 1) := by decide +kernel
theorem dX4_get_28 : decode cX4_get 28 = .ok (.iload_n 1, 1) := by decide +kernel
theorem dX4_get_29 : decode cX4_get 29 = .ok (.iload_n 2, 1) := by decide +kernel
theorem dX4_get_30 : decode cX4_get 30 = .ok (.invokevirtual 230, 3) := by decide +kernel
theorem dX4_get_33 : decode cX4_get 33 = .ok (.istore 4, 2) := by decide +kernel
theorem dX4_get_35 : decode cX4_get 35 = .ok (.iload 4, 2) := by decide +kernel
theorem dX4_get_37 : decode cX4_get 37 = .ok (.ifCond .ge 5, 3) := by decide +kernel
theorem dX4_get_40 : decode cX4_get 40 = .ok (.iconst (-1), 1) := by decide +kernel
theorem dX4_get_41 : decode cX4_get 41 = .ok (.ireturn, 1) := by decide +kernel
theorem dX4_get_42 : decode cX4_get 42 = .ok (.aload_n 0, 1) := by decide +kernel
theorem dX4_get_43 : decode cX4_get 43 = .ok (.iload 4, 2) := by decide +kernel
theorem dX4_get_45 : decode cX4_get 45 = .ok (.iload_n 2, 1) := by decide +kernel
theorem dX4_get_46 : decode cX4_get 46 = .ok (.aload_n 0, 1) := by decide +kernel
theorem dX4_get_47 : decode cX4_get 47 = .ok (.getfield 26, 3) := by decide +kernel
theorem dX4_get_50 : decode cX4_get 50 = .ok (.iload_n 3, 1) := by decide +kernel
theorem dX4_get_51 : decode cX4_get 51 = .ok (.iaload, 1) := by decide +kernel
theorem dX4_get_52 : decode cX4_get 52 = .ok (.aload_n 0, 1) := by decide +kernel
theorem dX4_get_53 : decode cX4_get 53 = .ok (.getfield 26, 3) := by decide +kernel
theorem dX4_get_56 : decode cX4_get 56 = .ok (.iload_n 3, 1) := by decide +kernel
theorem dX4_get_57 : decode cX4_get 57 = .ok (.iaload, 1) := by decide +kernel
theorem dX4_get_58 : decode cX4_get 58 = .ok (.aload_n 0, 1) := by decide +kernel
theorem dX4_get_59 : decode cX4_get 59 = .ok (.getfield 29, 3) := by decide +kernel
theorem dX4_get_62 : decode cX4_get 62 = .ok (.iload_n 3, 1) := by decide +kernel
theorem dX4_get_63 : decode cX4_get 63 = .ok (.iaload, 1) := by decide +kernel
theorem dX4_get_64 : decode cX4_get 64 = .ok (.iadd, 1) := by decide +kernel
theorem dX4_get_65 : decode cX4_get 65 = .ok (.invokevirtual 240, 3) := by decide +kernel
theorem dX4_get_68 : decode cX4_get 68 = .ok (.aload_n 0, 1) := by decide +kernel
theorem dX4_get_69 : decode cX4_get 69 = .ok (.getfield 67, 3) := by decide +kernel
theorem dX4_get_72 : decode cX4_get 72 = .ok (.iload 4, 2) := by decide +kernel
theorem dX4_get_74 : decode cX4_get 74 = .ok (.iaload, 1) := by decide +kernel
theorem dX4_get_75 : decode cX4_get 75 = .ok (.ireturn, 1) := by decide +kernel
theorem dX4_remove_0 : decode cX4_remove 0 = .ok (.aload_n 0, 1) := by decide +kernel
theorem dX4_remove_1 : decode cX4_remove 1 = .ok (.aload_n 0, 1) := by decide +kernel
theorem dX4_remove_2 : decode cX4_remove 2 = .ok (.iload_n 1, 1) := by decide +kernel
theorem dX4_remove_3 : decode cX4_remove 3 = .ok (.iload_n 2, 1) := by decide +kernel
theorem dX4_remove_4 : decode cX4_remove 4 = .ok (.iconst 1, 1) := by decide +kernel
theorem dX4_remove_5 : decode cX4_remove 5 = .ok (.invokevirtual 226, 3) := by decide +kernel
theorem dX4_remove_8 : decode cX4_remove 8 = .ok (.putfield 85, 3) := by decide +kernel
theorem dX4_remove_11 : decode cX4_remove 11 = .ok (.aload_n 0, 1) := by decide +kernel
theorem dX4_remove_12 : decode cX4_remove 12 = .ok (.getfield 85, 3) := by decide +kernel
theorem dX4_remove_15 : decode cX4_remove 15 = .ok (.ifCond .le 5, 3) := by decide +kernel
theorem dX4_remove_18 : decode cX4_remove 18 = .ok (.iconst 0, 1) := by decide +kernel
theorem dX4_remove_19 : decode cX4_remove 19 = .ok (.ireturn, 1) := by decide +kernel
theorem dX4_remove_20 : decode cX4_remove 20 = .ok (.aload_n 0, 1) := by decide +kernel
theorem dX4_remove_21 : decode cX4_remove 21 = .ok (.iload_n 1, 1) := by decide +kernel
theorem dX4_remove_22 : decode cX4_remove 22 = .ok (.iload_n 2, 1) := by decide +kernel
theorem dX4_remove_23 : decode cX4_remove 23 = .ok (.invokevirtual 230, 3) := by decide +kernel
theorem dX4_remove_26 : decode cX4_remove 26 = .ok (.istore_n 3, 1) := by decide +kernel
theorem dX4_remove_27 : decode cX4_remove 27 = .ok (.iload_n 3, 1) := by decide +kernel
theorem dX4_remove_28 : decode cX4_remove 28 = .ok (.ifCond .ge 5, 3) := by decide +kernel
theorem dX4_remove_31 : decode cX4_remove 31 = .ok (.iconst (-1), 1) := by decide +kernel
theorem dX4_remove_32 : decode cX4_remove 32 = .ok (.ireturn, 1) := by decide +kernel
theorem dX4_remove_33 : decode cX4_remove 33 = .ok (.aload_n 0, 1) := by decide +kernel
theorem dX4_remove_34 : decode cX4_remove 34 = .ok (.getfield 67, 3) := by decide +kernel
theorem dX4_remove_37 : decode cX4_remove 37 = .ok (.iload_n 3, 1) := by decide +kernel
theorem dX4_remove_38 : decode cX4_remove 38 = .ok (.iaload, 1) := by decide +kernel
theorem dX4_remove_39 : decode cX4_remove 39 = .ok (.istore 4, 2) := by decide +kernel
theorem dX4_remove_41 : decode cX4_remove 41 = .ok (.iload_n 3, 1) := by decide +kernel
theorem dX4_remove_42 : decode cX4_remove 42 = .ok (.istore 5, 2) := by decide +kernel
theorem dX4_remove_44 : decode cX4_remove 44 = .ok (.iload 5, 2) := by decide +kernel
theorem dX4_remove_46 : decode cX4_remove 46 = .ok (.iconst 1, 1) := by decide +kernel
theorem dX4_remove_47 : decode cX4_remove 47 = .ok (.iadd, 1) := by decide +kernel
theorem dX4_remove_48 : decode cX4_remove 48 = .ok (.aload_n 0, 1) := by decide +kernel
theorem dX4_remove_49 : decode cX4_remove 49 = .ok (.getfield 106, 3) := by decide +kernel
theorem dX4_remove_52 : decode cX4_remove 52 = .ok (.if_icmp .ge 19, 3) := by decide +kernel
theorem dX4_remove_55 : decode cX4_remove 55 = .ok (.aload_n 0, 1) := by decide +kernel
theorem dX4_remove_56 : decode cX4_remove 56 = .ok (.iload 5, 2) := by decide +kernel
theorem dX4_remove_58 : decode cX4_remove 58 = .ok (.iconst 1, 1) := by decide +kernel
theorem dX4_remove_59 : decode cX4_remove 59 = .ok (.iadd, 1) := by decide +kernel
theorem dX4_remove_60 : decode cX4_remove 60 = .ok (.iload 5, 2) := by decide +kernel
theorem dX4_remove_62 : decode cX4_remove 62 = .ok (.invokevirtual 115, 3) := by decide +kernel
theorem dX4_remove_65 : decode cX4_remove 65 = .ok (.iinc 5 1, 3) := by decide +kernel
theorem dX4_remove_68 : decode cX4_remove 68 = .ok (.goto (-24), 3) := by decide +kernel
theorem dX4_remove_71 : decode cX4_remove 71 = .ok (.aload_n 0, 1) := by decide +kernel
theorem dX4_remove_72 : decode cX4_remove 72 = .ok (.dup, 1) := by decide +kernel
theorem dX4_remove_73 : decode cX4_remove 73 = .ok (.getfield 106, 3) := by decide +kernel
theorem dX4_remove_76 : decode cX4_remove 76 = .ok (.iconst 1, 1) := by decide +kernel
theorem dX4_remove_77 : decode cX4_remove 77 = .ok (.isub, 1) := by decide +kernel
theorem dX4_remove_78 : decode cX4_remove 78 = .ok (.putfield 106, 3) := by decide +kernel
theorem dX4_remove_81 : decode cX4_remove 81 = .ok (.iload 4, 2) := by decide +kernel
theorem dX4_remove_83 : decode cX4_remove 83 = .ok (.ireturn, 1) := by decide +kernel
theorem dX4_next_0 : decode cX4_next 0 = .ok (.aload_n 0, 1) := by decide +kernel
theorem dX4_next_1 : decode cX4_next 1 = .ok (.iload_n 1, 1) := by decide +kernel
theorem dX4_next_2 : decode cX4_next 2 = .ok (.invokestatic 165, 3) := by decide +kernel
theorem dX4_next_5 : decode cX4_next 5 = .ok (.ifCond .eq 20, 3) := by decide +kernel
theorem dX4_next_8 : decode cX4_next 8 = .ok (.aload_n 0, 1) := by decide +kernel
theorem dX4_next_9 : decode cX4_next 9 = .ok (.iload_n 1, 1) := by decide +kernel
theorem dX4_next_10 : decode cX4_next 10 = .ok (.iconst 4, 1) := by decide +kernel
theorem dX4_next_11 : decode cX4_next 11 = .ok (.invokevirtual 89, 3) := by decide +kernel
theorem dX4_next_14 : decode cX4_next 14 = .ok (.ifCond .eq 7, 3) := by decide +kernel
theorem dX4_next_17 : decode cX4_next 17 = .ok (.iconst 0, 1) := by decide +kernel
theorem dX4_next_18 : decode cX4_next 18 = .ok (.goto 8, 3) := by decide +kernel
theorem dX4_next_21 : decode cX4_next 21 = .ok (.iconst 2, 1) := by decide +kernel
theorem dX4_next_22 : decode cX4_next 22 = .ok (.goto 4, 3) := by decide +kernel
theorem dX4_next_25 : decode cX4_next 25 = .ok (.iconst 1, 1) := by decide +kernel
theorem dX4_next_26 : decode cX4_next 26 = .ok (.putfield 85, 3) := by decide +kernel
theorem dX4_next_29 : decode cX4_next 29 = .ok (.aload_n 0, 1) := by decide +kernel
theorem dX4_next_30 : decode cX4_next 30 = .ok (.getfield 85, 3) := by decide +kernel
theorem dX4_next_33 : decode cX4_next 33 = .ok (.ifCond .le 5, 3) := by decide +kernel
theorem dX4_next_36 : decode cX4_next 36 = .ok (.iconst 0, 1) := by decide +kernel
theorem dX4_next_37 : decode cX4_next 37 = .ok (.ireturn, 1) := by decide +kernel
theorem dX4_next_38 : decode cX4_next 38 = .ok (.iconst (-1), 1) := by decide +kernel
theorem dX4_next_39 : decode cX4_next 39 = .ok (.istore_n 3, 1) := by decide +kernel
theorem dX4_next_40 : decode cX4_next 40 = .ok (.iconst 0, 1) := by decide +kernel
theorem dX4_next_41 : decode cX4_next 41 = .ok (.istore 4, 2) := by decide +kernel
theorem dX4_next_43 : decode cX4_next 43 = .ok (.iload 4, 2) := by decide +kernel
theorem dX4_next_45 : decode cX4_next 45 = .ok (.aload_n 0, 1) := by decide +kernel
theorem dX4_next_46 : decode cX4_next 46 = .ok (.getfield 106, 3) := by decide +kernel
theorem dX4_next_49 : decode cX4_next 49 = .ok (.if_icmp .ge 75, 3) := by decide +kernel
theorem dX4_next_52 : decode cX4_next 52 = .ok (.aload_n 0, 1) := by decide +kernel
theorem dX4_next_53 : decode cX4_next 53 = .ok (.getfield 64, 3) := by decide +kernel
theorem dX4_next_56 : decode cX4_next 56 = .ok (.iload 4, 2) := by decide +kernel
theorem dX4_next_58 : decode cX4_next 58 = .ok (.iaload, 1) := by decide +kernel
theorem dX4_next_59 : decode cX4_next 59 = .ok (.aload_n 0, 1) := by decide +kernel
theorem dX4_next_60 : decode cX4_next 60 = .ok (.getfield 7, 3) := by decide +kernel
theorem dX4_next_63 : decode cX4_next 63 = .ok (.iload_n 1, 1) := by decide +kernel
theorem dX4_next_64 : decode cX4_next 64 = .ok (.iaload, 1) := by decide +kernel
theorem dX4_next_65 : decode cX4_next 65 = .ok (.if_icmp .ne 18, 3) := by decide +kernel
theorem dX4_next_68 : decode cX4_next 68 = .ok (.aload_n 0, 1) := by decide +kernel
theorem dX4_next_69 : decode cX4_next 69 = .ok (.getfield 67, 3) := by decide +kernel
theorem dX4_next_72 : decode cX4_next 72 = .ok (.iload 4, 2) := by decide +kernel
theorem dX4_next_74 : decode cX4_next 74 = .ok (.iaload, 1) := by decide +kernel
theorem dX4_next_75 : decode cX4_next 75 = .ok (.iload_n 2, 1) := by decide +kernel
theorem dX4_next_76 : decode cX4_next 76 = .ok (.if_icmp .lt 7, 3) := by decide +kernel
theorem dX4_next_79 : decode cX4_next 79 = .ok (.iconst 1, 1) := by decide +kernel
theorem dX4_next_80 : decode cX4_next 80 = .ok (.goto 4, 3) := by decide +kernel
theorem dX4_next_83 : decode cX4_next 83 = .ok (.iconst 0, 1) := by decide +kernel
theorem dX4_next_84 : decode cX4_next 84 = .ok (.istore 5, 2) := by decide +kernel
theorem dX4_next_86 : decode cX4_next 86 = .ok (.iload 5, 2) := by decide +kernel
theorem dX4_next_88 : decode cX4_next 88 = .ok (.ifCond .eq 28, 3) := by decide +kernel
theorem dX4_next_91 : decode cX4_next 91 = .ok (.iload_n 3, 1) := by decide +kernel
theorem dX4_next_92 : decode cX4_next 92 = .ok (.ifCond .lt 14, 3) := by decide +kernel
theorem dX4_next_95 : decode cX4_next 95 = .ok (.aload_n 0, 1) := by decide +kernel
theorem dX4_next_96 : decode cX4_next 96 = .ok (.getfield 67, 3) := by decide +kernel
theorem dX4_next_99 : decode cX4_next 99 = .ok (.iload 4, 2) := by decide +kernel
theorem dX4_next_101 : decode cX4_next 101 = .ok (.iaload, 1) := by decide +kernel
theorem dX4_next_102 : decode cX4_next 102 = .ok (.iload_n 3, 1) := by decide +kernel
theorem dX4_next_103 : decode cX4_next 103 = .ok (.if_icmp .ge 13, 3) := by decide +kernel
theorem dX4_next_106 : decode cX4_next 106 = .ok (.aload_n 0, 1) := by decide +kernel
theorem dX4_next_107 : decode cX4_next 107 = .ok (.getfield 67, 3) := by decide +kernel
theorem dX4_next_110 : decode cX4_next 110 = .ok (.iload 4, 2) := by decide +kernel
theorem dX4_next_112 : decode cX4_next 112 = .ok (.iaload, 1) := by decide +kernel
theorem dX4_next_113 : decode cX4_next 113 = .ok (.goto 4, 3) := by decide +kernel
theorem dX4_next_116 : decode cX4_next 116 = .ok (.iload_n 3, 1) := by decide +kernel
theorem dX4_next_117 : decode cX4_next 117 = .ok (.istore_n 3, 1) := by decide +kernel
theorem dX4_next_118 : decode cX4_next 118 = .ok (.iinc 4 1, 3) := by decide +kernel
theorem dX4_next_121 : decode cX4_next 121 = .ok (.goto (-78), 3) := by decide +kernel
theorem dX4_next_124 : decode cX4_next 124 = .ok (.iload_n 3, 1) := by decide +kernel
theorem dX4_next_125 : decode cX4_next 125 = .ok (.ireturn, 1) := by decide +kernel
theorem dX4_entry_0 : decode cX4_entry 0 = .ok (.aload_n 0, 1) := by decide +kernel
theorem dX4_entry_1 : decode cX4_entry 1 = .ok (.aload_n 0, 1) := by decide +kernel
theorem dX4_entry_2 : decode cX4_entry 2 = .ok (.iload_n 1, 1) := by decide +kernel
theorem dX4_entry_3 : decode cX4_entry 3 = .ok (.iload_n 3, 1) := by decide +kernel
theorem dX4_entry_4 : decode cX4_entry 4 = .ok (.iconst 0, 1) := by decide +kernel
theorem dX4_entry_5 : decode cX4_entry 5 = .ok (.invokevirtual 226, 3) := by decide +kernel
theorem dX4_entry_8 : decode cX4_entry 8 = .ok (.putfield 85, 3) := by decide +kernel
theorem dX4_entry_11 : decode cX4_entry 11 = .ok (.aload_n 0, 1) := by decide +kernel
theorem dX4_entry_12 : decode cX4_entry 12 = .ok (.getfield 85, 3) := by decide +kernel
theorem dX4_entry_15 : decode cX4_entry 15 = .ok (.ifCond .le 4, 3) := by decide +kernel
theorem dX4_entry_18 : decode cX4_entry 18 = .ok (.return_, 1) := by decide +kernel
theorem dX4_entry_19 : decode cX4_entry 19 = .ok (.iconst (-1), 1) := by decide +kernel
theorem dX4_entry_20 : decode cX4_entry 20 = .ok (.istore 4, 2) := by decide +kernel
theorem dX4_entry_22 : decode cX4_entry 22 = .ok (.iconst 0, 1) := by decide +kernel
theorem dX4_entry_23 : decode cX4_entry 23 = .ok (.istore 5, 2) := by decide +kernel
theorem dX4_entry_25 : decode cX4_entry 25 = .ok (.iload 5, 2) := by decide +kernel
theorem dX4_entry_27 : decode cX4_entry 27 = .ok (.aload_n 0, 1) := by decide +kernel
theorem dX4_entry_28 : decode cX4_entry 28 = .ok (.getfield 106, 3) := by decide +kernel
theorem dX4_entry_31 : decode cX4_entry 31 = .ok (.if_icmp .ge 45, 3) := by decide +kernel
theorem dX4_entry_34 : decode cX4_entry 34 = .ok (.aload_n 0, 1) := by decide +kernel
theorem dX4_entry_35 : decode cX4_entry 35 = .ok (.getfield 64, 3) := by decide +kernel
theorem dX4_entry_38 : decode cX4_entry 38 = .ok (.iload 5, 2) := by decide +kernel
theorem dX4_entry_40 : decode cX4_entry 40 = .ok (.iaload, 1) := by decide +kernel
theorem dX4_entry_41 : decode cX4_entry 41 = .ok (.aload_n 0, 1) := by decide +kernel
theorem dX4_entry_42 : decode cX4_entry 42 = .ok (.getfield 7, 3) := by decide +kernel
theorem dX4_entry_45 : decode cX4_entry 45 = .ok (.iload_n 1, 1) := by decide +kernel
theorem dX4_entry_46 : decode cX4_entry 46 = .ok (.iaload, 1) := by decide +kernel
theorem dX4_entry_47 : decode cX4_entry 47 = .ok (.if_icmp .ne 19, 3) := by decide +kernel
theorem dX4_entry_50 : decode cX4_entry 50 = .ok (.aload_n 0, 1) := by decide +kernel
theorem dX4_entry_51 : decode cX4_entry 51 = .ok (.getfield 67, 3) := by decide +kernel
theorem dX4_entry_54 : decode cX4_entry 54 = .ok (.iload 5, 2) := by decide +kernel
theorem dX4_entry_56 : decode cX4_entry 56 = .ok (.iaload, 1) := by decide +kernel
theorem dX4_entry_57 : decode cX4_entry 57 = .ok (.iload_n 2, 1) := by decide +kernel
theorem dX4_entry_58 : decode cX4_entry 58 = .ok (.if_icmp .ne 8, 3) := by decide +kernel
theorem dX4_entry_61 : decode cX4_entry 61 = .ok (.iload 5, 2) := by decide +kernel
theorem dX4_entry_63 : decode cX4_entry 63 = .ok (.goto 5, 3) := by decide +kernel
theorem dX4_entry_66 : decode cX4_entry 66 = .ok (.iload 4, 2) := by decide +kernel
theorem dX4_entry_68 : decode cX4_entry 68 = .ok (.istore 4, 2) := by decide +kernel
theorem dX4_entry_70 : decode cX4_entry 70 = .ok (.iinc 5 1, 3) := by decide +kernel
theorem dX4_entry_73 : decode cX4_entry 73 = .ok (.goto (-48), 3) := by decide +kernel
theorem dX4_entry_76 : decode cX4_entry 76 = .ok (.aload_n 0, 1) := by decide +kernel
theorem dX4_entry_77 : decode cX4_entry 77 = .ok (.iload 4, 2) := by decide +kernel
theorem dX4_entry_79 : decode cX4_entry 79 = .ok (.ifCond .ge 7, 3) := by decide +kernel
theorem dX4_entry_82 : decode cX4_entry 82 = .ok (.iconst 4, 1) := by decide +kernel
theorem dX4_entry_83 : decode cX4_entry 83 = .ok (.goto 4, 3) := by decide +kernel
theorem dX4_entry_86 : decode cX4_entry 86 = .ok (.iconst 0, 1) := by decide +kernel
theorem dX4_entry_87 : decode cX4_entry 87 = .ok (.putfield 85, 3) := by decide +kernel
theorem dX4_entry_90 : decode cX4_entry 90 = .ok (.iload 4, 2) := by decide +kernel
theorem dX4_entry_92 : decode cX4_entry 92 = .ok (.ifCond .lt 34, 3) := by decide +kernel
theorem dX4_entry_95 : decode cX4_entry 95 = .ok (.aload_n 0, 1) := by decide +kernel
theorem dX4_entry_96 : decode cX4_entry 96 = .ok (.iload 4, 2) := by decide +kernel
theorem dX4_entry_98 : decode cX4_entry 98 = .ok (.iload_n 3, 1) := by decide +kernel
theorem dX4_entry_99 : decode cX4_entry 99 = .ok (.iconst 0, 1) := by decide +kernel
theorem dX4_entry_100 : decode cX4_entry 100 = .ok (.aload_n 0, 1) := by decide +kernel
theorem dX4_entry_101 : decode cX4_entry 101 = .ok (.getfield 26, 3) := by decide +kernel
theorem dX4_entry_104 : decode cX4_entry 104 = .ok (.aload_n 0, 1) := by decide +kernel
theorem dX4_entry_105 : decode cX4_entry 105 = .ok (.getfield 7, 3) := by decide +kernel
theorem dX4_entry_108 : decode cX4_entry 108 = .ok (.iload_n 1, 1) := by decide +kernel
theorem dX4_entry_109 : decode cX4_entry 109 = .ok (.iaload, 1) := by decide +kernel
theorem dX4_entry_110 : decode cX4_entry 110 = .ok (.iaload, 1) := by decide +kernel
theorem dX4_entry_111 : decode cX4_entry 111 = .ok (.aload_n 0, 1) := by decide +kernel
theorem dX4_entry_112 : decode cX4_entry 112 = .ok (.getfield 29, 3) := by decide +kernel
theorem dX4_entry_115 : decode cX4_entry 115 = .ok (.aload_n 0, 1) := by decide +kernel
theorem dX4_entry_116 : decode cX4_entry 116 = .ok (.getfield 7, 3) := by decide +kernel
theorem dX4_entry_119 : decode cX4_entry 119 = .ok (.iload_n 1, 1) := by decide +kernel
theorem dX4_entry_120 : decode cX4_entry 120 = .ok (.iaload, 1) := by decide +kernel
theorem dX4_entry_121 : decode cX4_entry 121 = .ok (.iaload, 1) := by decide +kernel
theorem dX4_entry_122 : decode cX4_entry 122 = .ok (.iadd, 1) := by decide +kernel
theorem dX4_entry_123 : decode cX4_entry 123 = .ok (.invokevirtual 240, 3) := by decide +kernel
theorem dX4_entry_126 : decode cX4_entry 126 = .ok (.return_, 1) := by decide +kernel
theorem dX4_eager_0 : decode cX4_eager 0 = .ok (.aload_n 0, 1) := by decide +kernel
theorem dX4_eager_1 : decode cX4_eager 1 = .ok (.iconst 0, 1) := by decide +kernel
theorem dX4_eager_2 : decode cX4_eager 2 = .ok (.putfield 85, 3) := by decide +kernel
theorem dX4_eager_5 : decode cX4_eager 5 = .ok (.aload_n 0, 1) := by decide +kernel
theorem dX4_eager_6 : decode cX4_eager 6 = .ok (.iload_n 1, 1) := by decide +kernel
theorem dX4_eager_7 : decode cX4_eager 7 = .ok (.putfield 141, 3) := by decide +kernel
theorem dX4_eager_10 : decode cX4_eager 10 = .ok (.return_, 1) := by decide +kernel
theorem dX4_tell_0 : decode cX4_tell 0 = .ok (.aload_n 0, 1) := by decide +kernel
theorem dX4_tell_1 : decode cX4_tell 1 = .ok (.iload_n 1, 1) := by decide +kernel
theorem dX4_tell_2 : decode cX4_tell 2 = .ok (.invokestatic 165, 3) := by decide +kernel
theorem dX4_tell_5 : decode cX4_tell 5 = .ok (.ifCond .eq 12, 3) := by decide +kernel
theorem dX4_tell_8 : decode cX4_tell 8 = .ok (.iload_n 2, 1) := by decide +kernel
theorem dX4_tell_9 : decode cX4_tell 9 = .ok (.iconst 0, 1) := by decide +kernel
theorem dX4_tell_10 : decode cX4_tell 10 = .ok (.iconst 4, 1) := by decide +kernel
theorem dX4_tell_11 : decode cX4_tell 11 = .ok (.invokestatic 172, 3) := by decide +kernel
theorem dX4_tell_14 : decode cX4_tell 14 = .ok (.ifCond .eq 7, 3) := by decide +kernel
theorem dX4_tell_17 : decode cX4_tell 17 = .ok (.iconst 1, 1) := by decide +kernel
theorem dX4_tell_18 : decode cX4_tell 18 = .ok (.goto 4, 3) := by decide +kernel
theorem dX4_tell_21 : decode cX4_tell 21 = .ok (.iconst 0, 1) := by decide +kernel
theorem dX4_tell_22 : decode cX4_tell 22 = .ok (.putfield 85, 3) := by decide +kernel
theorem dX4_tell_25 : decode cX4_tell 25 = .ok (.aload_n 0, 1) := by decide +kernel
theorem dX4_tell_26 : decode cX4_tell 26 = .ok (.getfield 85, 3) := by decide +kernel
theorem dX4_tell_29 : decode cX4_tell 29 = .ok (.ifCond .le 5, 3) := by decide +kernel
theorem dX4_tell_32 : decode cX4_tell 32 = .ok (.iconst 0, 1) := by decide +kernel
theorem dX4_tell_33 : decode cX4_tell 33 = .ok (.ireturn, 1) := by decide +kernel
theorem dX4_tell_34 : decode cX4_tell 34 = .ok (.aload_n 0, 1) := by decide +kernel
theorem dX4_tell_35 : decode cX4_tell 35 = .ok (.getfield 7, 3) := by decide +kernel
theorem dX4_tell_38 : decode cX4_tell 38 = .ok (.iload_n 1, 1) := by decide +kernel
theorem dX4_tell_39 : decode cX4_tell 39 = .ok (.iaload, 1) := by decide +kernel
theorem dX4_tell_40 : decode cX4_tell 40 = .ok (.istore_n 3, 1) := by decide +kernel
theorem dX4_tell_41 : decode cX4_tell 41 = .ok (.iload_n 2, 1) := by decide +kernel
theorem dX4_tell_42 : decode cX4_tell 42 = .ok (.ifCond .ne 27, 3) := by decide +kernel
theorem dX4_tell_45 : decode cX4_tell 45 = .ok (.iload_n 3, 1) := by decide +kernel
theorem dX4_tell_46 : decode cX4_tell 46 = .ok (.ifCond .ne 7, 3) := by decide +kernel
theorem dX4_tell_49 : decode cX4_tell 49 = .ok (.iconst 0, 1) := by decide +kernel
theorem dX4_tell_50 : decode cX4_tell 50 = .ok (.goto 18, 3) := by decide +kernel
theorem dX4_tell_53 : decode cX4_tell 53 = .ok (.iload_n 3, 1) := by decide +kernel
theorem dX4_tell_54 : decode cX4_tell 54 = .ok (.iconst (-1), 1) := by decide +kernel
theorem dX4_tell_55 : decode cX4_tell 55 = .ok (.if_icmp .ne 7, 3) := by decide +kernel
theorem dX4_tell_58 : decode cX4_tell 58 = .ok (.iconst 1, 1) := by decide +kernel
theorem dX4_tell_59 : decode cX4_tell 59 = .ok (.goto 9, 3) := by decide +kernel
theorem dX4_tell_62 : decode cX4_tell 62 = .ok (.aload_n 0, 1) := by decide +kernel
theorem dX4_tell_63 : decode cX4_tell 63 = .ok (.getfield 17, 3) := by decide +kernel
theorem dX4_tell_66 : decode cX4_tell 66 = .ok (.iload_n 3, 1) := by decide +kernel
theorem dX4_tell_67 : decode cX4_tell 67 = .ok (.iaload, 1) := by decide +kernel
theorem dX4_tell_68 : decode cX4_tell 68 = .ok (.ireturn, 1) := by decide +kernel
theorem dX4_tell_69 : decode cX4_tell 69 = .ok (.iload_n 3, 1) := by decide +kernel
theorem dX4_tell_70 : decode cX4_tell 70 = .ok (.ifCond .gt 5, 3) := by decide +kernel
theorem dX4_tell_73 : decode cX4_tell 73 = .ok (.iconst 0, 1) := by decide +kernel
theorem dX4_tell_74 : decode cX4_tell 74 = .ok (.ireturn, 1) := by decide +kernel
theorem dX4_tell_75 : decode cX4_tell 75 = .ok (.iload_n 2, 1) := by decide +kernel
theorem dX4_tell_76 : decode cX4_tell 76 = .ok (.iconst 1, 1) := by decide +kernel
theorem dX4_tell_77 : decode cX4_tell 77 = .ok (.if_icmp .ne 5, 3) := by decide +kernel
theorem dX4_tell_80 : decode cX4_tell 80 = .ok (.iload_n 3, 1) := by decide +kernel
theorem dX4_tell_81 : decode cX4_tell 81 = .ok (.ireturn, 1) := by decide +kernel
theorem dX4_tell_82 : decode cX4_tell 82 = .ok (.iload_n 2, 1) := by decide +kernel
theorem dX4_tell_83 : decode cX4_tell 83 = .ok (.iconst 2, 1) := by decide +kernel
theorem dX4_tell_84 : decode cX4_tell 84 = .ok (.if_icmp .ne 11, 3) := by decide +kernel
theorem dX4_tell_87 : decode cX4_tell 87 = .ok (.aload_n 0, 1) := by decide +kernel
theorem dX4_tell_88 : decode cX4_tell 88 = .ok (.getfield 13, 3) := by decide +kernel
theorem dX4_tell_91 : decode cX4_tell 91 = .ok (.iload_n 1, 1) := by decide +kernel
theorem dX4_tell_92 : decode cX4_tell 92 = .ok (.laload, 1) := by decide +kernel
theorem dX4_tell_93 : decode cX4_tell 93 = .ok (.l2i, 1) := by decide +kernel
theorem dX4_tell_94 : decode cX4_tell 94 = .ok (.ireturn, 1) := by decide +kernel
theorem dX4_tell_95 : decode cX4_tell 95 = .ok (.iload_n 2, 1) := by decide +kernel
theorem dX4_tell_96 : decode cX4_tell 96 = .ok (.iconst 3, 1) := by decide +kernel
theorem dX4_tell_97 : decode cX4_tell 97 = .ok (.if_icmp .ne 28, 3) := by decide +kernel
theorem dX4_tell_100 : decode cX4_tell 100 = .ok (.aload_n 0, 1) := by decide +kernel
theorem dX4_tell_101 : decode cX4_tell 101 = .ok (.getfield 17, 3) := by decide +kernel
theorem dX4_tell_104 : decode cX4_tell 104 = .ok (.iload_n 3, 1) := by decide +kernel
theorem dX4_tell_105 : decode cX4_tell 105 = .ok (.iaload, 1) := by decide +kernel
theorem dX4_tell_106 : decode cX4_tell 106 = .ok (.iconst 4, 1) := by decide +kernel
theorem dX4_tell_107 : decode cX4_tell 107 = .ok (.if_icmp .ne 11, 3) := by decide +kernel
theorem dX4_tell_110 : decode cX4_tell 110 = .ok (.aload_n 0, 1) := by decide +kernel
theorem dX4_tell_111 : decode cX4_tell 111 = .ok (.iload_n 3, 1) := by decide +kernel
theorem dX4_tell_112 : decode cX4_tell 112 = .ok (.invokevirtual 223, 3) := by decide +kernel
theorem dX4_tell_115 : decode cX4_tell 115 = .ok (.goto 9, 3) := by decide +kernel
theorem dX4_tell_118 : decode cX4_tell 118 = .ok (.aload_n 0, 1) := by decide +kernel
theorem dX4_tell_119 : decode cX4_tell 119 = .ok (.getfield 20, 3) := by decide +kernel
theorem dX4_tell_122 : decode cX4_tell 122 = .ok (.iload_n 3, 1) := by decide +kernel
theorem dX4_tell_123 : decode cX4_tell 123 = .ok (.iaload, 1) := by decide +kernel
theorem dX4_tell_124 : decode cX4_tell 124 = .ok (.ireturn, 1) := by decide +kernel
theorem dX4_tell_125 : decode cX4_tell 125 = .ok (.aload_n 0, 1) := by decide +kernel
theorem dX4_tell_126 : decode cX4_tell 126 = .ok (.getfield 17, 3) := by decide +kernel
theorem dX4_tell_129 : decode cX4_tell 129 = .ok (.iload_n 3, 1) := by decide +kernel
theorem dX4_tell_130 : decode cX4_tell 130 = .ok (.iaload, 1) := by decide +kernel
theorem dX4_tell_131 : decode cX4_tell 131 = .ok (.iconst 4, 1) := by decide +kernel
theorem dX4_tell_132 : decode cX4_tell 132 = .ok (.if_icmp .ne 12, 3) := by decide +kernel
theorem dX4_tell_135 : decode cX4_tell 135 = .ok (.aload_n 0, 1) := by decide +kernel
theorem dX4_tell_136 : decode cX4_tell 136 = .ok (.getfield 35, 3) := by decide +kernel
theorem dX4_tell_139 : decode cX4_tell 139 = .ok (.iload_n 3, 1) := by decide +kernel
theorem dX4_tell_140 : decode cX4_tell 140 = .ok (.iaload, 1) := by decide +kernel
theorem dX4_tell_141 : decode cX4_tell 141 = .ok (.goto 4, 3) := by decide +kernel
theorem dX4_tell_144 : decode cX4_tell 144 = .ok (.iconst 0, 1) := by decide +kernel
theorem dX4_tell_145 : decode cX4_tell 145 = .ok (.ireturn, 1) := by decide +kernel
theorem dX4_value_0 : decode cX4_value 0 = .ok (.aload_n 0, 1) := by decide +kernel
theorem dX4_value_1 : decode cX4_value 1 = .ok (.iload_n 1, 1) := by decide +kernel
theorem dX4_value_2 : decode cX4_value 2 = .ok (.invokestatic 165, 3) := by decide +kernel
theorem dX4_value_5 : decode cX4_value 5 = .ok (.ifCond .ne 7, 3) := by decide +kernel
theorem dX4_value_8 : decode cX4_value 8 = .ok (.iconst 1, 1) := by decide +kernel
theorem dX4_value_9 : decode cX4_value 9 = .ok (.goto 17, 3) := by decide +kernel
theorem dX4_value_12 : decode cX4_value 12 = .ok (.aload_n 0, 1) := by decide +kernel
theorem dX4_value_13 : decode cX4_value 13 = .ok (.getfield 7, 3) := by decide +kernel
theorem dX4_value_16 : decode cX4_value 16 = .ok (.iload_n 1, 1) := by decide +kernel
theorem dX4_value_17 : decode cX4_value 17 = .ok (.iaload, 1) := by decide +kernel
theorem dX4_value_18 : decode cX4_value 18 = .ok (.ifCond .eq 7, 3) := by decide +kernel
theorem dX4_value_21 : decode cX4_value 21 = .ok (.iconst 2, 1) := by decide +kernel
theorem dX4_value_22 : decode cX4_value 22 = .ok (.goto 4, 3) := by decide +kernel
theorem dX4_value_25 : decode cX4_value 25 = .ok (.iconst 0, 1) := by decide +kernel
theorem dX4_value_26 : decode cX4_value 26 = .ok (.putfield 85, 3) := by decide +kernel
theorem dX4_value_29 : decode cX4_value 29 = .ok (.aload_n 0, 1) := by decide +kernel
theorem dX4_value_30 : decode cX4_value 30 = .ok (.getfield 85, 3) := by decide +kernel
theorem dX4_value_33 : decode cX4_value 33 = .ok (.ifCond .le 7, 3) := by decide +kernel
theorem dX4_value_36 : decode cX4_value 36 = .ok (.lconst 0, 1) := by decide +kernel
theorem dX4_value_37 : decode cX4_value 37 = .ok (.goto 9, 3) := by decide +kernel
theorem dX4_value_40 : decode cX4_value 40 = .ok (.aload_n 0, 1) := by decide +kernel
theorem dX4_value_41 : decode cX4_value 41 = .ok (.getfield 13, 3) := by decide +kernel
theorem dX4_value_44 : decode cX4_value 44 = .ok (.iload_n 1, 1) := by decide +kernel
theorem dX4_value_45 : decode cX4_value 45 = .ok (.laload, 1) := by decide +kernel
theorem dX4_value_46 : decode cX4_value 46 = .ok (.lreturn, 1) := by decide +kernel
theorem dX4_same_0 : decode cX4_same 0 = .ok (.aload_n 0, 1) := by decide +kernel
theorem dX4_same_1 : decode cX4_same 1 = .ok (.iload_n 1, 1) := by decide +kernel
theorem dX4_same_2 : decode cX4_same 2 = .ok (.invokestatic 165, 3) := by decide +kernel
theorem dX4_same_5 : decode cX4_same 5 = .ok (.ifCond .eq 14, 3) := by decide +kernel
theorem dX4_same_8 : decode cX4_same 8 = .ok (.iload_n 2, 1) := by decide +kernel
theorem dX4_same_9 : decode cX4_same 9 = .ok (.invokestatic 165, 3) := by decide +kernel
theorem dX4_same_12 : decode cX4_same 12 = .ok (.ifCond .eq 7, 3) := by decide +kernel
theorem dX4_same_15 : decode cX4_same 15 = .ok (.iconst 0, 1) := by decide +kernel
theorem dX4_same_16 : decode cX4_same 16 = .ok (.goto 4, 3) := by decide +kernel
theorem dX4_same_19 : decode cX4_same 19 = .ok (.iconst 1, 1) := by decide +kernel
theorem dX4_same_20 : decode cX4_same 20 = .ok (.putfield 85, 3) := by decide +kernel
theorem dX4_same_23 : decode cX4_same 23 = .ok (.aload_n 0, 1) := by decide +kernel
theorem dX4_same_24 : decode cX4_same 24 = .ok (.getfield 85, 3) := by decide +kernel
theorem dX4_same_27 : decode cX4_same 27 = .ok (.ifCond .ne 48, 3) := by decide +kernel
theorem dX4_same_30 : decode cX4_same 30 = .ok (.aload_n 0, 1) := by decide +kernel
theorem dX4_same_31 : decode cX4_same 31 = .ok (.getfield 7, 3) := by decide +kernel
theorem dX4_same_34 : decode cX4_same 34 = .ok (.iload_n 1, 1) := by decide +kernel
theorem dX4_same_35 : decode cX4_same 35 = .ok (.iaload, 1) := by decide +kernel
theorem dX4_same_36 : decode cX4_same 36 = .ok (.aload_n 0, 1) := by decide +kernel
theorem dX4_same_37 : decode cX4_same 37 = .ok (.getfield 7, 3) := by decide +kernel
theorem dX4_same_40 : decode cX4_same 40 = .ok (.iload_n 2, 1) := by decide +kernel
theorem dX4_same_41 : decode cX4_same 41 = .ok (.iaload, 1) := by decide +kernel
theorem dX4_same_42 : decode cX4_same 42 = .ok (.if_icmp .ne 33, 3) := by decide +kernel
theorem dX4_same_45 : decode cX4_same 45 = .ok (.aload_n 0, 1) := by decide +kernel
theorem dX4_same_46 : decode cX4_same 46 = .ok (.getfield 7, 3) := by decide +kernel
theorem dX4_same_49 : decode cX4_same 49 = .ok (.iload_n 1, 1) := by decide +kernel
theorem dX4_same_50 : decode cX4_same 50 = .ok (.iaload, 1) := by decide +kernel
theorem dX4_same_51 : decode cX4_same 51 = .ok (.iconst (-1), 1) := by decide +kernel
theorem dX4_same_52 : decode cX4_same 52 = .ok (.if_icmp .eq 19, 3) := by decide +kernel
theorem dX4_same_55 : decode cX4_same 55 = .ok (.aload_n 0, 1) := by decide +kernel
theorem dX4_same_56 : decode cX4_same 56 = .ok (.getfield 13, 3) := by decide +kernel
theorem dX4_same_59 : decode cX4_same 59 = .ok (.iload_n 1, 1) := by decide +kernel
theorem dX4_same_60 : decode cX4_same 60 = .ok (.laload, 1) := by decide +kernel
theorem dX4_same_61 : decode cX4_same 61 = .ok (.aload_n 0, 1) := by decide +kernel
theorem dX4_same_62 : decode cX4_same 62 = .ok (.getfield 13, 3) := by decide +kernel
theorem dX4_same_65 : decode cX4_same 65 = .ok (.iload_n 2, 1) := by decide +kernel
theorem dX4_same_66 : decode cX4_same 66 = .ok (.laload, 1) := by decide +kernel
theorem dX4_same_67 : decode cX4_same 67 = .ok (.lcmp, 1) := by decide +kernel
theorem dX4_same_68 : decode cX4_same 68 = .ok (.ifCond .ne 7, 3) := by decide +kernel
theorem dX4_same_71 : decode cX4_same 71 = .ok (.iconst 1, 1) := by decide +kernel
theorem dX4_same_72 : decode cX4_same 72 = .ok (.goto 4, 3) := by decide +kernel
theorem dX4_same_75 : decode cX4_same 75 = .ok (.iconst 0, 1) := by decide +kernel
theorem dX4_same_76 : decode cX4_same 76 = .ok (.ireturn, 1) := by decide +kernel
theorem dX4_total_0 : decode cX4_total 0 = .ok (.aload_n 0, 1) := by decide +kernel
theorem dX4_total_1 : decode cX4_total 1 = .ok (.iload_n 1, 1) := by decide +kernel
theorem dX4_total_2 : decode cX4_total 2 = .ok (.iconst 0, 1) := by decide +kernel
theorem dX4_total_3 : decode cX4_total 3 = .ok (.iconst 4, 1) := by decide +kernel
theorem dX4_total_4 : decode cX4_total 4 = .ok (.invokestatic 172, 3) := by decide +kernel
theorem dX4_total_7 : decode cX4_total 7 = .ok (.ifCond .eq 7, 3) := by decide +kernel
theorem dX4_total_10 : decode cX4_total 10 = .ok (.iconst 1, 1) := by decide +kernel
theorem dX4_total_11 : decode cX4_total 11 = .ok (.goto 4, 3) := by decide +kernel
theorem dX4_total_14 : decode cX4_total 14 = .ok (.iconst 0, 1) := by decide +kernel
theorem dX4_total_15 : decode cX4_total 15 = .ok (.putfield 85, 3) := by decide +kernel
theorem dX4_total_18 : decode cX4_total 18 = .ok (.aload_n 0, 1) := by decide +kernel
theorem dX4_total_19 : decode cX4_total 19 = .ok (.getfield 85, 3) := by decide +kernel
theorem dX4_total_22 : decode cX4_total 22 = .ok (.ifCond .le 5, 3) := by decide +kernel
theorem dX4_total_25 : decode cX4_total 25 = .ok (.iconst 0, 1) := by decide +kernel
theorem dX4_total_26 : decode cX4_total 26 = .ok (.ireturn, 1) := by decide +kernel
theorem dX4_total_27 : decode cX4_total 27 = .ok (.iload_n 1, 1) := by decide +kernel
theorem dX4_total_28 : decode cX4_total 28 = .ok (.ifCond .ne 11, 3) := by decide +kernel
theorem dX4_total_31 : decode cX4_total 31 = .ok (.aload_n 0, 1) := by decide +kernel
theorem dX4_total_32 : decode cX4_total 32 = .ok (.getfield 132, 3) := by decide +kernel
theorem dX4_total_35 : decode cX4_total 35 = .ok (.l2i, 1) := by decide +kernel
theorem dX4_total_36 : decode cX4_total 36 = .ok (.goto 45, 3) := by decide +kernel
theorem dX4_total_39 : decode cX4_total 39 = .ok (.iload_n 1, 1) := by decide +kernel
theorem dX4_total_40 : decode cX4_total 40 = .ok (.iconst 1, 1) := by decide +kernel
theorem dX4_total_41 : decode cX4_total 41 = .ok (.if_icmp .ne 11, 3) := by decide +kernel
theorem dX4_total_44 : decode cX4_total 44 = .ok (.aload_n 0, 1) := by decide +kernel
theorem dX4_total_45 : decode cX4_total 45 = .ok (.getfield 81, 3) := by decide +kernel
theorem dX4_total_48 : decode cX4_total 48 = .ok (.l2i, 1) := by decide +kernel
theorem dX4_total_49 : decode cX4_total 49 = .ok (.goto 32, 3) := by decide +kernel
theorem dX4_total_52 : decode cX4_total 52 = .ok (.iload_n 1, 1) := by decide +kernel
theorem dX4_total_53 : decode cX4_total 53 = .ok (.iconst 2, 1) := by decide +kernel
theorem dX4_total_54 : decode cX4_total 54 = .ok (.if_icmp .ne 10, 3) := by decide +kernel
theorem dX4_total_57 : decode cX4_total 57 = .ok (.aload_n 0, 1) := by decide +kernel
theorem dX4_total_58 : decode cX4_total 58 = .ok (.getfield 99, 3) := by decide +kernel
theorem dX4_total_61 : decode cX4_total 61 = .ok (.goto 20, 3) := by decide +kernel
theorem dX4_total_64 : decode cX4_total 64 = .ok (.iload_n 1, 1) := by decide +kernel
theorem dX4_total_65 : decode cX4_total 65 = .ok (.iconst 3, 1) := by decide +kernel
theorem dX4_total_66 : decode cX4_total 66 = .ok (.if_icmp .ne 10, 3) := by decide +kernel
theorem dX4_total_69 : decode cX4_total 69 = .ok (.aload_n 0, 1) := by decide +kernel
theorem dX4_total_70 : decode cX4_total 70 = .ok (.getfield 138, 3) := by decide +kernel
theorem dX4_total_73 : decode cX4_total 73 = .ok (.goto 8, 3) := by decide +kernel
theorem dX4_total_76 : decode cX4_total 76 = .ok (.aload_n 0, 1) := by decide +kernel
theorem dX4_total_77 : decode cX4_total 77 = .ok (.getfield 135, 3) := by decide +kernel
theorem dX4_total_80 : decode cX4_total 80 = .ok (.l2i, 1) := by decide +kernel
theorem dX4_total_81 : decode cX4_total 81 = .ok (.ireturn, 1) := by decide +kernel
