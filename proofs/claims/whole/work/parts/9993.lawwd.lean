theorem wq_0 : Cond.constantLong RL 112 4294967295 ∈ AW := List.mem_filter.mpr ⟨List.mem_append_right _ (List.mem_of_getElem? (i := 1432) (by decide +kernel)), by decide +kernel⟩
theorem wq_1 : Cond.methodLink RL 114 yL_number ∈ AW := List.mem_filter.mpr ⟨List.mem_append_right _ (List.mem_of_getElem? (i := 189) (by decide +kernel)), by decide +kernel⟩
theorem wq_2 : Cond.static yL_number ∈ AW := List.mem_filter.mpr ⟨List.mem_append_right _ (List.mem_of_getElem? (i := 190) (by decide +kernel)), by decide +kernel⟩
theorem wq_3 : Cond.initialized yL_number.cls ∈ AW := List.mem_filter.mpr ⟨List.mem_append_right _ (List.mem_of_getElem? (i := 0) (by decide +kernel)), by decide +kernel⟩
theorem wq_4 : Cond.codeWith yL_number cL_number 5 (some .int) [(0, 6, 9, 13)] ∈ AW := List.mem_filter.mpr ⟨List.mem_append_right _ (List.mem_of_getElem? (i := 191) (by decide +kernel)), by decide +kernel⟩
theorem wq_5 : Cond.methodLink RL 117 yX4_number ∈ AW := List.mem_filter.mpr ⟨List.mem_append_right _ (List.mem_of_getElem? (i := 1227) (by decide +kernel)), by decide +kernel⟩
theorem wq_6 : Cond.instanceMethod yX4_number ∈ AW := List.mem_filter.mpr ⟨List.mem_append_right _ (List.mem_of_getElem? (i := 1228) (by decide +kernel)), by decide +kernel⟩
theorem wq_7 : Cond.selects RX4 yX4_number yX4_number ∈ AW := List.mem_filter.mpr ⟨List.mem_append_right _ (List.mem_of_getElem? (i := 1229) (by decide +kernel)), by decide +kernel⟩
theorem wq_8 : Cond.initialized RX4 ∈ AW := List.mem_filter.mpr ⟨List.mem_append_right _ (List.mem_of_getElem? (i := 6) (by decide +kernel)), by decide +kernel⟩
theorem wq_9 : Cond.code yX4_number cX4_number 4 none ∈ AW := List.mem_filter.mpr ⟨List.mem_append_right _ (List.mem_of_getElem? (i := 1230) (by decide +kernel)), by decide +kernel⟩
theorem wq_10 : Cond.methodLink RL 118 yX4_thrown ∈ AW := List.mem_filter.mpr ⟨List.mem_append_right _ (List.mem_of_getElem? (i := 1194) (by decide +kernel)), by decide +kernel⟩
theorem wq_11 : Cond.instanceMethod yX4_thrown ∈ AW := List.mem_filter.mpr ⟨List.mem_append_right _ (List.mem_of_getElem? (i := 1195) (by decide +kernel)), by decide +kernel⟩
theorem wq_12 : Cond.selects RX4 yX4_thrown yX4_thrown ∈ AW := List.mem_filter.mpr ⟨List.mem_append_right _ (List.mem_of_getElem? (i := 1196) (by decide +kernel)), by decide +kernel⟩
theorem wq_13 : Cond.code yX4_thrown cX4_thrown 1 (some .int) ∈ AW := List.mem_filter.mpr ⟨List.mem_append_right _ (List.mem_of_getElem? (i := 1197) (by decide +kernel)), by decide +kernel⟩
theorem wq_14 : Cond.methodLink RL 122 yL_nil ∈ AW := List.mem_filter.mpr ⟨List.mem_append_right _ (List.mem_of_getElem? (i := 275) (by decide +kernel)), by decide +kernel⟩
theorem wq_15 : Cond.static yL_nil ∈ AW := List.mem_filter.mpr ⟨List.mem_append_right _ (List.mem_of_getElem? (i := 276) (by decide +kernel)), by decide +kernel⟩
theorem wq_16 : Cond.initialized yL_nil.cls ∈ AW := List.mem_filter.mpr ⟨List.mem_append_right _ (List.mem_of_getElem? (i := 0) (by decide +kernel)), by decide +kernel⟩
theorem wq_17 : Cond.codeWith yL_nil cL_nil 3 (some .int) [(0, 5, 8, 13)] ∈ AW := List.mem_filter.mpr ⟨List.mem_append_right _ (List.mem_of_getElem? (i := 277) (by decide +kernel)), by decide +kernel⟩
theorem wq_18 : Cond.methodLink RL 125 yX4_nil ∈ AW := List.mem_filter.mpr ⟨List.mem_append_right _ (List.mem_of_getElem? (i := 1238) (by decide +kernel)), by decide +kernel⟩
theorem wq_19 : Cond.instanceMethod yX4_nil ∈ AW := List.mem_filter.mpr ⟨List.mem_append_right _ (List.mem_of_getElem? (i := 1239) (by decide +kernel)), by decide +kernel⟩
theorem wq_20 : Cond.selects RX4 yX4_nil yX4_nil ∈ AW := List.mem_filter.mpr ⟨List.mem_append_right _ (List.mem_of_getElem? (i := 1240) (by decide +kernel)), by decide +kernel⟩
theorem wq_21 : Cond.code yX4_nil cX4_nil 2 none ∈ AW := List.mem_filter.mpr ⟨List.mem_append_right _ (List.mem_of_getElem? (i := 1241) (by decide +kernel)), by decide +kernel⟩
theorem wq_22 : Cond.methodLink RL 126 yL_move ∈ AW := List.mem_filter.mpr ⟨List.mem_append_right _ (List.mem_of_getElem? (i := 286) (by decide +kernel)), by decide +kernel⟩
theorem wq_23 : Cond.static yL_move ∈ AW := List.mem_filter.mpr ⟨List.mem_append_right _ (List.mem_of_getElem? (i := 287) (by decide +kernel)), by decide +kernel⟩
theorem wq_24 : Cond.initialized yL_move.cls ∈ AW := List.mem_filter.mpr ⟨List.mem_append_right _ (List.mem_of_getElem? (i := 0) (by decide +kernel)), by decide +kernel⟩
theorem wq_25 : Cond.codeWith yL_move cL_move 4 (some .int) [(0, 6, 9, 13)] ∈ AW := List.mem_filter.mpr ⟨List.mem_append_right _ (List.mem_of_getElem? (i := 288) (by decide +kernel)), by decide +kernel⟩
theorem wq_26 : Cond.methodLink RL 129 yX4_move ∈ AW := List.mem_filter.mpr ⟨List.mem_append_right _ (List.mem_of_getElem? (i := 1242) (by decide +kernel)), by decide +kernel⟩
theorem wq_27 : Cond.instanceMethod yX4_move ∈ AW := List.mem_filter.mpr ⟨List.mem_append_right _ (List.mem_of_getElem? (i := 1243) (by decide +kernel)), by decide +kernel⟩
theorem wq_28 : Cond.selects RX4 yX4_move yX4_move ∈ AW := List.mem_filter.mpr ⟨List.mem_append_right _ (List.mem_of_getElem? (i := 1244) (by decide +kernel)), by decide +kernel⟩
theorem wq_29 : Cond.code yX4_move cX4_move 3 none ∈ AW := List.mem_filter.mpr ⟨List.mem_append_right _ (List.mem_of_getElem? (i := 1245) (by decide +kernel)), by decide +kernel⟩
theorem wq_30 : Cond.methodLink RL 130 yL_make ∈ AW := List.mem_filter.mpr ⟨List.mem_append_right _ (List.mem_of_getElem? (i := 297) (by decide +kernel)), by decide +kernel⟩
theorem wq_31 : Cond.static yL_make ∈ AW := List.mem_filter.mpr ⟨List.mem_append_right _ (List.mem_of_getElem? (i := 298) (by decide +kernel)), by decide +kernel⟩
theorem wq_32 : Cond.initialized yL_make.cls ∈ AW := List.mem_filter.mpr ⟨List.mem_append_right _ (List.mem_of_getElem? (i := 0) (by decide +kernel)), by decide +kernel⟩
theorem wq_33 : Cond.codeWith yL_make cL_make 5 (some .int) [(0, 10, 13, 13), (0, 10, 17, 27)] ∈ AW := List.mem_filter.mpr ⟨List.mem_append_right _ (List.mem_of_getElem? (i := 299) (by decide +kernel)), by decide +kernel⟩
theorem wq_34 : Cond.methodLink RL 133 yX4_make ∈ AW := List.mem_filter.mpr ⟨List.mem_append_right _ (List.mem_of_getElem? (i := 1246) (by decide +kernel)), by decide +kernel⟩
theorem wq_35 : Cond.instanceMethod yX4_make ∈ AW := List.mem_filter.mpr ⟨List.mem_append_right _ (List.mem_of_getElem? (i := 1247) (by decide +kernel)), by decide +kernel⟩
theorem wq_36 : Cond.selects RX4 yX4_make yX4_make ∈ AW := List.mem_filter.mpr ⟨List.mem_append_right _ (List.mem_of_getElem? (i := 1248) (by decide +kernel)), by decide +kernel⟩
theorem wq_37 : Cond.code yX4_make cX4_make 3 (some .int) ∈ AW := List.mem_filter.mpr ⟨List.mem_append_right _ (List.mem_of_getElem? (i := 1249) (by decide +kernel)), by decide +kernel⟩
theorem wq_38 : Cond.methodLink RL 134 yL_text ∈ AW := List.mem_filter.mpr ⟨List.mem_append_right _ (List.mem_of_getElem? (i := 639) (by decide +kernel)), by decide +kernel⟩
theorem wq_39 : Cond.static yL_text ∈ AW := List.mem_filter.mpr ⟨List.mem_append_right _ (List.mem_of_getElem? (i := 640) (by decide +kernel)), by decide +kernel⟩
theorem wq_40 : Cond.initialized yL_text.cls ∈ AW := List.mem_filter.mpr ⟨List.mem_append_right _ (List.mem_of_getElem? (i := 0) (by decide +kernel)), by decide +kernel⟩
theorem wq_41 : Cond.codeWith yL_text cL_text 5 (some .int) [(0, 10, 13, 13), (0, 10, 17, 27)] ∈ AW := List.mem_filter.mpr ⟨List.mem_append_right _ (List.mem_of_getElem? (i := 641) (by decide +kernel)), by decide +kernel⟩
theorem wq_42 : Cond.methodLink RL 136 yX4_text ∈ AW := List.mem_filter.mpr ⟨List.mem_append_right _ (List.mem_of_getElem? (i := 1275) (by decide +kernel)), by decide +kernel⟩
theorem wq_43 : Cond.instanceMethod yX4_text ∈ AW := List.mem_filter.mpr ⟨List.mem_append_right _ (List.mem_of_getElem? (i := 1276) (by decide +kernel)), by decide +kernel⟩
theorem wq_44 : Cond.selects RX4 yX4_text yX4_text ∈ AW := List.mem_filter.mpr ⟨List.mem_append_right _ (List.mem_of_getElem? (i := 1277) (by decide +kernel)), by decide +kernel⟩
theorem wq_45 : Cond.code yX4_text cX4_text 5 (some .int) ∈ AW := List.mem_filter.mpr ⟨List.mem_append_right _ (List.mem_of_getElem? (i := 1278) (by decide +kernel)), by decide +kernel⟩
theorem wq_46 : Cond.methodLink RL 137 yL_map ∈ AW := List.mem_filter.mpr ⟨List.mem_append_right _ (List.mem_of_getElem? (i := 647) (by decide +kernel)), by decide +kernel⟩
theorem wq_47 : Cond.static yL_map ∈ AW := List.mem_filter.mpr ⟨List.mem_append_right _ (List.mem_of_getElem? (i := 648) (by decide +kernel)), by decide +kernel⟩
theorem wq_48 : Cond.initialized yL_map.cls ∈ AW := List.mem_filter.mpr ⟨List.mem_append_right _ (List.mem_of_getElem? (i := 0) (by decide +kernel)), by decide +kernel⟩
theorem wq_49 : Cond.codeWith yL_map cL_map 7 (some .int) [(0, 14, 17, 13), (0, 14, 21, 27)] ∈ AW := List.mem_filter.mpr ⟨List.mem_append_right _ (List.mem_of_getElem? (i := 649) (by decide +kernel)), by decide +kernel⟩
theorem wq_50 : Cond.methodLink RL 140 yX4_map ∈ AW := List.mem_filter.mpr ⟨List.mem_append_right _ (List.mem_of_getElem? (i := 1287) (by decide +kernel)), by decide +kernel⟩
theorem wq_51 : Cond.instanceMethod yX4_map ∈ AW := List.mem_filter.mpr ⟨List.mem_append_right _ (List.mem_of_getElem? (i := 1288) (by decide +kernel)), by decide +kernel⟩
theorem wq_52 : Cond.selects RX4 yX4_map yX4_map ∈ AW := List.mem_filter.mpr ⟨List.mem_append_right _ (List.mem_of_getElem? (i := 1289) (by decide +kernel)), by decide +kernel⟩
theorem wq_53 : Cond.code yX4_map cX4_map 7 (some .int) ∈ AW := List.mem_filter.mpr ⟨List.mem_append_right _ (List.mem_of_getElem? (i := 1290) (by decide +kernel)), by decide +kernel⟩
theorem wq_54 : Cond.methodLink RL 141 yL_join ∈ AW := List.mem_filter.mpr ⟨List.mem_append_right _ (List.mem_of_getElem? (i := 679) (by decide +kernel)), by decide +kernel⟩
theorem wq_55 : Cond.static yL_join ∈ AW := List.mem_filter.mpr ⟨List.mem_append_right _ (List.mem_of_getElem? (i := 680) (by decide +kernel)), by decide +kernel⟩
theorem wq_56 : Cond.initialized yL_join.cls ∈ AW := List.mem_filter.mpr ⟨List.mem_append_right _ (List.mem_of_getElem? (i := 0) (by decide +kernel)), by decide +kernel⟩
theorem wq_57 : Cond.codeWith yL_join cL_join 6 (some .int) [(0, 12, 15, 13), (0, 12, 19, 40), (0, 12, 23, 27)] ∈ AW := List.mem_filter.mpr ⟨List.mem_append_right _ (List.mem_of_getElem? (i := 681) (by decide +kernel)), by decide +kernel⟩
theorem wq_58 : Cond.methodLink RL 144 yX4_join ∈ AW := List.mem_filter.mpr ⟨List.mem_append_right _ (List.mem_of_getElem? (i := 1292) (by decide +kernel)), by decide +kernel⟩
theorem wq_59 : Cond.instanceMethod yX4_join ∈ AW := List.mem_filter.mpr ⟨List.mem_append_right _ (List.mem_of_getElem? (i := 1293) (by decide +kernel)), by decide +kernel⟩
theorem wq_60 : Cond.selects RX4 yX4_join yX4_join ∈ AW := List.mem_filter.mpr ⟨List.mem_append_right _ (List.mem_of_getElem? (i := 1294) (by decide +kernel)), by decide +kernel⟩
theorem wq_61 : Cond.code yX4_join cX4_join 10 (some .int) ∈ AW := List.mem_filter.mpr ⟨List.mem_append_right _ (List.mem_of_getElem? (i := 1295) (by decide +kernel)), by decide +kernel⟩
theorem wq_62 : Cond.methodLink RL 145 yL_part ∈ AW := List.mem_filter.mpr ⟨List.mem_append_right _ (List.mem_of_getElem? (i := 735) (by decide +kernel)), by decide +kernel⟩
theorem wq_63 : Cond.static yL_part ∈ AW := List.mem_filter.mpr ⟨List.mem_append_right _ (List.mem_of_getElem? (i := 736) (by decide +kernel)), by decide +kernel⟩
theorem wq_64 : Cond.initialized yL_part.cls ∈ AW := List.mem_filter.mpr ⟨List.mem_append_right _ (List.mem_of_getElem? (i := 0) (by decide +kernel)), by decide +kernel⟩
theorem wq_65 : Cond.codeWith yL_part cL_part 7 (some .int) [(0, 14, 17, 13), (0, 14, 21, 40), (0, 14, 25, 45), (0, 14, 29, 27)] ∈ AW := List.mem_filter.mpr ⟨List.mem_append_right _ (List.mem_of_getElem? (i := 737) (by decide +kernel)), by decide +kernel⟩
theorem wq_66 : Cond.methodLink RL 147 yX4_part ∈ AW := List.mem_filter.mpr ⟨List.mem_append_right _ (List.mem_of_getElem? (i := 1312) (by decide +kernel)), by decide +kernel⟩
theorem wq_67 : Cond.instanceMethod yX4_part ∈ AW := List.mem_filter.mpr ⟨List.mem_append_right _ (List.mem_of_getElem? (i := 1313) (by decide +kernel)), by decide +kernel⟩
theorem wq_68 : Cond.selects RX4 yX4_part yX4_part ∈ AW := List.mem_filter.mpr ⟨List.mem_append_right _ (List.mem_of_getElem? (i := 1314) (by decide +kernel)), by decide +kernel⟩
theorem wq_69 : Cond.code yX4_part cX4_part 9 (some .int) ∈ AW := List.mem_filter.mpr ⟨List.mem_append_right _ (List.mem_of_getElem? (i := 1315) (by decide +kernel)), by decide +kernel⟩
theorem wq_70 : Cond.methodLink RL 148 yL_compare ∈ AW := List.mem_filter.mpr ⟨List.mem_append_right _ (List.mem_of_getElem? (i := 762) (by decide +kernel)), by decide +kernel⟩
theorem wq_71 : Cond.static yL_compare ∈ AW := List.mem_filter.mpr ⟨List.mem_append_right _ (List.mem_of_getElem? (i := 763) (by decide +kernel)), by decide +kernel⟩
theorem wq_72 : Cond.initialized yL_compare.cls ∈ AW := List.mem_filter.mpr ⟨List.mem_append_right _ (List.mem_of_getElem? (i := 0) (by decide +kernel)), by decide +kernel⟩
theorem wq_73 : Cond.codeWith yL_compare cL_compare 5 (some .int) [(0, 10, 13, 13), (0, 10, 17, 40)] ∈ AW := List.mem_filter.mpr ⟨List.mem_append_right _ (List.mem_of_getElem? (i := 764) (by decide +kernel)), by decide +kernel⟩
theorem wq_74 : Cond.methodLink RL 150 yX4_compare ∈ AW := List.mem_filter.mpr ⟨List.mem_append_right _ (List.mem_of_getElem? (i := 1316) (by decide +kernel)), by decide +kernel⟩
theorem wq_75 : Cond.instanceMethod yX4_compare ∈ AW := List.mem_filter.mpr ⟨List.mem_append_right _ (List.mem_of_getElem? (i := 1317) (by decide +kernel)), by decide +kernel⟩
theorem wq_76 : Cond.selects RX4 yX4_compare yX4_compare ∈ AW := List.mem_filter.mpr ⟨List.mem_append_right _ (List.mem_of_getElem? (i := 1318) (by decide +kernel)), by decide +kernel⟩
theorem wq_77 : Cond.code yX4_compare cX4_compare 3 (some .int) ∈ AW := List.mem_filter.mpr ⟨List.mem_append_right _ (List.mem_of_getElem? (i := 1319) (by decide +kernel)), by decide +kernel⟩
theorem wq_78 : Cond.methodLink RL 151 yL_byteAt ∈ AW := List.mem_filter.mpr ⟨List.mem_append_right _ (List.mem_of_getElem? (i := 781) (by decide +kernel)), by decide +kernel⟩
theorem wq_79 : Cond.static yL_byteAt ∈ AW := List.mem_filter.mpr ⟨List.mem_append_right _ (List.mem_of_getElem? (i := 782) (by decide +kernel)), by decide +kernel⟩
theorem wq_80 : Cond.initialized yL_byteAt.cls ∈ AW := List.mem_filter.mpr ⟨List.mem_append_right _ (List.mem_of_getElem? (i := 0) (by decide +kernel)), by decide +kernel⟩
theorem wq_81 : Cond.codeWith yL_byteAt cL_byteAt 5 (some .int) [(0, 10, 13, 13), (0, 10, 17, 40), (0, 10, 21, 45)] ∈ AW := List.mem_filter.mpr ⟨List.mem_append_right _ (List.mem_of_getElem? (i := 783) (by decide +kernel)), by decide +kernel⟩
theorem wq_82 : Cond.methodLink RL 153 yX4_byteAt ∈ AW := List.mem_filter.mpr ⟨List.mem_append_right _ (List.mem_of_getElem? (i := 1324) (by decide +kernel)), by decide +kernel⟩
theorem wq_83 : Cond.instanceMethod yX4_byteAt ∈ AW := List.mem_filter.mpr ⟨List.mem_append_right _ (List.mem_of_getElem? (i := 1325) (by decide +kernel)), by decide +kernel⟩
theorem wq_84 : Cond.selects RX4 yX4_byteAt yX4_byteAt ∈ AW := List.mem_filter.mpr ⟨List.mem_append_right _ (List.mem_of_getElem? (i := 1326) (by decide +kernel)), by decide +kernel⟩
theorem wq_85 : Cond.code yX4_byteAt cX4_byteAt 3 (some .int) ∈ AW := List.mem_filter.mpr ⟨List.mem_append_right _ (List.mem_of_getElem? (i := 1327) (by decide +kernel)), by decide +kernel⟩
theorem wq_86 : Cond.methodLink RL 154 yL_setByte ∈ AW := List.mem_filter.mpr ⟨List.mem_append_right _ (List.mem_of_getElem? (i := 800) (by decide +kernel)), by decide +kernel⟩
theorem wq_87 : Cond.static yL_setByte ∈ AW := List.mem_filter.mpr ⟨List.mem_append_right _ (List.mem_of_getElem? (i := 801) (by decide +kernel)), by decide +kernel⟩
theorem wq_88 : Cond.initialized yL_setByte.cls ∈ AW := List.mem_filter.mpr ⟨List.mem_append_right _ (List.mem_of_getElem? (i := 0) (by decide +kernel)), by decide +kernel⟩
theorem wq_89 : Cond.codeWith yL_setByte cL_setByte 5 (some .int) [(0, 7, 10, 13), (0, 7, 14, 40), (0, 7, 18, 45)] ∈ AW := List.mem_filter.mpr ⟨List.mem_append_right _ (List.mem_of_getElem? (i := 802) (by decide +kernel)), by decide +kernel⟩
theorem wq_90 : Cond.methodLink RL 157 yX4_setByte ∈ AW := List.mem_filter.mpr ⟨List.mem_append_right _ (List.mem_of_getElem? (i := 1328) (by decide +kernel)), by decide +kernel⟩
theorem wq_91 : Cond.instanceMethod yX4_setByte ∈ AW := List.mem_filter.mpr ⟨List.mem_append_right _ (List.mem_of_getElem? (i := 1329) (by decide +kernel)), by decide +kernel⟩
theorem wq_92 : Cond.selects RX4 yX4_setByte yX4_setByte ∈ AW := List.mem_filter.mpr ⟨List.mem_append_right _ (List.mem_of_getElem? (i := 1330) (by decide +kernel)), by decide +kernel⟩
theorem wq_93 : Cond.code yX4_setByte cX4_setByte 4 none ∈ AW := List.mem_filter.mpr ⟨List.mem_append_right _ (List.mem_of_getElem? (i := 1331) (by decide +kernel)), by decide +kernel⟩
theorem wq_94 : Cond.methodLink RL 158 yL_shift ∈ AW := List.mem_filter.mpr ⟨List.mem_append_right _ (List.mem_of_getElem? (i := 817) (by decide +kernel)), by decide +kernel⟩
theorem wq_95 : Cond.static yL_shift ∈ AW := List.mem_filter.mpr ⟨List.mem_append_right _ (List.mem_of_getElem? (i := 818) (by decide +kernel)), by decide +kernel⟩
theorem wq_96 : Cond.initialized yL_shift.cls ∈ AW := List.mem_filter.mpr ⟨List.mem_append_right _ (List.mem_of_getElem? (i := 0) (by decide +kernel)), by decide +kernel⟩
theorem wq_97 : Cond.codeWith yL_shift cL_shift 5 (some .int) [(0, 7, 10, 13), (0, 7, 14, 40), (0, 7, 18, 45)] ∈ AW := List.mem_filter.mpr ⟨List.mem_append_right _ (List.mem_of_getElem? (i := 819) (by decide +kernel)), by decide +kernel⟩
theorem wq_98 : Cond.methodLink RL 160 yX4_shift ∈ AW := List.mem_filter.mpr ⟨List.mem_append_right _ (List.mem_of_getElem? (i := 1332) (by decide +kernel)), by decide +kernel⟩
theorem wq_99 : Cond.instanceMethod yX4_shift ∈ AW := List.mem_filter.mpr ⟨List.mem_append_right _ (List.mem_of_getElem? (i := 1333) (by decide +kernel)), by decide +kernel⟩
theorem wq_100 : Cond.selects RX4 yX4_shift yX4_shift ∈ AW := List.mem_filter.mpr ⟨List.mem_append_right _ (List.mem_of_getElem? (i := 1334) (by decide +kernel)), by decide +kernel⟩
theorem wq_101 : Cond.code yX4_shift cX4_shift 4 none ∈ AW := List.mem_filter.mpr ⟨List.mem_append_right _ (List.mem_of_getElem? (i := 1335) (by decide +kernel)), by decide +kernel⟩
theorem wq_102 : Cond.methodLink RL 161 yL_load ∈ AW := List.mem_filter.mpr ⟨List.mem_append_right _ (List.mem_of_getElem? (i := 835) (by decide +kernel)), by decide +kernel⟩
theorem wq_103 : Cond.static yL_load ∈ AW := List.mem_filter.mpr ⟨List.mem_append_right _ (List.mem_of_getElem? (i := 836) (by decide +kernel)), by decide +kernel⟩
theorem wq_104 : Cond.initialized yL_load.cls ∈ AW := List.mem_filter.mpr ⟨List.mem_append_right _ (List.mem_of_getElem? (i := 0) (by decide +kernel)), by decide +kernel⟩
theorem wq_105 : Cond.codeWith yL_load cL_load 5 (some .int) [(0, 7, 10, 13), (0, 7, 14, 40), (0, 7, 18, 45)] ∈ AW := List.mem_filter.mpr ⟨List.mem_append_right _ (List.mem_of_getElem? (i := 837) (by decide +kernel)), by decide +kernel⟩
theorem wq_106 : Cond.methodLink RL 163 yX4_load ∈ AW := List.mem_filter.mpr ⟨List.mem_append_right _ (List.mem_of_getElem? (i := 1336) (by decide +kernel)), by decide +kernel⟩
theorem wq_107 : Cond.instanceMethod yX4_load ∈ AW := List.mem_filter.mpr ⟨List.mem_append_right _ (List.mem_of_getElem? (i := 1337) (by decide +kernel)), by decide +kernel⟩
theorem wq_108 : Cond.selects RX4 yX4_load yX4_load ∈ AW := List.mem_filter.mpr ⟨List.mem_append_right _ (List.mem_of_getElem? (i := 1338) (by decide +kernel)), by decide +kernel⟩
theorem wq_109 : Cond.code yX4_load cX4_load 5 none ∈ AW := List.mem_filter.mpr ⟨List.mem_append_right _ (List.mem_of_getElem? (i := 1339) (by decide +kernel)), by decide +kernel⟩
theorem wq_110 : Cond.methodLink RL 164 yL_store ∈ AW := List.mem_filter.mpr ⟨List.mem_append_right _ (List.mem_of_getElem? (i := 848) (by decide +kernel)), by decide +kernel⟩
theorem wq_111 : Cond.static yL_store ∈ AW := List.mem_filter.mpr ⟨List.mem_append_right _ (List.mem_of_getElem? (i := 849) (by decide +kernel)), by decide +kernel⟩
theorem wq_112 : Cond.initialized yL_store.cls ∈ AW := List.mem_filter.mpr ⟨List.mem_append_right _ (List.mem_of_getElem? (i := 0) (by decide +kernel)), by decide +kernel⟩
theorem wq_113 : Cond.codeWith yL_store cL_store 5 (some .int) [(0, 7, 10, 13), (0, 7, 14, 40), (0, 7, 18, 45)] ∈ AW := List.mem_filter.mpr ⟨List.mem_append_right _ (List.mem_of_getElem? (i := 850) (by decide +kernel)), by decide +kernel⟩
theorem wq_114 : Cond.methodLink RL 166 yX4_store ∈ AW := List.mem_filter.mpr ⟨List.mem_append_right _ (List.mem_of_getElem? (i := 1348) (by decide +kernel)), by decide +kernel⟩
theorem wq_115 : Cond.instanceMethod yX4_store ∈ AW := List.mem_filter.mpr ⟨List.mem_append_right _ (List.mem_of_getElem? (i := 1349) (by decide +kernel)), by decide +kernel⟩
theorem wq_116 : Cond.selects RX4 yX4_store yX4_store ∈ AW := List.mem_filter.mpr ⟨List.mem_append_right _ (List.mem_of_getElem? (i := 1350) (by decide +kernel)), by decide +kernel⟩
theorem wq_117 : Cond.code yX4_store cX4_store 5 none ∈ AW := List.mem_filter.mpr ⟨List.mem_append_right _ (List.mem_of_getElem? (i := 1351) (by decide +kernel)), by decide +kernel⟩
theorem wq_118 : Cond.methodLink RL 167 yL_copy ∈ AW := List.mem_filter.mpr ⟨List.mem_append_right _ (List.mem_of_getElem? (i := 855) (by decide +kernel)), by decide +kernel⟩
theorem wq_119 : Cond.static yL_copy ∈ AW := List.mem_filter.mpr ⟨List.mem_append_right _ (List.mem_of_getElem? (i := 856) (by decide +kernel)), by decide +kernel⟩
theorem wq_120 : Cond.initialized yL_copy.cls ∈ AW := List.mem_filter.mpr ⟨List.mem_append_right _ (List.mem_of_getElem? (i := 0) (by decide +kernel)), by decide +kernel⟩
theorem wq_121 : Cond.codeWith yL_copy cL_copy 5 (some .int) [(0, 7, 10, 13), (0, 7, 14, 40), (0, 7, 18, 45)] ∈ AW := List.mem_filter.mpr ⟨List.mem_append_right _ (List.mem_of_getElem? (i := 857) (by decide +kernel)), by decide +kernel⟩
theorem wq_122 : Cond.methodLink RL 169 yX4_copy ∈ AW := List.mem_filter.mpr ⟨List.mem_append_right _ (List.mem_of_getElem? (i := 1352) (by decide +kernel)), by decide +kernel⟩
theorem wq_123 : Cond.instanceMethod yX4_copy ∈ AW := List.mem_filter.mpr ⟨List.mem_append_right _ (List.mem_of_getElem? (i := 1353) (by decide +kernel)), by decide +kernel⟩
theorem wq_124 : Cond.selects RX4 yX4_copy yX4_copy ∈ AW := List.mem_filter.mpr ⟨List.mem_append_right _ (List.mem_of_getElem? (i := 1354) (by decide +kernel)), by decide +kernel⟩
theorem wq_125 : Cond.code yX4_copy cX4_copy 8 none ∈ AW := List.mem_filter.mpr ⟨List.mem_append_right _ (List.mem_of_getElem? (i := 1355) (by decide +kernel)), by decide +kernel⟩
theorem wq_126 : Cond.methodLink RL 170 yL_put ∈ AW := List.mem_filter.mpr ⟨List.mem_append_right _ (List.mem_of_getElem? (i := 872) (by decide +kernel)), by decide +kernel⟩
theorem wq_127 : Cond.static yL_put ∈ AW := List.mem_filter.mpr ⟨List.mem_append_right _ (List.mem_of_getElem? (i := 873) (by decide +kernel)), by decide +kernel⟩
theorem wq_128 : Cond.initialized yL_put.cls ∈ AW := List.mem_filter.mpr ⟨List.mem_append_right _ (List.mem_of_getElem? (i := 0) (by decide +kernel)), by decide +kernel⟩
theorem wq_129 : Cond.codeWith yL_put cL_put 5 (some .int) [(0, 10, 13, 13), (0, 10, 17, 40), (0, 10, 21, 45), (0, 10, 25, 27)] ∈ AW := List.mem_filter.mpr ⟨List.mem_append_right _ (List.mem_of_getElem? (i := 874) (by decide +kernel)), by decide +kernel⟩
theorem wq_130 : Cond.methodLink RL 172 yX4_put ∈ AW := List.mem_filter.mpr ⟨List.mem_append_right _ (List.mem_of_getElem? (i := 1360) (by decide +kernel)), by decide +kernel⟩
theorem wq_131 : Cond.instanceMethod yX4_put ∈ AW := List.mem_filter.mpr ⟨List.mem_append_right _ (List.mem_of_getElem? (i := 1361) (by decide +kernel)), by decide +kernel⟩
theorem wq_132 : Cond.selects RX4 yX4_put yX4_put ∈ AW := List.mem_filter.mpr ⟨List.mem_append_right _ (List.mem_of_getElem? (i := 1362) (by decide +kernel)), by decide +kernel⟩
theorem wq_133 : Cond.code yX4_put cX4_put 8 (some .int) ∈ AW := List.mem_filter.mpr ⟨List.mem_append_right _ (List.mem_of_getElem? (i := 1363) (by decide +kernel)), by decide +kernel⟩
theorem wq_134 : Cond.methodLink RL 173 yL_get ∈ AW := List.mem_filter.mpr ⟨List.mem_append_right _ (List.mem_of_getElem? (i := 983) (by decide +kernel)), by decide +kernel⟩
theorem wq_135 : Cond.static yL_get ∈ AW := List.mem_filter.mpr ⟨List.mem_append_right _ (List.mem_of_getElem? (i := 984) (by decide +kernel)), by decide +kernel⟩
theorem wq_136 : Cond.initialized yL_get.cls ∈ AW := List.mem_filter.mpr ⟨List.mem_append_right _ (List.mem_of_getElem? (i := 0) (by decide +kernel)), by decide +kernel⟩
theorem wq_137 : Cond.codeWith yL_get cL_get 5 (some .int) [(0, 10, 13, 13), (0, 10, 17, 40), (0, 10, 21, 45)] ∈ AW := List.mem_filter.mpr ⟨List.mem_append_right _ (List.mem_of_getElem? (i := 985) (by decide +kernel)), by decide +kernel⟩
theorem wq_138 : Cond.methodLink RL 175 yX4_get ∈ AW := List.mem_filter.mpr ⟨List.mem_append_right _ (List.mem_of_getElem? (i := 1392) (by decide +kernel)), by decide +kernel⟩
theorem wq_139 : Cond.instanceMethod yX4_get ∈ AW := List.mem_filter.mpr ⟨List.mem_append_right _ (List.mem_of_getElem? (i := 1393) (by decide +kernel)), by decide +kernel⟩
theorem wq_140 : Cond.selects RX4 yX4_get yX4_get ∈ AW := List.mem_filter.mpr ⟨List.mem_append_right _ (List.mem_of_getElem? (i := 1394) (by decide +kernel)), by decide +kernel⟩
theorem wq_141 : Cond.code yX4_get cX4_get 5 (some .int) ∈ AW := List.mem_filter.mpr ⟨List.mem_append_right _ (List.mem_of_getElem? (i := 1395) (by decide +kernel)), by decide +kernel⟩
theorem wq_142 : Cond.methodLink RL 176 yL_remove ∈ AW := List.mem_filter.mpr ⟨List.mem_append_right _ (List.mem_of_getElem? (i := 994) (by decide +kernel)), by decide +kernel⟩
theorem wq_143 : Cond.static yL_remove ∈ AW := List.mem_filter.mpr ⟨List.mem_append_right _ (List.mem_of_getElem? (i := 995) (by decide +kernel)), by decide +kernel⟩
theorem wq_144 : Cond.initialized yL_remove.cls ∈ AW := List.mem_filter.mpr ⟨List.mem_append_right _ (List.mem_of_getElem? (i := 0) (by decide +kernel)), by decide +kernel⟩
theorem wq_145 : Cond.codeWith yL_remove cL_remove 5 (some .int) [(0, 10, 13, 13), (0, 10, 17, 40), (0, 10, 21, 45)] ∈ AW := List.mem_filter.mpr ⟨List.mem_append_right _ (List.mem_of_getElem? (i := 996) (by decide +kernel)), by decide +kernel⟩
theorem wq_146 : Cond.methodLink RL 178 yX4_remove ∈ AW := List.mem_filter.mpr ⟨List.mem_append_right _ (List.mem_of_getElem? (i := 1400) (by decide +kernel)), by decide +kernel⟩
theorem wq_147 : Cond.instanceMethod yX4_remove ∈ AW := List.mem_filter.mpr ⟨List.mem_append_right _ (List.mem_of_getElem? (i := 1401) (by decide +kernel)), by decide +kernel⟩
theorem wq_148 : Cond.selects RX4 yX4_remove yX4_remove ∈ AW := List.mem_filter.mpr ⟨List.mem_append_right _ (List.mem_of_getElem? (i := 1402) (by decide +kernel)), by decide +kernel⟩
theorem wq_149 : Cond.code yX4_remove cX4_remove 6 (some .int) ∈ AW := List.mem_filter.mpr ⟨List.mem_append_right _ (List.mem_of_getElem? (i := 1403) (by decide +kernel)), by decide +kernel⟩
theorem wq_150 : Cond.methodLink RL 179 yL_next ∈ AW := List.mem_filter.mpr ⟨List.mem_append_right _ (List.mem_of_getElem? (i := 1006) (by decide +kernel)), by decide +kernel⟩
theorem wq_151 : Cond.static yL_next ∈ AW := List.mem_filter.mpr ⟨List.mem_append_right _ (List.mem_of_getElem? (i := 1007) (by decide +kernel)), by decide +kernel⟩
theorem wq_152 : Cond.initialized yL_next.cls ∈ AW := List.mem_filter.mpr ⟨List.mem_append_right _ (List.mem_of_getElem? (i := 0) (by decide +kernel)), by decide +kernel⟩
theorem wq_153 : Cond.codeWith yL_next cL_next 5 (some .int) [(0, 10, 13, 13), (0, 10, 17, 40)] ∈ AW := List.mem_filter.mpr ⟨List.mem_append_right _ (List.mem_of_getElem? (i := 1008) (by decide +kernel)), by decide +kernel⟩
theorem wq_154 : Cond.methodLink RL 181 yX4_next ∈ AW := List.mem_filter.mpr ⟨List.mem_append_right _ (List.mem_of_getElem? (i := 1404) (by decide +kernel)), by decide +kernel⟩
theorem wq_155 : Cond.instanceMethod yX4_next ∈ AW := List.mem_filter.mpr ⟨List.mem_append_right _ (List.mem_of_getElem? (i := 1405) (by decide +kernel)), by decide +kernel⟩
theorem wq_156 : Cond.selects RX4 yX4_next yX4_next ∈ AW := List.mem_filter.mpr ⟨List.mem_append_right _ (List.mem_of_getElem? (i := 1406) (by decide +kernel)), by decide +kernel⟩
theorem wq_157 : Cond.code yX4_next cX4_next 6 (some .int) ∈ AW := List.mem_filter.mpr ⟨List.mem_append_right _ (List.mem_of_getElem? (i := 1407) (by decide +kernel)), by decide +kernel⟩
theorem wq_158 : Cond.methodLink RL 182 yL_entry ∈ AW := List.mem_filter.mpr ⟨List.mem_append_right _ (List.mem_of_getElem? (i := 1018) (by decide +kernel)), by decide +kernel⟩
theorem wq_159 : Cond.static yL_entry ∈ AW := List.mem_filter.mpr ⟨List.mem_append_right _ (List.mem_of_getElem? (i := 1019) (by decide +kernel)), by decide +kernel⟩
theorem wq_160 : Cond.initialized yL_entry.cls ∈ AW := List.mem_filter.mpr ⟨List.mem_append_right _ (List.mem_of_getElem? (i := 0) (by decide +kernel)), by decide +kernel⟩
theorem wq_161 : Cond.codeWith yL_entry cL_entry 5 (some .int) [(0, 7, 10, 13), (0, 7, 14, 40), (0, 7, 18, 45), (0, 7, 22, 84)] ∈ AW := List.mem_filter.mpr ⟨List.mem_append_right _ (List.mem_of_getElem? (i := 1020) (by decide +kernel)), by decide +kernel⟩
theorem wq_162 : Cond.methodLink RL 184 yX4_entry ∈ AW := List.mem_filter.mpr ⟨List.mem_append_right _ (List.mem_of_getElem? (i := 1408) (by decide +kernel)), by decide +kernel⟩
theorem wq_163 : Cond.instanceMethod yX4_entry ∈ AW := List.mem_filter.mpr ⟨List.mem_append_right _ (List.mem_of_getElem? (i := 1409) (by decide +kernel)), by decide +kernel⟩
theorem wq_164 : Cond.selects RX4 yX4_entry yX4_entry ∈ AW := List.mem_filter.mpr ⟨List.mem_append_right _ (List.mem_of_getElem? (i := 1410) (by decide +kernel)), by decide +kernel⟩
theorem wq_165 : Cond.code yX4_entry cX4_entry 6 none ∈ AW := List.mem_filter.mpr ⟨List.mem_append_right _ (List.mem_of_getElem? (i := 1411) (by decide +kernel)), by decide +kernel⟩
theorem wq_166 : Cond.methodLink RL 185 yX3_collect ∈ AW := List.mem_filter.mpr ⟨List.mem_append_right _ (List.mem_of_getElem? (i := 128) (by decide +kernel)), by decide +kernel⟩
theorem wq_167 : Cond.instanceMethod yX3_collect ∈ AW := List.mem_filter.mpr ⟨List.mem_append_right _ (List.mem_of_getElem? (i := 129) (by decide +kernel)), by decide +kernel⟩
theorem wq_168 : Cond.selects RX3 yX3_collect yX3_collect ∈ AW := List.mem_filter.mpr ⟨List.mem_append_right _ (List.mem_of_getElem? (i := 130) (by decide +kernel)), by decide +kernel⟩
theorem wq_169 : Cond.initialized RX3 ∈ AW := List.mem_filter.mpr ⟨List.mem_append_right _ (List.mem_of_getElem? (i := 1) (by decide +kernel)), by decide +kernel⟩
theorem wq_170 : Cond.code yX3_collect cX3_collect 1 (some .int) ∈ AW := List.mem_filter.mpr ⟨List.mem_append_right _ (List.mem_of_getElem? (i := 131) (by decide +kernel)), by decide +kernel⟩
theorem wq_171 : Cond.methodLink RL 188 yX4_collect ∈ AW := List.mem_filter.mpr ⟨List.mem_append_right _ (List.mem_of_getElem? (i := 1198) (by decide +kernel)), by decide +kernel⟩
theorem wq_172 : Cond.instanceMethod yX4_collect ∈ AW := List.mem_filter.mpr ⟨List.mem_append_right _ (List.mem_of_getElem? (i := 1199) (by decide +kernel)), by decide +kernel⟩
theorem wq_173 : Cond.selects RX4 yX4_collect yX4_collect ∈ AW := List.mem_filter.mpr ⟨List.mem_append_right _ (List.mem_of_getElem? (i := 1200) (by decide +kernel)), by decide +kernel⟩
theorem wq_174 : Cond.code yX4_collect cX4_collect 4 (some .int) ∈ AW := List.mem_filter.mpr ⟨List.mem_append_right _ (List.mem_of_getElem? (i := 1201) (by decide +kernel)), by decide +kernel⟩
theorem wq_175 : Cond.methodLink RL 189 yX3_eager ∈ AW := List.mem_filter.mpr ⟨List.mem_append_right _ (List.mem_of_getElem? (i := 178) (by decide +kernel)), by decide +kernel⟩
theorem wq_176 : Cond.instanceMethod yX3_eager ∈ AW := List.mem_filter.mpr ⟨List.mem_append_right _ (List.mem_of_getElem? (i := 179) (by decide +kernel)), by decide +kernel⟩
theorem wq_177 : Cond.selects RX3 yX3_eager yX3_eager ∈ AW := List.mem_filter.mpr ⟨List.mem_append_right _ (List.mem_of_getElem? (i := 180) (by decide +kernel)), by decide +kernel⟩
theorem wq_178 : Cond.code yX3_eager cX3_eager 2 none ∈ AW := List.mem_filter.mpr ⟨List.mem_append_right _ (List.mem_of_getElem? (i := 181) (by decide +kernel)), by decide +kernel⟩
theorem wq_179 : Cond.methodLink RL 193 yX4_eager ∈ AW := List.mem_filter.mpr ⟨List.mem_append_right _ (List.mem_of_getElem? (i := 1412) (by decide +kernel)), by decide +kernel⟩
theorem wq_180 : Cond.instanceMethod yX4_eager ∈ AW := List.mem_filter.mpr ⟨List.mem_append_right _ (List.mem_of_getElem? (i := 1413) (by decide +kernel)), by decide +kernel⟩
theorem wq_181 : Cond.selects RX4 yX4_eager yX4_eager ∈ AW := List.mem_filter.mpr ⟨List.mem_append_right _ (List.mem_of_getElem? (i := 1414) (by decide +kernel)), by decide +kernel⟩
theorem wq_182 : Cond.code yX4_eager cX4_eager 2 none ∈ AW := List.mem_filter.mpr ⟨List.mem_append_right _ (List.mem_of_getElem? (i := 1415) (by decide +kernel)), by decide +kernel⟩
theorem wq_183 : Cond.methodLink RL 194 yL_tell ∈ AW := List.mem_filter.mpr ⟨List.mem_append_right _ (List.mem_of_getElem? (i := 1046) (by decide +kernel)), by decide +kernel⟩
theorem wq_184 : Cond.static yL_tell ∈ AW := List.mem_filter.mpr ⟨List.mem_append_right _ (List.mem_of_getElem? (i := 1047) (by decide +kernel)), by decide +kernel⟩
theorem wq_185 : Cond.initialized yL_tell.cls ∈ AW := List.mem_filter.mpr ⟨List.mem_append_right _ (List.mem_of_getElem? (i := 0) (by decide +kernel)), by decide +kernel⟩
theorem wq_186 : Cond.codeWith yL_tell cL_tell 5 (some .int) [(0, 10, 13, 13)] ∈ AW := List.mem_filter.mpr ⟨List.mem_append_right _ (List.mem_of_getElem? (i := 1048) (by decide +kernel)), by decide +kernel⟩
theorem wq_187 : Cond.methodLink RL 196 yX4_tell ∈ AW := List.mem_filter.mpr ⟨List.mem_append_right _ (List.mem_of_getElem? (i := 1416) (by decide +kernel)), by decide +kernel⟩
theorem wq_188 : Cond.instanceMethod yX4_tell ∈ AW := List.mem_filter.mpr ⟨List.mem_append_right _ (List.mem_of_getElem? (i := 1417) (by decide +kernel)), by decide +kernel⟩
theorem wq_189 : Cond.selects RX4 yX4_tell yX4_tell ∈ AW := List.mem_filter.mpr ⟨List.mem_append_right _ (List.mem_of_getElem? (i := 1418) (by decide +kernel)), by decide +kernel⟩
theorem wq_190 : Cond.code yX4_tell cX4_tell 4 (some .int) ∈ AW := List.mem_filter.mpr ⟨List.mem_append_right _ (List.mem_of_getElem? (i := 1419) (by decide +kernel)), by decide +kernel⟩
theorem wq_191 : Cond.methodLink RL 197 yL_value ∈ AW := List.mem_filter.mpr ⟨List.mem_append_right _ (List.mem_of_getElem? (i := 1055) (by decide +kernel)), by decide +kernel⟩
theorem wq_192 : Cond.static yL_value ∈ AW := List.mem_filter.mpr ⟨List.mem_append_right _ (List.mem_of_getElem? (i := 1056) (by decide +kernel)), by decide +kernel⟩
theorem wq_193 : Cond.initialized yL_value.cls ∈ AW := List.mem_filter.mpr ⟨List.mem_append_right _ (List.mem_of_getElem? (i := 0) (by decide +kernel)), by decide +kernel⟩
theorem wq_194 : Cond.codeWith yL_value cL_value 4 (some .int) [(0, 8, 11, 13), (0, 8, 14, 40)] ∈ AW := List.mem_filter.mpr ⟨List.mem_append_right _ (List.mem_of_getElem? (i := 1057) (by decide +kernel)), by decide +kernel⟩
theorem wq_195 : Cond.methodLink RL 200 yX4_value ∈ AW := List.mem_filter.mpr ⟨List.mem_append_right _ (List.mem_of_getElem? (i := 1420) (by decide +kernel)), by decide +kernel⟩
theorem wq_196 : Cond.instanceMethod yX4_value ∈ AW := List.mem_filter.mpr ⟨List.mem_append_right _ (List.mem_of_getElem? (i := 1421) (by decide +kernel)), by decide +kernel⟩
theorem wq_197 : Cond.selects RX4 yX4_value yX4_value ∈ AW := List.mem_filter.mpr ⟨List.mem_append_right _ (List.mem_of_getElem? (i := 1422) (by decide +kernel)), by decide +kernel⟩
theorem wq_198 : Cond.code yX4_value cX4_value 2 (some .long) ∈ AW := List.mem_filter.mpr ⟨List.mem_append_right _ (List.mem_of_getElem? (i := 1423) (by decide +kernel)), by decide +kernel⟩
theorem wq_199 : Cond.methodLink RL 201 yL_same ∈ AW := List.mem_filter.mpr ⟨List.mem_append_right _ (List.mem_of_getElem? (i := 1068) (by decide +kernel)), by decide +kernel⟩
theorem wq_200 : Cond.static yL_same ∈ AW := List.mem_filter.mpr ⟨List.mem_append_right _ (List.mem_of_getElem? (i := 1069) (by decide +kernel)), by decide +kernel⟩
theorem wq_201 : Cond.initialized yL_same.cls ∈ AW := List.mem_filter.mpr ⟨List.mem_append_right _ (List.mem_of_getElem? (i := 0) (by decide +kernel)), by decide +kernel⟩
theorem wq_202 : Cond.codeWith yL_same cL_same 5 (some .int) [(0, 17, 20, 13)] ∈ AW := List.mem_filter.mpr ⟨List.mem_append_right _ (List.mem_of_getElem? (i := 1070) (by decide +kernel)), by decide +kernel⟩
theorem wq_203 : Cond.methodLink RL 203 yX4_same ∈ AW := List.mem_filter.mpr ⟨List.mem_append_right _ (List.mem_of_getElem? (i := 1424) (by decide +kernel)), by decide +kernel⟩
theorem wq_204 : Cond.instanceMethod yX4_same ∈ AW := List.mem_filter.mpr ⟨List.mem_append_right _ (List.mem_of_getElem? (i := 1425) (by decide +kernel)), by decide +kernel⟩
theorem wq_205 : Cond.selects RX4 yX4_same yX4_same ∈ AW := List.mem_filter.mpr ⟨List.mem_append_right _ (List.mem_of_getElem? (i := 1426) (by decide +kernel)), by decide +kernel⟩
theorem wq_206 : Cond.code yX4_same cX4_same 3 (some .boolean) ∈ AW := List.mem_filter.mpr ⟨List.mem_append_right _ (List.mem_of_getElem? (i := 1427) (by decide +kernel)), by decide +kernel⟩
theorem wq_207 : Cond.methodLink RL 204 yL_total ∈ AW := List.mem_filter.mpr ⟨List.mem_append_right _ (List.mem_of_getElem? (i := 1076) (by decide +kernel)), by decide +kernel⟩
theorem wq_208 : Cond.static yL_total ∈ AW := List.mem_filter.mpr ⟨List.mem_append_right _ (List.mem_of_getElem? (i := 1077) (by decide +kernel)), by decide +kernel⟩
theorem wq_209 : Cond.initialized yL_total.cls ∈ AW := List.mem_filter.mpr ⟨List.mem_append_right _ (List.mem_of_getElem? (i := 0) (by decide +kernel)), by decide +kernel⟩
theorem wq_210 : Cond.codeWith yL_total cL_total 4 (some .int) [(0, 9, 12, 13)] ∈ AW := List.mem_filter.mpr ⟨List.mem_append_right _ (List.mem_of_getElem? (i := 1078) (by decide +kernel)), by decide +kernel⟩
theorem wq_211 : Cond.methodLink RL 206 yX4_total ∈ AW := List.mem_filter.mpr ⟨List.mem_append_right _ (List.mem_of_getElem? (i := 1428) (by decide +kernel)), by decide +kernel⟩
theorem wq_212 : Cond.instanceMethod yX4_total ∈ AW := List.mem_filter.mpr ⟨List.mem_append_right _ (List.mem_of_getElem? (i := 1429) (by decide +kernel)), by decide +kernel⟩
theorem wq_213 : Cond.selects RX4 yX4_total yX4_total ∈ AW := List.mem_filter.mpr ⟨List.mem_append_right _ (List.mem_of_getElem? (i := 1430) (by decide +kernel)), by decide +kernel⟩
theorem wq_214 : Cond.code yX4_total cX4_total 2 (some .int) ∈ AW := List.mem_filter.mpr ⟨List.mem_append_right _ (List.mem_of_getElem? (i := 1431) (by decide +kernel)), by decide +kernel⟩
theorem wq_215 : Cond.classLink RL 8 RX3 ∈ AW := List.mem_filter.mpr ⟨List.mem_append_right _ (List.mem_of_getElem? (i := 27) (by decide +kernel)), by decide +kernel⟩
theorem wq_216 : Cond.instantiable RX3 3 ∈ AW := List.mem_filter.mpr ⟨List.mem_append_right _ (List.mem_of_getElem? (i := 28) (by decide +kernel)), by decide +kernel⟩
theorem wq_217 : Cond.classLink RL 109 RX4 ∈ AW := List.mem_filter.mpr ⟨List.mem_append_right _ (List.mem_of_getElem? (i := 1087) (by decide +kernel)), by decide +kernel⟩
theorem wq_218 : Cond.instantiable RX4 32 ∈ AW := List.mem_filter.mpr ⟨List.mem_append_right _ (List.mem_of_getElem? (i := 1088) (by decide +kernel)), by decide +kernel⟩
theorem wq_219 : Cond.methodLink RL 101 yL_cell ∈ AW := List.mem_filter.mpr ⟨List.mem_append_right _ (List.mem_of_getElem? (i := 186) (by decide +kernel)), by decide +kernel⟩
theorem wq_220 : Cond.static yL_cell ∈ AW := List.mem_filter.mpr ⟨List.mem_append_right _ (List.mem_of_getElem? (i := 187) (by decide +kernel)), by decide +kernel⟩
theorem wq_221 : Cond.initialized RL ∈ AW := List.mem_filter.mpr ⟨List.mem_append_right _ (List.mem_of_getElem? (i := 0) (by decide +kernel)), by decide +kernel⟩
theorem wq_222 : Cond.code yL_cell cL_cell 2 (some .int) ∈ AW := List.mem_filter.mpr ⟨List.mem_append_right _ (List.mem_of_getElem? (i := 188) (by decide +kernel)), by decide +kernel⟩
theorem wq_223 : Cond.methodLink RL 107 yX3_init ∈ AW := List.mem_filter.mpr ⟨List.mem_append_right _ (List.mem_of_getElem? (i := 29) (by decide +kernel)), by decide +kernel⟩
theorem wq_224 : Cond.instanceMethod yX3_init ∈ AW := List.mem_filter.mpr ⟨List.mem_append_right _ (List.mem_of_getElem? (i := 30) (by decide +kernel)), by decide +kernel⟩
theorem wq_225 : Cond.code yX3_init cX3_init 2 none ∈ AW := List.mem_filter.mpr ⟨List.mem_append_right _ (List.mem_of_getElem? (i := 31) (by decide +kernel)), by decide +kernel⟩
theorem wq_226 : Cond.methodLink RL 111 yX4_init ∈ AW := List.mem_filter.mpr ⟨List.mem_append_right _ (List.mem_of_getElem? (i := 1089) (by decide +kernel)), by decide +kernel⟩
theorem wq_227 : Cond.instanceMethod yX4_init ∈ AW := List.mem_filter.mpr ⟨List.mem_append_right _ (List.mem_of_getElem? (i := 1090) (by decide +kernel)), by decide +kernel⟩
theorem wq_228 : Cond.code yX4_init cX4_init 3 none ∈ AW := List.mem_filter.mpr ⟨List.mem_append_right _ (List.mem_of_getElem? (i := 1091) (by decide +kernel)), by decide +kernel⟩
theorem wq_229 : Cond.arrayClass .long ∈ AW := List.mem_filter.mpr ⟨List.mem_append_right _ (List.mem_of_getElem? (i := 93) (by decide +kernel)), by decide +kernel⟩
theorem wq_230 : Cond.arrayClass .int ∈ AW := List.mem_filter.mpr ⟨List.mem_append_right _ (List.mem_of_getElem? (i := 1193) (by decide +kernel)), by decide +kernel⟩
theorem wq_231 : Cond.arrayClass .boolean ∈ AW := List.mem_filter.mpr ⟨List.mem_append_right _ (List.mem_of_getElem? (i := 94) (by decide +kernel)), by decide +kernel⟩
theorem wq_232 : Cond.arrayClass .byte ∈ AW := List.mem_filter.mpr ⟨List.mem_append_right _ (List.mem_of_getElem? (i := 270) (by decide +kernel)), by decide +kernel⟩
theorem wq_233 : Cond.instantiable RX0 14 ∈ AW := List.mem_filter.mpr ⟨List.mem_append_right _ (List.mem_of_getElem? (i := 36) (by decide +kernel)), by decide +kernel⟩
theorem wq_234 : Cond.instantiable RX1 2 ∈ AW := List.mem_filter.mpr ⟨List.mem_append_right _ (List.mem_of_getElem? (i := 106) (by decide +kernel)), by decide +kernel⟩
theorem wq_235 : Cond.instantiable RX2 1 ∈ AW := List.mem_filter.mpr ⟨List.mem_append_right _ (List.mem_of_getElem? (i := 96) (by decide +kernel)), by decide +kernel⟩
theorem hdU_L_number : yL_number.cls ≠ "java/lang/invoke/MethodHandle" ∧ yL_number.cls ≠ "java/lang/invoke/VarHandle" ∧ (parseMethodDescriptor yL_number.desc).map (fun d => d.parameters.length) = some 3 := by decide +kernel
theorem hdV_X4_number : yX4_number.cls = RX4 ∧ yX4_number.cls ≠ "java/lang/invoke/MethodHandle" ∧ yX4_number.cls ≠ "java/lang/invoke/VarHandle" ∧ (parseMethodDescriptor yX4_number.desc).map (fun d => d.parameters.length) = some 2 := by decide +kernel
theorem hdV_X4_thrown : yX4_thrown.cls = RX4 ∧ yX4_thrown.cls ≠ "java/lang/invoke/MethodHandle" ∧ yX4_thrown.cls ≠ "java/lang/invoke/VarHandle" ∧ (parseMethodDescriptor yX4_thrown.desc).map (fun d => d.parameters.length) = some 0 := by decide +kernel
theorem hdU_L_nil : yL_nil.cls ≠ "java/lang/invoke/MethodHandle" ∧ yL_nil.cls ≠ "java/lang/invoke/VarHandle" ∧ (parseMethodDescriptor yL_nil.desc).map (fun d => d.parameters.length) = some 2 := by decide +kernel
theorem hdV_X4_nil : yX4_nil.cls = RX4 ∧ yX4_nil.cls ≠ "java/lang/invoke/MethodHandle" ∧ yX4_nil.cls ≠ "java/lang/invoke/VarHandle" ∧ (parseMethodDescriptor yX4_nil.desc).map (fun d => d.parameters.length) = some 1 := by decide +kernel
theorem hdU_L_move : yL_move.cls ≠ "java/lang/invoke/MethodHandle" ∧ yL_move.cls ≠ "java/lang/invoke/VarHandle" ∧ (parseMethodDescriptor yL_move.desc).map (fun d => d.parameters.length) = some 3 := by decide +kernel
theorem hdV_X4_move : yX4_move.cls = RX4 ∧ yX4_move.cls ≠ "java/lang/invoke/MethodHandle" ∧ yX4_move.cls ≠ "java/lang/invoke/VarHandle" ∧ (parseMethodDescriptor yX4_move.desc).map (fun d => d.parameters.length) = some 2 := by decide +kernel
theorem hdU_L_make : yL_make.cls ≠ "java/lang/invoke/MethodHandle" ∧ yL_make.cls ≠ "java/lang/invoke/VarHandle" ∧ (parseMethodDescriptor yL_make.desc).map (fun d => d.parameters.length) = some 4 := by decide +kernel
theorem hdV_X4_make : yX4_make.cls = RX4 ∧ yX4_make.cls ≠ "java/lang/invoke/MethodHandle" ∧ yX4_make.cls ≠ "java/lang/invoke/VarHandle" ∧ (parseMethodDescriptor yX4_make.desc).map (fun d => d.parameters.length) = some 2 := by decide +kernel
theorem hdU_L_text : yL_text.cls ≠ "java/lang/invoke/MethodHandle" ∧ yL_text.cls ≠ "java/lang/invoke/VarHandle" ∧ (parseMethodDescriptor yL_text.desc).map (fun d => d.parameters.length) = some 4 := by decide +kernel
theorem hdV_X4_text : yX4_text.cls = RX4 ∧ yX4_text.cls ≠ "java/lang/invoke/MethodHandle" ∧ yX4_text.cls ≠ "java/lang/invoke/VarHandle" ∧ (parseMethodDescriptor yX4_text.desc).map (fun d => d.parameters.length) = some 2 := by decide +kernel
theorem hdU_L_map : yL_map.cls ≠ "java/lang/invoke/MethodHandle" ∧ yL_map.cls ≠ "java/lang/invoke/VarHandle" ∧ (parseMethodDescriptor yL_map.desc).map (fun d => d.parameters.length) = some 6 := by decide +kernel
theorem hdV_X4_map : yX4_map.cls = RX4 ∧ yX4_map.cls ≠ "java/lang/invoke/MethodHandle" ∧ yX4_map.cls ≠ "java/lang/invoke/VarHandle" ∧ (parseMethodDescriptor yX4_map.desc).map (fun d => d.parameters.length) = some 4 := by decide +kernel
theorem hdU_L_join : yL_join.cls ≠ "java/lang/invoke/MethodHandle" ∧ yL_join.cls ≠ "java/lang/invoke/VarHandle" ∧ (parseMethodDescriptor yL_join.desc).map (fun d => d.parameters.length) = some 5 := by decide +kernel
theorem hdV_X4_join : yX4_join.cls = RX4 ∧ yX4_join.cls ≠ "java/lang/invoke/MethodHandle" ∧ yX4_join.cls ≠ "java/lang/invoke/VarHandle" ∧ (parseMethodDescriptor yX4_join.desc).map (fun d => d.parameters.length) = some 3 := by decide +kernel
theorem hdU_L_part : yL_part.cls ≠ "java/lang/invoke/MethodHandle" ∧ yL_part.cls ≠ "java/lang/invoke/VarHandle" ∧ (parseMethodDescriptor yL_part.desc).map (fun d => d.parameters.length) = some 6 := by decide +kernel
theorem hdV_X4_part : yX4_part.cls = RX4 ∧ yX4_part.cls ≠ "java/lang/invoke/MethodHandle" ∧ yX4_part.cls ≠ "java/lang/invoke/VarHandle" ∧ (parseMethodDescriptor yX4_part.desc).map (fun d => d.parameters.length) = some 4 := by decide +kernel
theorem hdU_L_compare : yL_compare.cls ≠ "java/lang/invoke/MethodHandle" ∧ yL_compare.cls ≠ "java/lang/invoke/VarHandle" ∧ (parseMethodDescriptor yL_compare.desc).map (fun d => d.parameters.length) = some 4 := by decide +kernel
theorem hdV_X4_compare : yX4_compare.cls = RX4 ∧ yX4_compare.cls ≠ "java/lang/invoke/MethodHandle" ∧ yX4_compare.cls ≠ "java/lang/invoke/VarHandle" ∧ (parseMethodDescriptor yX4_compare.desc).map (fun d => d.parameters.length) = some 2 := by decide +kernel
theorem hdU_L_byteAt : yL_byteAt.cls ≠ "java/lang/invoke/MethodHandle" ∧ yL_byteAt.cls ≠ "java/lang/invoke/VarHandle" ∧ (parseMethodDescriptor yL_byteAt.desc).map (fun d => d.parameters.length) = some 4 := by decide +kernel
theorem hdV_X4_byteAt : yX4_byteAt.cls = RX4 ∧ yX4_byteAt.cls ≠ "java/lang/invoke/MethodHandle" ∧ yX4_byteAt.cls ≠ "java/lang/invoke/VarHandle" ∧ (parseMethodDescriptor yX4_byteAt.desc).map (fun d => d.parameters.length) = some 2 := by decide +kernel
theorem hdU_L_setByte : yL_setByte.cls ≠ "java/lang/invoke/MethodHandle" ∧ yL_setByte.cls ≠ "java/lang/invoke/VarHandle" ∧ (parseMethodDescriptor yL_setByte.desc).map (fun d => d.parameters.length) = some 4 := by decide +kernel
theorem hdV_X4_setByte : yX4_setByte.cls = RX4 ∧ yX4_setByte.cls ≠ "java/lang/invoke/MethodHandle" ∧ yX4_setByte.cls ≠ "java/lang/invoke/VarHandle" ∧ (parseMethodDescriptor yX4_setByte.desc).map (fun d => d.parameters.length) = some 3 := by decide +kernel
theorem hdU_L_shift : yL_shift.cls ≠ "java/lang/invoke/MethodHandle" ∧ yL_shift.cls ≠ "java/lang/invoke/VarHandle" ∧ (parseMethodDescriptor yL_shift.desc).map (fun d => d.parameters.length) = some 4 := by decide +kernel
theorem hdV_X4_shift : yX4_shift.cls = RX4 ∧ yX4_shift.cls ≠ "java/lang/invoke/MethodHandle" ∧ yX4_shift.cls ≠ "java/lang/invoke/VarHandle" ∧ (parseMethodDescriptor yX4_shift.desc).map (fun d => d.parameters.length) = some 3 := by decide +kernel
theorem hdU_L_load : yL_load.cls ≠ "java/lang/invoke/MethodHandle" ∧ yL_load.cls ≠ "java/lang/invoke/VarHandle" ∧ (parseMethodDescriptor yL_load.desc).map (fun d => d.parameters.length) = some 4 := by decide +kernel
theorem hdV_X4_load : yX4_load.cls = RX4 ∧ yX4_load.cls ≠ "java/lang/invoke/MethodHandle" ∧ yX4_load.cls ≠ "java/lang/invoke/VarHandle" ∧ (parseMethodDescriptor yX4_load.desc).map (fun d => d.parameters.length) = some 3 := by decide +kernel
theorem hdU_L_store : yL_store.cls ≠ "java/lang/invoke/MethodHandle" ∧ yL_store.cls ≠ "java/lang/invoke/VarHandle" ∧ (parseMethodDescriptor yL_store.desc).map (fun d => d.parameters.length) = some 4 := by decide +kernel
theorem hdV_X4_store : yX4_store.cls = RX4 ∧ yX4_store.cls ≠ "java/lang/invoke/MethodHandle" ∧ yX4_store.cls ≠ "java/lang/invoke/VarHandle" ∧ (parseMethodDescriptor yX4_store.desc).map (fun d => d.parameters.length) = some 3 := by decide +kernel
theorem hdU_L_copy : yL_copy.cls ≠ "java/lang/invoke/MethodHandle" ∧ yL_copy.cls ≠ "java/lang/invoke/VarHandle" ∧ (parseMethodDescriptor yL_copy.desc).map (fun d => d.parameters.length) = some 4 := by decide +kernel
theorem hdV_X4_copy : yX4_copy.cls = RX4 ∧ yX4_copy.cls ≠ "java/lang/invoke/MethodHandle" ∧ yX4_copy.cls ≠ "java/lang/invoke/VarHandle" ∧ (parseMethodDescriptor yX4_copy.desc).map (fun d => d.parameters.length) = some 3 := by decide +kernel
theorem hdU_L_put : yL_put.cls ≠ "java/lang/invoke/MethodHandle" ∧ yL_put.cls ≠ "java/lang/invoke/VarHandle" ∧ (parseMethodDescriptor yL_put.desc).map (fun d => d.parameters.length) = some 4 := by decide +kernel
theorem hdV_X4_put : yX4_put.cls = RX4 ∧ yX4_put.cls ≠ "java/lang/invoke/MethodHandle" ∧ yX4_put.cls ≠ "java/lang/invoke/VarHandle" ∧ (parseMethodDescriptor yX4_put.desc).map (fun d => d.parameters.length) = some 2 := by decide +kernel
theorem hdU_L_get : yL_get.cls ≠ "java/lang/invoke/MethodHandle" ∧ yL_get.cls ≠ "java/lang/invoke/VarHandle" ∧ (parseMethodDescriptor yL_get.desc).map (fun d => d.parameters.length) = some 4 := by decide +kernel
theorem hdV_X4_get : yX4_get.cls = RX4 ∧ yX4_get.cls ≠ "java/lang/invoke/MethodHandle" ∧ yX4_get.cls ≠ "java/lang/invoke/VarHandle" ∧ (parseMethodDescriptor yX4_get.desc).map (fun d => d.parameters.length) = some 2 := by decide +kernel
theorem hdU_L_remove : yL_remove.cls ≠ "java/lang/invoke/MethodHandle" ∧ yL_remove.cls ≠ "java/lang/invoke/VarHandle" ∧ (parseMethodDescriptor yL_remove.desc).map (fun d => d.parameters.length) = some 4 := by decide +kernel
theorem hdV_X4_remove : yX4_remove.cls = RX4 ∧ yX4_remove.cls ≠ "java/lang/invoke/MethodHandle" ∧ yX4_remove.cls ≠ "java/lang/invoke/VarHandle" ∧ (parseMethodDescriptor yX4_remove.desc).map (fun d => d.parameters.length) = some 2 := by decide +kernel
theorem hdU_L_next : yL_next.cls ≠ "java/lang/invoke/MethodHandle" ∧ yL_next.cls ≠ "java/lang/invoke/VarHandle" ∧ (parseMethodDescriptor yL_next.desc).map (fun d => d.parameters.length) = some 4 := by decide +kernel
theorem hdV_X4_next : yX4_next.cls = RX4 ∧ yX4_next.cls ≠ "java/lang/invoke/MethodHandle" ∧ yX4_next.cls ≠ "java/lang/invoke/VarHandle" ∧ (parseMethodDescriptor yX4_next.desc).map (fun d => d.parameters.length) = some 2 := by decide +kernel
theorem hdU_L_entry : yL_entry.cls ≠ "java/lang/invoke/MethodHandle" ∧ yL_entry.cls ≠ "java/lang/invoke/VarHandle" ∧ (parseMethodDescriptor yL_entry.desc).map (fun d => d.parameters.length) = some 4 := by decide +kernel
theorem hdV_X4_entry : yX4_entry.cls = RX4 ∧ yX4_entry.cls ≠ "java/lang/invoke/MethodHandle" ∧ yX4_entry.cls ≠ "java/lang/invoke/VarHandle" ∧ (parseMethodDescriptor yX4_entry.desc).map (fun d => d.parameters.length) = some 3 := by decide +kernel
theorem hdV_X3_collect : yX3_collect.cls = RX3 ∧ yX3_collect.cls ≠ "java/lang/invoke/MethodHandle" ∧ yX3_collect.cls ≠ "java/lang/invoke/VarHandle" ∧ (parseMethodDescriptor yX3_collect.desc).map (fun d => d.parameters.length) = some 0 := by decide +kernel
theorem hdV_X3_eager : yX3_eager.cls = RX3 ∧ yX3_eager.cls ≠ "java/lang/invoke/MethodHandle" ∧ yX3_eager.cls ≠ "java/lang/invoke/VarHandle" ∧ (parseMethodDescriptor yX3_eager.desc).map (fun d => d.parameters.length) = some 1 := by decide +kernel
theorem hdV_X4_eager : yX4_eager.cls = RX4 ∧ yX4_eager.cls ≠ "java/lang/invoke/MethodHandle" ∧ yX4_eager.cls ≠ "java/lang/invoke/VarHandle" ∧ (parseMethodDescriptor yX4_eager.desc).map (fun d => d.parameters.length) = some 1 := by decide +kernel
theorem hdU_L_tell : yL_tell.cls ≠ "java/lang/invoke/MethodHandle" ∧ yL_tell.cls ≠ "java/lang/invoke/VarHandle" ∧ (parseMethodDescriptor yL_tell.desc).map (fun d => d.parameters.length) = some 4 := by decide +kernel
theorem hdV_X4_tell : yX4_tell.cls = RX4 ∧ yX4_tell.cls ≠ "java/lang/invoke/MethodHandle" ∧ yX4_tell.cls ≠ "java/lang/invoke/VarHandle" ∧ (parseMethodDescriptor yX4_tell.desc).map (fun d => d.parameters.length) = some 2 := by decide +kernel
theorem hdU_L_value : yL_value.cls ≠ "java/lang/invoke/MethodHandle" ∧ yL_value.cls ≠ "java/lang/invoke/VarHandle" ∧ (parseMethodDescriptor yL_value.desc).map (fun d => d.parameters.length) = some 3 := by decide +kernel
theorem hdV_X4_value : yX4_value.cls = RX4 ∧ yX4_value.cls ≠ "java/lang/invoke/MethodHandle" ∧ yX4_value.cls ≠ "java/lang/invoke/VarHandle" ∧ (parseMethodDescriptor yX4_value.desc).map (fun d => d.parameters.length) = some 1 := by decide +kernel
theorem hdU_L_same : yL_same.cls ≠ "java/lang/invoke/MethodHandle" ∧ yL_same.cls ≠ "java/lang/invoke/VarHandle" ∧ (parseMethodDescriptor yL_same.desc).map (fun d => d.parameters.length) = some 4 := by decide +kernel
theorem hdV_X4_same : yX4_same.cls = RX4 ∧ yX4_same.cls ≠ "java/lang/invoke/MethodHandle" ∧ yX4_same.cls ≠ "java/lang/invoke/VarHandle" ∧ (parseMethodDescriptor yX4_same.desc).map (fun d => d.parameters.length) = some 2 := by decide +kernel
theorem hdU_L_total : yL_total.cls ≠ "java/lang/invoke/MethodHandle" ∧ yL_total.cls ≠ "java/lang/invoke/VarHandle" ∧ (parseMethodDescriptor yL_total.desc).map (fun d => d.parameters.length) = some 3 := by decide +kernel
theorem hdV_X4_total : yX4_total.cls = RX4 ∧ yX4_total.cls ≠ "java/lang/invoke/MethodHandle" ∧ yX4_total.cls ≠ "java/lang/invoke/VarHandle" ∧ (parseMethodDescriptor yX4_total.desc).map (fun d => d.parameters.length) = some 1 := by decide +kernel
theorem hdS_L_cell : yL_cell.cls = RL ∧ yL_cell.cls ≠ "java/lang/invoke/MethodHandle" ∧ yL_cell.cls ≠ "java/lang/invoke/VarHandle" ∧ (parseMethodDescriptor yL_cell.desc).map (fun d => d.parameters.length) = some 2 := by decide +kernel
