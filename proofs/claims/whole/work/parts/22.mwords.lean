theorem wi_X4 : ∀ w ∈ u_ws RX4 TX4 32, w ∈ lw_tbl ∧ goodWord w = true := by decide +kernel
theorem wl_X4 : ∀ w ∈ u_ws RX4 TX4 32, w ∈ AW := fun w h => List.mem_filter.mpr (wi_X4 w h)
theorem wm_0 : Cond.fieldLink RX4 85 "WordHeapModel" "thrown" "I" ∈ AW := List.mem_filter.mpr ⟨List.mem_append_right _ (List.mem_of_getElem? (i := 1096) (by decide +kernel)), by decide +kernel⟩
theorem wm_1 : Cond.fieldLink RX4 7 "WordHeapModel" "tag" "[I" ∈ AW := List.mem_filter.mpr ⟨List.mem_append_right _ (List.mem_of_getElem? (i := 1103) (by decide +kernel)), by decide +kernel⟩
theorem wm_2 : Cond.fieldLink RX4 17 "WordHeapModel" "sort" "[I" ∈ AW := List.mem_filter.mpr ⟨List.mem_append_right _ (List.mem_of_getElem? (i := 1106) (by decide +kernel)), by decide +kernel⟩
theorem wm_3 : Cond.methodLink RX4 89 yX4_is ∈ AW := List.mem_filter.mpr ⟨List.mem_append_right _ (List.mem_of_getElem? (i := 1300) (by decide +kernel)), by decide +kernel⟩
theorem wm_4 : Cond.instanceMethod yX4_is ∈ AW := List.mem_filter.mpr ⟨List.mem_append_right _ (List.mem_of_getElem? (i := 1302) (by decide +kernel)), by decide +kernel⟩
theorem wm_5 : Cond.selects RX4 yX4_is yX4_is ∈ AW := List.mem_filter.mpr ⟨List.mem_append_left _ (List.mem_of_getElem? (i := 46) (by decide +kernel)), by decide +kernel⟩
theorem wm_6 : Cond.initialized RX4 ∈ AW := List.mem_filter.mpr ⟨List.mem_append_right _ (List.mem_of_getElem? (i := 6) (by decide +kernel)), by decide +kernel⟩
theorem wm_7 : Cond.code yX4_is cX4_is 3 (some .boolean) ∈ AW := List.mem_filter.mpr ⟨List.mem_append_right _ (List.mem_of_getElem? (i := 1303) (by decide +kernel)), by decide +kernel⟩
theorem wm_8 : Cond.fieldLink RX4 13 "WordHeapModel" "val" "[J" ∈ AW := List.mem_filter.mpr ⟨List.mem_append_right _ (List.mem_of_getElem? (i := 1104) (by decide +kernel)), by decide +kernel⟩
theorem wm_9 : Cond.fieldLink RX4 26 "WordHeapModel" "keys" "[I" ∈ AW := List.mem_filter.mpr ⟨List.mem_append_right _ (List.mem_of_getElem? (i := 1109) (by decide +kernel)), by decide +kernel⟩
theorem wm_10 : Cond.fieldLink RX4 29 "WordHeapModel" "values" "[I" ∈ AW := List.mem_filter.mpr ⟨List.mem_append_right _ (List.mem_of_getElem? (i := 1110) (by decide +kernel)), by decide +kernel⟩
theorem wm_11 : Cond.constantLong RX4 93 6 ∈ AW := List.mem_filter.mpr ⟨List.mem_append_right _ (List.mem_of_getElem? (i := 1214) (by decide +kernel)), by decide +kernel⟩
theorem wm_12 : Cond.fieldLink RX4 35 "WordHeapModel" "capacity" "[I" ∈ AW := List.mem_filter.mpr ⟨List.mem_append_right _ (List.mem_of_getElem? (i := 1112) (by decide +kernel)), by decide +kernel⟩
theorem wm_13 : Cond.methodLink RX4 95 yX4_tableOf ∈ AW := List.mem_filter.mpr ⟨List.mem_append_right _ (List.mem_of_getElem? (i := 1215) (by decide +kernel)), by decide +kernel⟩
theorem wm_14 : Cond.instanceMethod yX4_tableOf ∈ AW := List.mem_filter.mpr ⟨List.mem_append_right _ (List.mem_of_getElem? (i := 1217) (by decide +kernel)), by decide +kernel⟩
theorem wm_15 : Cond.selects RX4 yX4_tableOf yX4_tableOf ∈ AW := List.mem_filter.mpr ⟨List.mem_append_left _ (List.mem_of_getElem? (i := 37) (by decide +kernel)), by decide +kernel⟩
theorem wm_16 : Cond.code yX4_tableOf cX4_tableOf 4 (some .long) ∈ AW := List.mem_filter.mpr ⟨List.mem_append_right _ (List.mem_of_getElem? (i := 1218) (by decide +kernel)), by decide +kernel⟩
theorem wm_17 : Cond.fieldLink RX4 20 "WordHeapModel" "size" "[I" ∈ AW := List.mem_filter.mpr ⟨List.mem_append_right _ (List.mem_of_getElem? (i := 1107) (by decide +kernel)), by decide +kernel⟩
theorem wm_18 : Cond.fieldLink RX4 51 "WordHeapModel" "reached" "[Z" ∈ AW := List.mem_filter.mpr ⟨List.mem_append_right _ (List.mem_of_getElem? (i := 1117) (by decide +kernel)), by decide +kernel⟩
theorem wm_19 : Cond.fieldLink RX4 99 "WordHeapModel" "made" "I" ∈ AW := List.mem_filter.mpr ⟨List.mem_append_right _ (List.mem_of_getElem? (i := 1105) (by decide +kernel)), by decide +kernel⟩
theorem wm_20 : Cond.methodLink RX4 102 yX4_reach ∈ AW := List.mem_filter.mpr ⟨List.mem_append_right _ (List.mem_of_getElem? (i := 1206) (by decide +kernel)), by decide +kernel⟩
theorem wm_21 : Cond.instanceMethod yX4_reach ∈ AW := List.mem_filter.mpr ⟨List.mem_append_right _ (List.mem_of_getElem? (i := 1208) (by decide +kernel)), by decide +kernel⟩
theorem wm_22 : Cond.selects RX4 yX4_reach yX4_reach ∈ AW := List.mem_filter.mpr ⟨List.mem_append_left _ (List.mem_of_getElem? (i := 35) (by decide +kernel)), by decide +kernel⟩
theorem wm_23 : Cond.code yX4_reach cX4_reach 2 (some .boolean) ∈ AW := List.mem_filter.mpr ⟨List.mem_append_right _ (List.mem_of_getElem? (i := 1209) (by decide +kernel)), by decide +kernel⟩
theorem wm_24 : Cond.fieldLink RX4 106 "WordHeapModel" "entries" "I" ∈ AW := List.mem_filter.mpr ⟨List.mem_append_right _ (List.mem_of_getElem? (i := 1127) (by decide +kernel)), by decide +kernel⟩
theorem wm_25 : Cond.fieldLink RX4 64 "WordHeapModel" "entryMap" "[I" ∈ AW := List.mem_filter.mpr ⟨List.mem_append_right _ (List.mem_of_getElem? (i := 1123) (by decide +kernel)), by decide +kernel⟩
theorem wm_26 : Cond.fieldLink RX4 54 "WordHeapModel" "wordTag" "[I" ∈ AW := List.mem_filter.mpr ⟨List.mem_append_right _ (List.mem_of_getElem? (i := 1118) (by decide +kernel)), by decide +kernel⟩
theorem wm_27 : Cond.fieldLink RX4 23 "WordHeapModel" "start" "[I" ∈ AW := List.mem_filter.mpr ⟨List.mem_append_right _ (List.mem_of_getElem? (i := 1108) (by decide +kernel)), by decide +kernel⟩
theorem wm_28 : Cond.fieldLink RX4 70 "WordHeapModel" "entryTag" "[I" ∈ AW := List.mem_filter.mpr ⟨List.mem_append_right _ (List.mem_of_getElem? (i := 1125) (by decide +kernel)), by decide +kernel⟩
theorem wm_29 : Cond.fieldLink RX4 67 "WordHeapModel" "entryOrder" "[I" ∈ AW := List.mem_filter.mpr ⟨List.mem_append_right _ (List.mem_of_getElem? (i := 1124) (by decide +kernel)), by decide +kernel⟩
theorem wm_30 : Cond.fieldLink RX4 73 "WordHeapModel" "entryVal" "[J" ∈ AW := List.mem_filter.mpr ⟨List.mem_append_right _ (List.mem_of_getElem? (i := 1126) (by decide +kernel)), by decide +kernel⟩
theorem wm_31 : Cond.fieldLink RX4 112 "WordHeapModel" "byteCount" "I" ∈ AW := List.mem_filter.mpr ⟨List.mem_append_right _ (List.mem_of_getElem? (i := 1122) (by decide +kernel)), by decide +kernel⟩
theorem wm_32 : Cond.fieldLink RX4 109 "WordHeapModel" "words" "I" ∈ AW := List.mem_filter.mpr ⟨List.mem_append_right _ (List.mem_of_getElem? (i := 1120) (by decide +kernel)), by decide +kernel⟩
theorem wm_33 : Cond.fieldLink RX4 44 "WordHeapModel" "there" "[Z" ∈ AW := List.mem_filter.mpr ⟨List.mem_append_right _ (List.mem_of_getElem? (i := 1115) (by decide +kernel)), by decide +kernel⟩
theorem wm_34 : Cond.methodLink RX4 115 yX4_moveEntry ∈ AW := List.mem_filter.mpr ⟨List.mem_append_right _ (List.mem_of_getElem? (i := 1223) (by decide +kernel)), by decide +kernel⟩
theorem wm_35 : Cond.instanceMethod yX4_moveEntry ∈ AW := List.mem_filter.mpr ⟨List.mem_append_right _ (List.mem_of_getElem? (i := 1225) (by decide +kernel)), by decide +kernel⟩
theorem wm_36 : Cond.selects RX4 yX4_moveEntry yX4_moveEntry ∈ AW := List.mem_filter.mpr ⟨List.mem_append_left _ (List.mem_of_getElem? (i := 39) (by decide +kernel)), by decide +kernel⟩
theorem wm_37 : Cond.code yX4_moveEntry cX4_moveEntry 4 none ∈ AW := List.mem_filter.mpr ⟨List.mem_append_right _ (List.mem_of_getElem? (i := 1226) (by decide +kernel)), by decide +kernel⟩
theorem wm_38 : Cond.fieldLink RX4 60 "WordHeapModel" "bytes" "[B" ∈ AW := List.mem_filter.mpr ⟨List.mem_append_right _ (List.mem_of_getElem? (i := 1121) (by decide +kernel)), by decide +kernel⟩
theorem wm_39 : Cond.fieldLink RX4 57 "WordHeapModel" "wordVal" "[J" ∈ AW := List.mem_filter.mpr ⟨List.mem_append_right _ (List.mem_of_getElem? (i := 1119) (by decide +kernel)), by decide +kernel⟩
theorem wm_40 : Cond.fieldLink RX4 122 "WordHeapModel" "oldTables" "J" ∈ AW := List.mem_filter.mpr ⟨List.mem_append_right _ (List.mem_of_getElem? (i := 1101) (by decide +kernel)), by decide +kernel⟩
theorem wm_41 : Cond.methodLink RX4 119 yX4_findReached ∈ AW := List.mem_filter.mpr ⟨List.mem_append_right _ (List.mem_of_getElem? (i := 1202) (by decide +kernel)), by decide +kernel⟩
theorem wm_42 : Cond.instanceMethod yX4_findReached ∈ AW := List.mem_filter.mpr ⟨List.mem_append_right _ (List.mem_of_getElem? (i := 1204) (by decide +kernel)), by decide +kernel⟩
theorem wm_43 : Cond.selects RX4 yX4_findReached yX4_findReached ∈ AW := List.mem_filter.mpr ⟨List.mem_append_left _ (List.mem_of_getElem? (i := 34) (by decide +kernel)), by decide +kernel⟩
theorem wm_44 : Cond.code yX4_findReached cX4_findReached 5 none ∈ AW := List.mem_filter.mpr ⟨List.mem_append_right _ (List.mem_of_getElem? (i := 1205) (by decide +kernel)), by decide +kernel⟩
theorem wm_45 : Cond.fieldLink RX4 132 "WordHeapModel" "used" "J" ∈ AW := List.mem_filter.mpr ⟨List.mem_append_right _ (List.mem_of_getElem? (i := 1099) (by decide +kernel)), by decide +kernel⟩
theorem wm_46 : Cond.fieldLink RX4 135 "WordHeapModel" "givenBack" "J" ∈ AW := List.mem_filter.mpr ⟨List.mem_append_right _ (List.mem_of_getElem? (i := 1100) (by decide +kernel)), by decide +kernel⟩
theorem wm_47 : Cond.fieldLink RX4 138 "WordHeapModel" "collections" "I" ∈ AW := List.mem_filter.mpr ⟨List.mem_append_right _ (List.mem_of_getElem? (i := 1102) (by decide +kernel)), by decide +kernel⟩
theorem wm_48 : Cond.methodLink RX4 129 yX4_push ∈ AW := List.mem_filter.mpr ⟨List.mem_append_right _ (List.mem_of_getElem? (i := 1219) (by decide +kernel)), by decide +kernel⟩
theorem wm_49 : Cond.instanceMethod yX4_push ∈ AW := List.mem_filter.mpr ⟨List.mem_append_right _ (List.mem_of_getElem? (i := 1221) (by decide +kernel)), by decide +kernel⟩
theorem wm_50 : Cond.selects RX4 yX4_push yX4_push ∈ AW := List.mem_filter.mpr ⟨List.mem_append_left _ (List.mem_of_getElem? (i := 38) (by decide +kernel)), by decide +kernel⟩
theorem wm_51 : Cond.code yX4_push cX4_push 6 none ∈ AW := List.mem_filter.mpr ⟨List.mem_append_right _ (List.mem_of_getElem? (i := 1222) (by decide +kernel)), by decide +kernel⟩
theorem wm_52 : Cond.methodLink RX4 125 yX4_takes ∈ AW := List.mem_filter.mpr ⟨List.mem_append_right _ (List.mem_of_getElem? (i := 1210) (by decide +kernel)), by decide +kernel⟩
theorem wm_53 : Cond.instanceMethod yX4_takes ∈ AW := List.mem_filter.mpr ⟨List.mem_append_right _ (List.mem_of_getElem? (i := 1212) (by decide +kernel)), by decide +kernel⟩
theorem wm_54 : Cond.selects RX4 yX4_takes yX4_takes ∈ AW := List.mem_filter.mpr ⟨List.mem_append_left _ (List.mem_of_getElem? (i := 36) (by decide +kernel)), by decide +kernel⟩
theorem wm_55 : Cond.code yX4_takes cX4_takes 2 (some .long) ∈ AW := List.mem_filter.mpr ⟨List.mem_append_right _ (List.mem_of_getElem? (i := 1213) (by decide +kernel)), by decide +kernel⟩
theorem wm_56 : Cond.fieldLink RX4 141 "WordHeapModel" "isEager" "Z" ∈ AW := List.mem_filter.mpr ⟨List.mem_append_right _ (List.mem_of_getElem? (i := 1098) (by decide +kernel)), by decide +kernel⟩
theorem wm_57 : Cond.fieldLink RX4 81 "WordHeapModel" "limit" "J" ∈ AW := List.mem_filter.mpr ⟨List.mem_append_right _ (List.mem_of_getElem? (i := 1097) (by decide +kernel)), by decide +kernel⟩
theorem wm_58 : Cond.methodLink RX4 145 yX4_collect ∈ AW := List.mem_filter.mpr ⟨List.mem_append_right _ (List.mem_of_getElem? (i := 1257) (by decide +kernel)), by decide +kernel⟩
theorem wm_59 : Cond.instanceMethod yX4_collect ∈ AW := List.mem_filter.mpr ⟨List.mem_append_right _ (List.mem_of_getElem? (i := 1199) (by decide +kernel)), by decide +kernel⟩
theorem wm_60 : Cond.selects RX4 yX4_collect yX4_collect ∈ AW := List.mem_filter.mpr ⟨List.mem_append_right _ (List.mem_of_getElem? (i := 1200) (by decide +kernel)), by decide +kernel⟩
theorem wm_61 : Cond.code yX4_collect cX4_collect 4 (some .int) ∈ AW := List.mem_filter.mpr ⟨List.mem_append_right _ (List.mem_of_getElem? (i := 1201) (by decide +kernel)), by decide +kernel⟩
theorem wm_62 : Cond.fieldLink RX4 32 "WordHeapModel" "textual" "[I" ∈ AW := List.mem_filter.mpr ⟨List.mem_append_right _ (List.mem_of_getElem? (i := 1111) (by decide +kernel)), by decide +kernel⟩
theorem wm_63 : Cond.fieldLink RX4 38 "WordHeapModel" "filled" "[I" ∈ AW := List.mem_filter.mpr ⟨List.mem_append_right _ (List.mem_of_getElem? (i := 1113) (by decide +kernel)), by decide +kernel⟩
theorem wm_64 : Cond.fieldLink RX4 41 "WordHeapModel" "orders" "[I" ∈ AW := List.mem_filter.mpr ⟨List.mem_append_right _ (List.mem_of_getElem? (i := 1114) (by decide +kernel)), by decide +kernel⟩
theorem wm_65 : Cond.fieldLink RX4 48 "WordHeapModel" "kept" "[Z" ∈ AW := List.mem_filter.mpr ⟨List.mem_append_right _ (List.mem_of_getElem? (i := 1116) (by decide +kernel)), by decide +kernel⟩
theorem wm_66 : Cond.methodLink RX4 153 yX4_widerTruths ∈ AW := List.mem_filter.mpr ⟨List.mem_append_right _ (List.mem_of_getElem? (i := 1269) (by decide +kernel)), by decide +kernel⟩
theorem wm_67 : Cond.static yX4_widerTruths ∈ AW := List.mem_filter.mpr ⟨List.mem_append_right _ (List.mem_of_getElem? (i := 1270) (by decide +kernel)), by decide +kernel⟩
theorem wm_68 : Cond.code yX4_widerTruths cX4_widerTruths 3 (some (.array .boolean)) ∈ AW := List.mem_filter.mpr ⟨List.mem_append_right _ (List.mem_of_getElem? (i := 1271) (by decide +kernel)), by decide +kernel⟩
theorem wm_69 : Cond.methodLink RX4 149 yX4_wider ∈ AW := List.mem_filter.mpr ⟨List.mem_append_right _ (List.mem_of_getElem? (i := 1266) (by decide +kernel)), by decide +kernel⟩
theorem wm_70 : Cond.static yX4_wider ∈ AW := List.mem_filter.mpr ⟨List.mem_append_right _ (List.mem_of_getElem? (i := 1267) (by decide +kernel)), by decide +kernel⟩
theorem wm_71 : Cond.code yX4_wider cX4_wider 3 (some (.array .int)) ∈ AW := List.mem_filter.mpr ⟨List.mem_append_right _ (List.mem_of_getElem? (i := 1268) (by decide +kernel)), by decide +kernel⟩
theorem wm_72 : Cond.methodLink RX4 157 yX4_begin ∈ AW := List.mem_filter.mpr ⟨List.mem_append_right _ (List.mem_of_getElem? (i := 1262) (by decide +kernel)), by decide +kernel⟩
theorem wm_73 : Cond.instanceMethod yX4_begin ∈ AW := List.mem_filter.mpr ⟨List.mem_append_right _ (List.mem_of_getElem? (i := 1264) (by decide +kernel)), by decide +kernel⟩
theorem wm_74 : Cond.selects RX4 yX4_begin yX4_begin ∈ AW := List.mem_filter.mpr ⟨List.mem_append_left _ (List.mem_of_getElem? (i := 43) (by decide +kernel)), by decide +kernel⟩
theorem wm_75 : Cond.code yX4_begin cX4_begin 3 (some .int) ∈ AW := List.mem_filter.mpr ⟨List.mem_append_right _ (List.mem_of_getElem? (i := 1265) (by decide +kernel)), by decide +kernel⟩
theorem wm_76 : Cond.methodLink RX4 161 yX4_widerBytes ∈ AW := List.mem_filter.mpr ⟨List.mem_append_right _ (List.mem_of_getElem? (i := 1284) (by decide +kernel)), by decide +kernel⟩
theorem wm_77 : Cond.static yX4_widerBytes ∈ AW := List.mem_filter.mpr ⟨List.mem_append_right _ (List.mem_of_getElem? (i := 1285) (by decide +kernel)), by decide +kernel⟩
theorem wm_78 : Cond.code yX4_widerBytes cX4_widerBytes 3 (some (.array .byte)) ∈ AW := List.mem_filter.mpr ⟨List.mem_append_right _ (List.mem_of_getElem? (i := 1286) (by decide +kernel)), by decide +kernel⟩
theorem wm_79 : Cond.methodLink RX4 165 yX4_isRegister ∈ AW := List.mem_filter.mpr ⟨List.mem_append_right _ (List.mem_of_getElem? (i := 1231) (by decide +kernel)), by decide +kernel⟩
theorem wm_80 : Cond.static yX4_isRegister ∈ AW := List.mem_filter.mpr ⟨List.mem_append_right _ (List.mem_of_getElem? (i := 1232) (by decide +kernel)), by decide +kernel⟩
theorem wm_81 : Cond.code yX4_isRegister cX4_isRegister 1 (some .boolean) ∈ AW := List.mem_filter.mpr ⟨List.mem_append_right _ (List.mem_of_getElem? (i := 1233) (by decide +kernel)), by decide +kernel⟩
theorem wm_82 : Cond.methodLink RX4 168 yX4_set ∈ AW := List.mem_filter.mpr ⟨List.mem_append_right _ (List.mem_of_getElem? (i := 1234) (by decide +kernel)), by decide +kernel⟩
theorem wm_83 : Cond.instanceMethod yX4_set ∈ AW := List.mem_filter.mpr ⟨List.mem_append_right _ (List.mem_of_getElem? (i := 1236) (by decide +kernel)), by decide +kernel⟩
theorem wm_84 : Cond.selects RX4 yX4_set yX4_set ∈ AW := List.mem_filter.mpr ⟨List.mem_append_left _ (List.mem_of_getElem? (i := 40) (by decide +kernel)), by decide +kernel⟩
theorem wm_85 : Cond.code yX4_set cX4_set 5 none ∈ AW := List.mem_filter.mpr ⟨List.mem_append_right _ (List.mem_of_getElem? (i := 1237) (by decide +kernel)), by decide +kernel⟩
theorem wm_86 : Cond.methodLink RX4 183 yX4_widerLongs ∈ AW := List.mem_filter.mpr ⟨List.mem_append_right _ (List.mem_of_getElem? (i := 1272) (by decide +kernel)), by decide +kernel⟩
theorem wm_87 : Cond.static yX4_widerLongs ∈ AW := List.mem_filter.mpr ⟨List.mem_append_right _ (List.mem_of_getElem? (i := 1273) (by decide +kernel)), by decide +kernel⟩
theorem wm_88 : Cond.code yX4_widerLongs cX4_widerLongs 3 (some (.array .long)) ∈ AW := List.mem_filter.mpr ⟨List.mem_append_right _ (List.mem_of_getElem? (i := 1274) (by decide +kernel)), by decide +kernel⟩
theorem wm_89 : Cond.methodLink RX4 172 yX4_outside ∈ AW := List.mem_filter.mpr ⟨List.mem_append_right _ (List.mem_of_getElem? (i := 1250) (by decide +kernel)), by decide +kernel⟩
theorem wm_90 : Cond.static yX4_outside ∈ AW := List.mem_filter.mpr ⟨List.mem_append_right _ (List.mem_of_getElem? (i := 1251) (by decide +kernel)), by decide +kernel⟩
theorem wm_91 : Cond.code yX4_outside cX4_outside 3 (some .boolean) ∈ AW := List.mem_filter.mpr ⟨List.mem_append_right _ (List.mem_of_getElem? (i := 1252) (by decide +kernel)), by decide +kernel⟩
theorem wm_92 : Cond.methodLink RX4 176 yX4_hasRoom ∈ AW := List.mem_filter.mpr ⟨List.mem_append_right _ (List.mem_of_getElem? (i := 1253) (by decide +kernel)), by decide +kernel⟩
theorem wm_93 : Cond.instanceMethod yX4_hasRoom ∈ AW := List.mem_filter.mpr ⟨List.mem_append_right _ (List.mem_of_getElem? (i := 1255) (by decide +kernel)), by decide +kernel⟩
theorem wm_94 : Cond.selects RX4 yX4_hasRoom yX4_hasRoom ∈ AW := List.mem_filter.mpr ⟨List.mem_append_left _ (List.mem_of_getElem? (i := 41) (by decide +kernel)), by decide +kernel⟩
theorem wm_95 : Cond.code yX4_hasRoom cX4_hasRoom 3 (some .boolean) ∈ AW := List.mem_filter.mpr ⟨List.mem_append_right _ (List.mem_of_getElem? (i := 1256) (by decide +kernel)), by decide +kernel⟩
theorem wm_96 : Cond.methodLink RX4 180 yX4_makeRow ∈ AW := List.mem_filter.mpr ⟨List.mem_append_right _ (List.mem_of_getElem? (i := 1258) (by decide +kernel)), by decide +kernel⟩
theorem wm_97 : Cond.instanceMethod yX4_makeRow ∈ AW := List.mem_filter.mpr ⟨List.mem_append_right _ (List.mem_of_getElem? (i := 1260) (by decide +kernel)), by decide +kernel⟩
theorem wm_98 : Cond.selects RX4 yX4_makeRow yX4_makeRow ∈ AW := List.mem_filter.mpr ⟨List.mem_append_left _ (List.mem_of_getElem? (i := 42) (by decide +kernel)), by decide +kernel⟩
theorem wm_99 : Cond.code yX4_makeRow cX4_makeRow 5 (some .int) ∈ AW := List.mem_filter.mpr ⟨List.mem_append_right _ (List.mem_of_getElem? (i := 1261) (by decide +kernel)), by decide +kernel⟩
theorem wm_100 : Cond.constant RX4 187 32768 ∈ AW := List.mem_filter.mpr ⟨List.mem_append_right _ (List.mem_of_getElem? (i := 1279) (by decide +kernel)), by decide +kernel⟩
theorem wm_101 : Cond.methodLink RX4 188 yX4_beginText ∈ AW := List.mem_filter.mpr ⟨List.mem_append_right _ (List.mem_of_getElem? (i := 1280) (by decide +kernel)), by decide +kernel⟩
theorem wm_102 : Cond.instanceMethod yX4_beginText ∈ AW := List.mem_filter.mpr ⟨List.mem_append_right _ (List.mem_of_getElem? (i := 1282) (by decide +kernel)), by decide +kernel⟩
theorem wm_103 : Cond.selects RX4 yX4_beginText yX4_beginText ∈ AW := List.mem_filter.mpr ⟨List.mem_append_left _ (List.mem_of_getElem? (i := 44) (by decide +kernel)), by decide +kernel⟩
theorem wm_104 : Cond.code yX4_beginText cX4_beginText 4 (some .int) ∈ AW := List.mem_filter.mpr ⟨List.mem_append_right _ (List.mem_of_getElem? (i := 1283) (by decide +kernel)), by decide +kernel⟩
theorem wm_105 : Cond.constantLong RX4 192 8 ∈ AW := List.mem_filter.mpr ⟨List.mem_append_right _ (List.mem_of_getElem? (i := 1291) (by decide +kernel)), by decide +kernel⟩
theorem wm_106 : Cond.methodLink RX4 197 yX4_bytesOf ∈ AW := List.mem_filter.mpr ⟨List.mem_append_right _ (List.mem_of_getElem? (i := 1304) (by decide +kernel)), by decide +kernel⟩
theorem wm_107 : Cond.instanceMethod yX4_bytesOf ∈ AW := List.mem_filter.mpr ⟨List.mem_append_right _ (List.mem_of_getElem? (i := 1306) (by decide +kernel)), by decide +kernel⟩
theorem wm_108 : Cond.selects RX4 yX4_bytesOf yX4_bytesOf ∈ AW := List.mem_filter.mpr ⟨List.mem_append_left _ (List.mem_of_getElem? (i := 47) (by decide +kernel)), by decide +kernel⟩
theorem wm_109 : Cond.code yX4_bytesOf cX4_bytesOf 2 (some .int) ∈ AW := List.mem_filter.mpr ⟨List.mem_append_right _ (List.mem_of_getElem? (i := 1307) (by decide +kernel)), by decide +kernel⟩
theorem wm_110 : Cond.methodLink RX4 194 yX4_isText ∈ AW := List.mem_filter.mpr ⟨List.mem_append_right _ (List.mem_of_getElem? (i := 1296) (by decide +kernel)), by decide +kernel⟩
theorem wm_111 : Cond.instanceMethod yX4_isText ∈ AW := List.mem_filter.mpr ⟨List.mem_append_right _ (List.mem_of_getElem? (i := 1298) (by decide +kernel)), by decide +kernel⟩
theorem wm_112 : Cond.selects RX4 yX4_isText yX4_isText ∈ AW := List.mem_filter.mpr ⟨List.mem_append_left _ (List.mem_of_getElem? (i := 45) (by decide +kernel)), by decide +kernel⟩
theorem wm_113 : Cond.code yX4_isText cX4_isText 2 (some .boolean) ∈ AW := List.mem_filter.mpr ⟨List.mem_append_right _ (List.mem_of_getElem? (i := 1299) (by decide +kernel)), by decide +kernel⟩
theorem wm_114 : Cond.methodLink RX4 200 yX4_byteOf ∈ AW := List.mem_filter.mpr ⟨List.mem_append_right _ (List.mem_of_getElem? (i := 1308) (by decide +kernel)), by decide +kernel⟩
theorem wm_115 : Cond.instanceMethod yX4_byteOf ∈ AW := List.mem_filter.mpr ⟨List.mem_append_right _ (List.mem_of_getElem? (i := 1310) (by decide +kernel)), by decide +kernel⟩
theorem wm_116 : Cond.selects RX4 yX4_byteOf yX4_byteOf ∈ AW := List.mem_filter.mpr ⟨List.mem_append_left _ (List.mem_of_getElem? (i := 48) (by decide +kernel)), by decide +kernel⟩
theorem wm_117 : Cond.code yX4_byteOf cX4_byteOf 3 (some .int) ∈ AW := List.mem_filter.mpr ⟨List.mem_append_right _ (List.mem_of_getElem? (i := 1311) (by decide +kernel)), by decide +kernel⟩
theorem wm_118 : Cond.methodLink RX4 203 yX4_order ∈ AW := List.mem_filter.mpr ⟨List.mem_append_right _ (List.mem_of_getElem? (i := 1320) (by decide +kernel)), by decide +kernel⟩
theorem wm_119 : Cond.instanceMethod yX4_order ∈ AW := List.mem_filter.mpr ⟨List.mem_append_right _ (List.mem_of_getElem? (i := 1322) (by decide +kernel)), by decide +kernel⟩
theorem wm_120 : Cond.selects RX4 yX4_order yX4_order ∈ AW := List.mem_filter.mpr ⟨List.mem_append_left _ (List.mem_of_getElem? (i := 49) (by decide +kernel)), by decide +kernel⟩
theorem wm_121 : Cond.code yX4_order cX4_order 4 (some .int) ∈ AW := List.mem_filter.mpr ⟨List.mem_append_right _ (List.mem_of_getElem? (i := 1323) (by decide +kernel)), by decide +kernel⟩
theorem wm_122 : Cond.methodLink RX4 206 yX4_hasWord ∈ AW := List.mem_filter.mpr ⟨List.mem_append_right _ (List.mem_of_getElem? (i := 1340) (by decide +kernel)), by decide +kernel⟩
theorem wm_123 : Cond.instanceMethod yX4_hasWord ∈ AW := List.mem_filter.mpr ⟨List.mem_append_right _ (List.mem_of_getElem? (i := 1342) (by decide +kernel)), by decide +kernel⟩
theorem wm_124 : Cond.selects RX4 yX4_hasWord yX4_hasWord ∈ AW := List.mem_filter.mpr ⟨List.mem_append_left _ (List.mem_of_getElem? (i := 50) (by decide +kernel)), by decide +kernel⟩
theorem wm_125 : Cond.code yX4_hasWord cX4_hasWord 4 (some .boolean) ∈ AW := List.mem_filter.mpr ⟨List.mem_append_right _ (List.mem_of_getElem? (i := 1343) (by decide +kernel)), by decide +kernel⟩
theorem wm_126 : Cond.methodLink RX4 210 yX4_at ∈ AW := List.mem_filter.mpr ⟨List.mem_append_right _ (List.mem_of_getElem? (i := 1344) (by decide +kernel)), by decide +kernel⟩
theorem wm_127 : Cond.instanceMethod yX4_at ∈ AW := List.mem_filter.mpr ⟨List.mem_append_right _ (List.mem_of_getElem? (i := 1346) (by decide +kernel)), by decide +kernel⟩
theorem wm_128 : Cond.selects RX4 yX4_at yX4_at ∈ AW := List.mem_filter.mpr ⟨List.mem_append_left _ (List.mem_of_getElem? (i := 51) (by decide +kernel)), by decide +kernel⟩
theorem wm_129 : Cond.code yX4_at cX4_at 3 (some .int) ∈ AW := List.mem_filter.mpr ⟨List.mem_append_right _ (List.mem_of_getElem? (i := 1347) (by decide +kernel)), by decide +kernel⟩
theorem wm_130 : Cond.methodLink RX4 213 yX4_hasWords ∈ AW := List.mem_filter.mpr ⟨List.mem_append_right _ (List.mem_of_getElem? (i := 1356) (by decide +kernel)), by decide +kernel⟩
theorem wm_131 : Cond.instanceMethod yX4_hasWords ∈ AW := List.mem_filter.mpr ⟨List.mem_append_right _ (List.mem_of_getElem? (i := 1358) (by decide +kernel)), by decide +kernel⟩
theorem wm_132 : Cond.selects RX4 yX4_hasWords yX4_hasWords ∈ AW := List.mem_filter.mpr ⟨List.mem_append_left _ (List.mem_of_getElem? (i := 52) (by decide +kernel)), by decide +kernel⟩
theorem wm_133 : Cond.code yX4_hasWords cX4_hasWords 3 (some .boolean) ∈ AW := List.mem_filter.mpr ⟨List.mem_append_right _ (List.mem_of_getElem? (i := 1359) (by decide +kernel)), by decide +kernel⟩
theorem wm_134 : Cond.methodLink RX4 216 yX4_alikeWord ∈ AW := List.mem_filter.mpr ⟨List.mem_append_right _ (List.mem_of_getElem? (i := 1376) (by decide +kernel)), by decide +kernel⟩
theorem wm_135 : Cond.instanceMethod yX4_alikeWord ∈ AW := List.mem_filter.mpr ⟨List.mem_append_right _ (List.mem_of_getElem? (i := 1378) (by decide +kernel)), by decide +kernel⟩
theorem wm_136 : Cond.selects RX4 yX4_alikeWord yX4_alikeWord ∈ AW := List.mem_filter.mpr ⟨List.mem_append_left _ (List.mem_of_getElem? (i := 56) (by decide +kernel)), by decide +kernel⟩
theorem wm_137 : Cond.code yX4_alikeWord cX4_alikeWord 9 (some .boolean) ∈ AW := List.mem_filter.mpr ⟨List.mem_append_right _ (List.mem_of_getElem? (i := 1379) (by decide +kernel)), by decide +kernel⟩
theorem wm_138 : Cond.methodLink RX4 220 yX4_isTextual ∈ AW := List.mem_filter.mpr ⟨List.mem_append_right _ (List.mem_of_getElem? (i := 1368) (by decide +kernel)), by decide +kernel⟩
theorem wm_139 : Cond.instanceMethod yX4_isTextual ∈ AW := List.mem_filter.mpr ⟨List.mem_append_right _ (List.mem_of_getElem? (i := 1370) (by decide +kernel)), by decide +kernel⟩
theorem wm_140 : Cond.selects RX4 yX4_isTextual yX4_isTextual ∈ AW := List.mem_filter.mpr ⟨List.mem_append_left _ (List.mem_of_getElem? (i := 54) (by decide +kernel)), by decide +kernel⟩
theorem wm_141 : Cond.code yX4_isTextual cX4_isTextual 6 (some .boolean) ∈ AW := List.mem_filter.mpr ⟨List.mem_append_right _ (List.mem_of_getElem? (i := 1371) (by decide +kernel)), by decide +kernel⟩
theorem wm_142 : Cond.methodLink RX4 223 yX4_entriesOf ∈ AW := List.mem_filter.mpr ⟨List.mem_append_right _ (List.mem_of_getElem? (i := 1388) (by decide +kernel)), by decide +kernel⟩
theorem wm_143 : Cond.instanceMethod yX4_entriesOf ∈ AW := List.mem_filter.mpr ⟨List.mem_append_right _ (List.mem_of_getElem? (i := 1390) (by decide +kernel)), by decide +kernel⟩
theorem wm_144 : Cond.selects RX4 yX4_entriesOf yX4_entriesOf ∈ AW := List.mem_filter.mpr ⟨List.mem_append_left _ (List.mem_of_getElem? (i := 59) (by decide +kernel)), by decide +kernel⟩
theorem wm_145 : Cond.code yX4_entriesOf cX4_entriesOf 4 (some .int) ∈ AW := List.mem_filter.mpr ⟨List.mem_append_right _ (List.mem_of_getElem? (i := 1391) (by decide +kernel)), by decide +kernel⟩
theorem wm_146 : Cond.methodLink RX4 237 yX4_renews ∈ AW := List.mem_filter.mpr ⟨List.mem_append_right _ (List.mem_of_getElem? (i := 1384) (by decide +kernel)), by decide +kernel⟩
theorem wm_147 : Cond.instanceMethod yX4_renews ∈ AW := List.mem_filter.mpr ⟨List.mem_append_right _ (List.mem_of_getElem? (i := 1386) (by decide +kernel)), by decide +kernel⟩
theorem wm_148 : Cond.selects RX4 yX4_renews yX4_renews ∈ AW := List.mem_filter.mpr ⟨List.mem_append_left _ (List.mem_of_getElem? (i := 58) (by decide +kernel)), by decide +kernel⟩
theorem wm_149 : Cond.code yX4_renews cX4_renews 4 (some .boolean) ∈ AW := List.mem_filter.mpr ⟨List.mem_append_right _ (List.mem_of_getElem? (i := 1387) (by decide +kernel)), by decide +kernel⟩
theorem wm_150 : Cond.methodLink RX4 233 yX4_setEntry ∈ AW := List.mem_filter.mpr ⟨List.mem_append_right _ (List.mem_of_getElem? (i := 1380) (by decide +kernel)), by decide +kernel⟩
theorem wm_151 : Cond.instanceMethod yX4_setEntry ∈ AW := List.mem_filter.mpr ⟨List.mem_append_right _ (List.mem_of_getElem? (i := 1382) (by decide +kernel)), by decide +kernel⟩
theorem wm_152 : Cond.selects RX4 yX4_setEntry yX4_setEntry ∈ AW := List.mem_filter.mpr ⟨List.mem_append_left _ (List.mem_of_getElem? (i := 57) (by decide +kernel)), by decide +kernel⟩
theorem wm_153 : Cond.code yX4_setEntry cX4_setEntry 6 none ∈ AW := List.mem_filter.mpr ⟨List.mem_append_right _ (List.mem_of_getElem? (i := 1383) (by decide +kernel)), by decide +kernel⟩
theorem wm_154 : Cond.methodLink RX4 230 yX4_find ∈ AW := List.mem_filter.mpr ⟨List.mem_append_right _ (List.mem_of_getElem? (i := 1372) (by decide +kernel)), by decide +kernel⟩
theorem wm_155 : Cond.instanceMethod yX4_find ∈ AW := List.mem_filter.mpr ⟨List.mem_append_right _ (List.mem_of_getElem? (i := 1374) (by decide +kernel)), by decide +kernel⟩
theorem wm_156 : Cond.selects RX4 yX4_find yX4_find ∈ AW := List.mem_filter.mpr ⟨List.mem_append_left _ (List.mem_of_getElem? (i := 55) (by decide +kernel)), by decide +kernel⟩
theorem wm_157 : Cond.code yX4_find cX4_find 7 (some .int) ∈ AW := List.mem_filter.mpr ⟨List.mem_append_right _ (List.mem_of_getElem? (i := 1375) (by decide +kernel)), by decide +kernel⟩
theorem wm_158 : Cond.methodLink RX4 226 yX4_wrong ∈ AW := List.mem_filter.mpr ⟨List.mem_append_right _ (List.mem_of_getElem? (i := 1364) (by decide +kernel)), by decide +kernel⟩
theorem wm_159 : Cond.instanceMethod yX4_wrong ∈ AW := List.mem_filter.mpr ⟨List.mem_append_right _ (List.mem_of_getElem? (i := 1366) (by decide +kernel)), by decide +kernel⟩
theorem wm_160 : Cond.selects RX4 yX4_wrong yX4_wrong ∈ AW := List.mem_filter.mpr ⟨List.mem_append_left _ (List.mem_of_getElem? (i := 53) (by decide +kernel)), by decide +kernel⟩
theorem wm_161 : Cond.code yX4_wrong cX4_wrong 4 (some .int) ∈ AW := List.mem_filter.mpr ⟨List.mem_append_right _ (List.mem_of_getElem? (i := 1367) (by decide +kernel)), by decide +kernel⟩
theorem wm_162 : Cond.methodLink RX4 240 yX4_show ∈ AW := List.mem_filter.mpr ⟨List.mem_append_right _ (List.mem_of_getElem? (i := 1396) (by decide +kernel)), by decide +kernel⟩
theorem wm_163 : Cond.instanceMethod yX4_show ∈ AW := List.mem_filter.mpr ⟨List.mem_append_right _ (List.mem_of_getElem? (i := 1398) (by decide +kernel)), by decide +kernel⟩
theorem wm_164 : Cond.selects RX4 yX4_show yX4_show ∈ AW := List.mem_filter.mpr ⟨List.mem_append_left _ (List.mem_of_getElem? (i := 60) (by decide +kernel)), by decide +kernel⟩
theorem wm_165 : Cond.code yX4_show cX4_show 6 none ∈ AW := List.mem_filter.mpr ⟨List.mem_append_right _ (List.mem_of_getElem? (i := 1399) (by decide +kernel)), by decide +kernel⟩
theorem wm_166 : Cond.arrayClass .int ∈ AW := List.mem_filter.mpr ⟨List.mem_append_right _ (List.mem_of_getElem? (i := 1193) (by decide +kernel)), by decide +kernel⟩
theorem wm_167 : Cond.arrayClass .long ∈ AW := List.mem_filter.mpr ⟨List.mem_append_right _ (List.mem_of_getElem? (i := 93) (by decide +kernel)), by decide +kernel⟩
theorem wm_168 : Cond.arrayClass .boolean ∈ AW := List.mem_filter.mpr ⟨List.mem_append_right _ (List.mem_of_getElem? (i := 94) (by decide +kernel)), by decide +kernel⟩
theorem wm_169 : Cond.arrayClass .byte ∈ AW := List.mem_filter.mpr ⟨List.mem_append_right _ (List.mem_of_getElem? (i := 270) (by decide +kernel)), by decide +kernel⟩
theorem hdV_X4_is : yX4_is.cls = RX4 ∧ yX4_is.cls ≠ "java/lang/invoke/MethodHandle" ∧ yX4_is.cls ≠ "java/lang/invoke/VarHandle" ∧ (parseMethodDescriptor yX4_is.desc).map (fun d => d.parameters.length) = some 2 := by decide +kernel
theorem hdV_X4_tableOf : yX4_tableOf.cls = RX4 ∧ yX4_tableOf.cls ≠ "java/lang/invoke/MethodHandle" ∧ yX4_tableOf.cls ≠ "java/lang/invoke/VarHandle" ∧ (parseMethodDescriptor yX4_tableOf.desc).map (fun d => d.parameters.length) = some 2 := by decide +kernel
theorem hdV_X4_reach : yX4_reach.cls = RX4 ∧ yX4_reach.cls ≠ "java/lang/invoke/MethodHandle" ∧ yX4_reach.cls ≠ "java/lang/invoke/VarHandle" ∧ (parseMethodDescriptor yX4_reach.desc).map (fun d => d.parameters.length) = some 1 := by decide +kernel
theorem hdV_X4_moveEntry : yX4_moveEntry.cls = RX4 ∧ yX4_moveEntry.cls ≠ "java/lang/invoke/MethodHandle" ∧ yX4_moveEntry.cls ≠ "java/lang/invoke/VarHandle" ∧ (parseMethodDescriptor yX4_moveEntry.desc).map (fun d => d.parameters.length) = some 2 := by decide +kernel
theorem hdV_X4_findReached : yX4_findReached.cls = RX4 ∧ yX4_findReached.cls ≠ "java/lang/invoke/MethodHandle" ∧ yX4_findReached.cls ≠ "java/lang/invoke/VarHandle" ∧ (parseMethodDescriptor yX4_findReached.desc).map (fun d => d.parameters.length) = some 0 := by decide +kernel
theorem hdV_X4_push : yX4_push.cls = RX4 ∧ yX4_push.cls ≠ "java/lang/invoke/MethodHandle" ∧ yX4_push.cls ≠ "java/lang/invoke/VarHandle" ∧ (parseMethodDescriptor yX4_push.desc).map (fun d => d.parameters.length) = some 0 := by decide +kernel
theorem hdV_X4_takes : yX4_takes.cls = RX4 ∧ yX4_takes.cls ≠ "java/lang/invoke/MethodHandle" ∧ yX4_takes.cls ≠ "java/lang/invoke/VarHandle" ∧ (parseMethodDescriptor yX4_takes.desc).map (fun d => d.parameters.length) = some 1 := by decide +kernel
theorem hdV_X4_collect : yX4_collect.cls = RX4 ∧ yX4_collect.cls ≠ "java/lang/invoke/MethodHandle" ∧ yX4_collect.cls ≠ "java/lang/invoke/VarHandle" ∧ (parseMethodDescriptor yX4_collect.desc).map (fun d => d.parameters.length) = some 0 := by decide +kernel
theorem hdS_X4_widerTruths : yX4_widerTruths.cls = RX4 ∧ yX4_widerTruths.cls ≠ "java/lang/invoke/MethodHandle" ∧ yX4_widerTruths.cls ≠ "java/lang/invoke/VarHandle" ∧ (parseMethodDescriptor yX4_widerTruths.desc).map (fun d => d.parameters.length) = some 1 := by decide +kernel
theorem hdS_X4_wider : yX4_wider.cls = RX4 ∧ yX4_wider.cls ≠ "java/lang/invoke/MethodHandle" ∧ yX4_wider.cls ≠ "java/lang/invoke/VarHandle" ∧ (parseMethodDescriptor yX4_wider.desc).map (fun d => d.parameters.length) = some 1 := by decide +kernel
theorem hdV_X4_begin : yX4_begin.cls = RX4 ∧ yX4_begin.cls ≠ "java/lang/invoke/MethodHandle" ∧ yX4_begin.cls ≠ "java/lang/invoke/VarHandle" ∧ (parseMethodDescriptor yX4_begin.desc).map (fun d => d.parameters.length) = some 2 := by decide +kernel
theorem hdS_X4_widerBytes : yX4_widerBytes.cls = RX4 ∧ yX4_widerBytes.cls ≠ "java/lang/invoke/MethodHandle" ∧ yX4_widerBytes.cls ≠ "java/lang/invoke/VarHandle" ∧ (parseMethodDescriptor yX4_widerBytes.desc).map (fun d => d.parameters.length) = some 1 := by decide +kernel
theorem hdS_X4_isRegister : yX4_isRegister.cls = RX4 ∧ yX4_isRegister.cls ≠ "java/lang/invoke/MethodHandle" ∧ yX4_isRegister.cls ≠ "java/lang/invoke/VarHandle" ∧ (parseMethodDescriptor yX4_isRegister.desc).map (fun d => d.parameters.length) = some 1 := by decide +kernel
theorem hdV_X4_set : yX4_set.cls = RX4 ∧ yX4_set.cls ≠ "java/lang/invoke/MethodHandle" ∧ yX4_set.cls ≠ "java/lang/invoke/VarHandle" ∧ (parseMethodDescriptor yX4_set.desc).map (fun d => d.parameters.length) = some 3 := by decide +kernel
theorem hdS_X4_widerLongs : yX4_widerLongs.cls = RX4 ∧ yX4_widerLongs.cls ≠ "java/lang/invoke/MethodHandle" ∧ yX4_widerLongs.cls ≠ "java/lang/invoke/VarHandle" ∧ (parseMethodDescriptor yX4_widerLongs.desc).map (fun d => d.parameters.length) = some 1 := by decide +kernel
theorem hdS_X4_outside : yX4_outside.cls = RX4 ∧ yX4_outside.cls ≠ "java/lang/invoke/MethodHandle" ∧ yX4_outside.cls ≠ "java/lang/invoke/VarHandle" ∧ (parseMethodDescriptor yX4_outside.desc).map (fun d => d.parameters.length) = some 3 := by decide +kernel
theorem hdV_X4_hasRoom : yX4_hasRoom.cls = RX4 ∧ yX4_hasRoom.cls ≠ "java/lang/invoke/MethodHandle" ∧ yX4_hasRoom.cls ≠ "java/lang/invoke/VarHandle" ∧ (parseMethodDescriptor yX4_hasRoom.desc).map (fun d => d.parameters.length) = some 1 := by decide +kernel
theorem hdV_X4_makeRow : yX4_makeRow.cls = RX4 ∧ yX4_makeRow.cls ≠ "java/lang/invoke/MethodHandle" ∧ yX4_makeRow.cls ≠ "java/lang/invoke/VarHandle" ∧ (parseMethodDescriptor yX4_makeRow.desc).map (fun d => d.parameters.length) = some 2 := by decide +kernel
theorem hdV_X4_beginText : yX4_beginText.cls = RX4 ∧ yX4_beginText.cls ≠ "java/lang/invoke/MethodHandle" ∧ yX4_beginText.cls ≠ "java/lang/invoke/VarHandle" ∧ (parseMethodDescriptor yX4_beginText.desc).map (fun d => d.parameters.length) = some 1 := by decide +kernel
theorem hdV_X4_bytesOf : yX4_bytesOf.cls = RX4 ∧ yX4_bytesOf.cls ≠ "java/lang/invoke/MethodHandle" ∧ yX4_bytesOf.cls ≠ "java/lang/invoke/VarHandle" ∧ (parseMethodDescriptor yX4_bytesOf.desc).map (fun d => d.parameters.length) = some 1 := by decide +kernel
theorem hdV_X4_isText : yX4_isText.cls = RX4 ∧ yX4_isText.cls ≠ "java/lang/invoke/MethodHandle" ∧ yX4_isText.cls ≠ "java/lang/invoke/VarHandle" ∧ (parseMethodDescriptor yX4_isText.desc).map (fun d => d.parameters.length) = some 1 := by decide +kernel
theorem hdV_X4_byteOf : yX4_byteOf.cls = RX4 ∧ yX4_byteOf.cls ≠ "java/lang/invoke/MethodHandle" ∧ yX4_byteOf.cls ≠ "java/lang/invoke/VarHandle" ∧ (parseMethodDescriptor yX4_byteOf.desc).map (fun d => d.parameters.length) = some 2 := by decide +kernel
theorem hdV_X4_order : yX4_order.cls = RX4 ∧ yX4_order.cls ≠ "java/lang/invoke/MethodHandle" ∧ yX4_order.cls ≠ "java/lang/invoke/VarHandle" ∧ (parseMethodDescriptor yX4_order.desc).map (fun d => d.parameters.length) = some 2 := by decide +kernel
theorem hdV_X4_hasWord : yX4_hasWord.cls = RX4 ∧ yX4_hasWord.cls ≠ "java/lang/invoke/MethodHandle" ∧ yX4_hasWord.cls ≠ "java/lang/invoke/VarHandle" ∧ (parseMethodDescriptor yX4_hasWord.desc).map (fun d => d.parameters.length) = some 2 := by decide +kernel
theorem hdV_X4_at : yX4_at.cls = RX4 ∧ yX4_at.cls ≠ "java/lang/invoke/MethodHandle" ∧ yX4_at.cls ≠ "java/lang/invoke/VarHandle" ∧ (parseMethodDescriptor yX4_at.desc).map (fun d => d.parameters.length) = some 2 := by decide +kernel
theorem hdV_X4_hasWords : yX4_hasWords.cls = RX4 ∧ yX4_hasWords.cls ≠ "java/lang/invoke/MethodHandle" ∧ yX4_hasWords.cls ≠ "java/lang/invoke/VarHandle" ∧ (parseMethodDescriptor yX4_hasWords.desc).map (fun d => d.parameters.length) = some 2 := by decide +kernel
theorem hdV_X4_alikeWord : yX4_alikeWord.cls = RX4 ∧ yX4_alikeWord.cls ≠ "java/lang/invoke/MethodHandle" ∧ yX4_alikeWord.cls ≠ "java/lang/invoke/VarHandle" ∧ (parseMethodDescriptor yX4_alikeWord.desc).map (fun d => d.parameters.length) = some 6 := by decide +kernel
theorem hdV_X4_isTextual : yX4_isTextual.cls = RX4 ∧ yX4_isTextual.cls ≠ "java/lang/invoke/MethodHandle" ∧ yX4_isTextual.cls ≠ "java/lang/invoke/VarHandle" ∧ (parseMethodDescriptor yX4_isTextual.desc).map (fun d => d.parameters.length) = some 2 := by decide +kernel
theorem hdV_X4_entriesOf : yX4_entriesOf.cls = RX4 ∧ yX4_entriesOf.cls ≠ "java/lang/invoke/MethodHandle" ∧ yX4_entriesOf.cls ≠ "java/lang/invoke/VarHandle" ∧ (parseMethodDescriptor yX4_entriesOf.desc).map (fun d => d.parameters.length) = some 1 := by decide +kernel
theorem hdV_X4_renews : yX4_renews.cls = RX4 ∧ yX4_renews.cls ≠ "java/lang/invoke/MethodHandle" ∧ yX4_renews.cls ≠ "java/lang/invoke/VarHandle" ∧ (parseMethodDescriptor yX4_renews.desc).map (fun d => d.parameters.length) = some 1 := by decide +kernel
theorem hdV_X4_setEntry : yX4_setEntry.cls = RX4 ∧ yX4_setEntry.cls ≠ "java/lang/invoke/MethodHandle" ∧ yX4_setEntry.cls ≠ "java/lang/invoke/VarHandle" ∧ (parseMethodDescriptor yX4_setEntry.desc).map (fun d => d.parameters.length) = some 4 := by decide +kernel
theorem hdV_X4_find : yX4_find.cls = RX4 ∧ yX4_find.cls ≠ "java/lang/invoke/MethodHandle" ∧ yX4_find.cls ≠ "java/lang/invoke/VarHandle" ∧ (parseMethodDescriptor yX4_find.desc).map (fun d => d.parameters.length) = some 2 := by decide +kernel
theorem hdV_X4_wrong : yX4_wrong.cls = RX4 ∧ yX4_wrong.cls ≠ "java/lang/invoke/MethodHandle" ∧ yX4_wrong.cls ≠ "java/lang/invoke/VarHandle" ∧ (parseMethodDescriptor yX4_wrong.desc).map (fun d => d.parameters.length) = some 3 := by decide +kernel
theorem hdV_X4_show : yX4_show.cls = RX4 ∧ yX4_show.cls ≠ "java/lang/invoke/MethodHandle" ∧ yX4_show.cls ≠ "java/lang/invoke/VarHandle" ∧ (parseMethodDescriptor yX4_show.desc).map (fun d => d.parameters.length) = some 4 := by decide +kernel
