theorem wi_X0 : ∀ w ∈ u_ws RX0 TX0 14, w ∈ lw_tbl ∧ goodWord w = true := by decide +kernel
theorem wl_X0 : ∀ w ∈ u_ws RX0 TX0 14, w ∈ AW := fun w h => List.mem_filter.mpr (wi_X0 w h)
theorem wi_X1 : ∀ w ∈ u_ws RX1 TX1 2, w ∈ lw_tbl ∧ goodWord w = true := by decide +kernel
theorem wl_X1 : ∀ w ∈ u_ws RX1 TX1 2, w ∈ AW := fun w h => List.mem_filter.mpr (wi_X1 w h)
theorem wi_X2 : ∀ w ∈ u_ws RX2 TX2 1, w ∈ lw_tbl ∧ goodWord w = true := by decide +kernel
theorem wl_X2 : ∀ w ∈ u_ws RX2 TX2 1, w ∈ AW := fun w h => List.mem_filter.mpr (wi_X2 w h)
theorem wi_X3 : ∀ w ∈ u_ws RX3 TX3 3, w ∈ lw_tbl ∧ goodWord w = true := by decide +kernel
theorem wl_X3 : ∀ w ∈ u_ws RX3 TX3 3, w ∈ AW := fun w h => List.mem_filter.mpr (wi_X3 w h)
theorem wd_0 : Cond.fieldLink RX0 15 "WordHeap$Heap" "bits" "[J" ∈ AW := List.mem_filter.mpr ⟨List.mem_append_right _ (List.mem_of_getElem? (i := 51) (by decide +kernel)), by decide +kernel⟩
theorem wd_1 : Cond.fieldLink RX0 19 "WordHeap$Heap" "references" "[Z" ∈ AW := List.mem_filter.mpr ⟨List.mem_append_right _ (List.mem_of_getElem? (i := 52) (by decide +kernel)), by decide +kernel⟩
theorem wd_2 : Cond.constantLong RX0 42 8191 ∈ AW := List.mem_filter.mpr ⟨List.mem_append_right _ (List.mem_of_getElem? (i := 833) (by decide +kernel)), by decide +kernel⟩
theorem wd_3 : Cond.fieldLink RX0 23 "WordHeap$Heap" "starts" "[J" ∈ AW := List.mem_filter.mpr ⟨List.mem_append_right _ (List.mem_of_getElem? (i := 53) (by decide +kernel)), by decide +kernel⟩
theorem wd_4 : Cond.constantLong RX0 157 7 ∈ AW := List.mem_filter.mpr ⟨List.mem_append_right _ (List.mem_of_getElem? (i := 151) (by decide +kernel)), by decide +kernel⟩
theorem wd_5 : Cond.methodLink RX0 52 yX0_kindIn ∈ AW := List.mem_filter.mpr ⟨List.mem_append_right _ (List.mem_of_getElem? (i := 148) (by decide +kernel)), by decide +kernel⟩
theorem wd_6 : Cond.static yX0_kindIn ∈ AW := List.mem_filter.mpr ⟨List.mem_append_right _ (List.mem_of_getElem? (i := 149) (by decide +kernel)), by decide +kernel⟩
theorem wd_7 : Cond.initialized RX0 ∈ AW := List.mem_filter.mpr ⟨List.mem_append_right _ (List.mem_of_getElem? (i := 2) (by decide +kernel)), by decide +kernel⟩
theorem wd_8 : Cond.code yX0_kindIn cX0_kindIn 2 (some .int) ∈ AW := List.mem_filter.mpr ⟨List.mem_append_right _ (List.mem_of_getElem? (i := 150) (by decide +kernel)), by decide +kernel⟩
theorem wd_9 : Cond.methodLink RX0 48 yX0_header ∈ AW := List.mem_filter.mpr ⟨List.mem_append_right _ (List.mem_of_getElem? (i := 144) (by decide +kernel)), by decide +kernel⟩
theorem wd_10 : Cond.instanceMethod yX0_header ∈ AW := List.mem_filter.mpr ⟨List.mem_append_right _ (List.mem_of_getElem? (i := 146) (by decide +kernel)), by decide +kernel⟩
theorem wd_11 : Cond.selects RX0 yX0_header yX0_header ∈ AW := List.mem_filter.mpr ⟨List.mem_append_left _ (List.mem_of_getElem? (i := 1) (by decide +kernel)), by decide +kernel⟩
theorem wd_12 : Cond.code yX0_header cX0_header 2 (some .long) ∈ AW := List.mem_filter.mpr ⟨List.mem_append_right _ (List.mem_of_getElem? (i := 147) (by decide +kernel)), by decide +kernel⟩
theorem wd_13 : Cond.methodLink RX0 44 yX0_handleAt ∈ AW := List.mem_filter.mpr ⟨List.mem_append_right _ (List.mem_of_getElem? (i := 140) (by decide +kernel)), by decide +kernel⟩
theorem wd_14 : Cond.instanceMethod yX0_handleAt ∈ AW := List.mem_filter.mpr ⟨List.mem_append_right _ (List.mem_of_getElem? (i := 141) (by decide +kernel)), by decide +kernel⟩
theorem wd_15 : Cond.selects RX0 yX0_handleAt yX0_handleAt ∈ AW := List.mem_filter.mpr ⟨List.mem_append_right _ (List.mem_of_getElem? (i := 142) (by decide +kernel)), by decide +kernel⟩
theorem wd_16 : Cond.code yX0_handleAt cX0_handleAt 2 (some .int) ∈ AW := List.mem_filter.mpr ⟨List.mem_append_right _ (List.mem_of_getElem? (i := 143) (by decide +kernel)), by decide +kernel⟩
theorem wd_17 : Cond.methodLink RX0 56 arraycopyName ∈ AW := List.mem_filter.mpr ⟨List.mem_append_right _ (List.mem_of_getElem? (i := 175) (by decide +kernel)), by decide +kernel⟩
theorem wd_18 : Cond.native arraycopyName ∈ AW := List.mem_filter.mpr ⟨List.mem_append_right _ (List.mem_of_getElem? (i := 177) (by decide +kernel)), by decide +kernel⟩
theorem wd_19 : Cond.static arraycopyName ∈ AW := List.mem_filter.mpr ⟨List.mem_append_right _ (List.mem_of_getElem? (i := 176) (by decide +kernel)), by decide +kernel⟩
theorem wd_20 : Cond.initialized "java/lang/System" ∈ AW := List.mem_filter.mpr ⟨List.mem_append_right _ (List.mem_of_getElem? (i := 11) (by decide +kernel)), by decide +kernel⟩
theorem wd_21 : Cond.methodLink "java/util/Arrays" 13 yJA_rangeCheck ∈ AW := List.mem_filter.mpr ⟨List.mem_append_right _ (List.mem_of_getElem? (i := 374) (by decide +kernel)), by decide +kernel⟩
theorem wd_22 : Cond.static yJA_rangeCheck ∈ AW := List.mem_filter.mpr ⟨List.mem_append_right _ (List.mem_of_getElem? (i := 375) (by decide +kernel)), by decide +kernel⟩
theorem wd_23 : Cond.initialized "java/util/Arrays" ∈ AW := List.mem_filter.mpr ⟨List.mem_append_right _ (List.mem_of_getElem? (i := 13) (by decide +kernel)), by decide +kernel⟩
theorem wd_24 : Cond.code yJA_rangeCheck cJA_rangeCheck 3 none ∈ AW := List.mem_filter.mpr ⟨List.mem_append_right _ (List.mem_of_getElem? (i := 376) (by decide +kernel)), by decide +kernel⟩
theorem wd_25 : Cond.methodLink RX0 62 yJA_fill ∈ AW := List.mem_filter.mpr ⟨List.mem_append_right _ (List.mem_of_getElem? (i := 371) (by decide +kernel)), by decide +kernel⟩
theorem wd_26 : Cond.static yJA_fill ∈ AW := List.mem_filter.mpr ⟨List.mem_append_right _ (List.mem_of_getElem? (i := 372) (by decide +kernel)), by decide +kernel⟩
theorem wd_27 : Cond.initialized yJA_fill.cls ∈ AW := List.mem_filter.mpr ⟨List.mem_append_right _ (List.mem_of_getElem? (i := 13) (by decide +kernel)), by decide +kernel⟩
theorem wd_28 : Cond.code yJA_fill cJA_fill 6 none ∈ AW := List.mem_filter.mpr ⟨List.mem_append_right _ (List.mem_of_getElem? (i := 373) (by decide +kernel)), by decide +kernel⟩
theorem wd_29 : Cond.constantLong RX0 139 262143 ∈ AW := List.mem_filter.mpr ⟨List.mem_append_right _ (List.mem_of_getElem? (i := 163) (by decide +kernel)), by decide +kernel⟩
theorem wd_30 : Cond.methodLink RX0 68 yX0_lengthIn ∈ AW := List.mem_filter.mpr ⟨List.mem_append_right _ (List.mem_of_getElem? (i := 160) (by decide +kernel)), by decide +kernel⟩
theorem wd_31 : Cond.static yX0_lengthIn ∈ AW := List.mem_filter.mpr ⟨List.mem_append_right _ (List.mem_of_getElem? (i := 161) (by decide +kernel)), by decide +kernel⟩
theorem wd_32 : Cond.code yX0_lengthIn cX0_lengthIn 2 (some .int) ∈ AW := List.mem_filter.mpr ⟨List.mem_append_right _ (List.mem_of_getElem? (i := 162) (by decide +kernel)), by decide +kernel⟩
theorem wd_33 : Cond.constantLong RX0 71 2097152 ∈ AW := List.mem_filter.mpr ⟨List.mem_append_right _ (List.mem_of_getElem? (i := 982) (by decide +kernel)), by decide +kernel⟩
theorem wd_34 : Cond.fieldLink RX0 73 "WordHeap$Heap" "always" "Z" ∈ AW := List.mem_filter.mpr ⟨List.mem_append_right _ (List.mem_of_getElem? (i := 63) (by decide +kernel)), by decide +kernel⟩
theorem wd_35 : Cond.fieldLink RX0 36 "WordHeap$Heap" "end" "I" ∈ AW := List.mem_filter.mpr ⟨List.mem_append_right _ (List.mem_of_getElem? (i := 59) (by decide +kernel)), by decide +kernel⟩
theorem wd_36 : Cond.methodLink RX0 77 yX0_used ∈ AW := List.mem_filter.mpr ⟨List.mem_append_right _ (List.mem_of_getElem? (i := 317) (by decide +kernel)), by decide +kernel⟩
theorem wd_37 : Cond.instanceMethod yX0_used ∈ AW := List.mem_filter.mpr ⟨List.mem_append_right _ (List.mem_of_getElem? (i := 318) (by decide +kernel)), by decide +kernel⟩
theorem wd_38 : Cond.selects RX0 yX0_used yX0_used ∈ AW := List.mem_filter.mpr ⟨List.mem_append_right _ (List.mem_of_getElem? (i := 319) (by decide +kernel)), by decide +kernel⟩
theorem wd_39 : Cond.code yX0_used cX0_used 1 (some .int) ∈ AW := List.mem_filter.mpr ⟨List.mem_append_right _ (List.mem_of_getElem? (i := 320) (by decide +kernel)), by decide +kernel⟩
theorem wd_40 : Cond.fieldLink RX0 11 "WordHeap$Heap" "limit" "I" ∈ AW := List.mem_filter.mpr ⟨List.mem_append_right _ (List.mem_of_getElem? (i := 50) (by decide +kernel)), by decide +kernel⟩
theorem wd_41 : Cond.fieldLink RX0 81 "WordHeap$Heap" "made" "I" ∈ AW := List.mem_filter.mpr ⟨List.mem_append_right _ (List.mem_of_getElem? (i := 60) (by decide +kernel)), by decide +kernel⟩
theorem wd_42 : Cond.fieldLink RX0 84 "WordHeap$Heap" "collections" "I" ∈ AW := List.mem_filter.mpr ⟨List.mem_append_right _ (List.mem_of_getElem? (i := 61) (by decide +kernel)), by decide +kernel⟩
theorem wd_43 : Cond.fieldLink RX0 87 "WordHeap$Heap" "givenBack" "I" ∈ AW := List.mem_filter.mpr ⟨List.mem_append_right _ (List.mem_of_getElem? (i := 62) (by decide +kernel)), by decide +kernel⟩
theorem wd_44 : Cond.fieldLink RX0 26 "WordHeap$Heap" "reached" "[Z" ∈ AW := List.mem_filter.mpr ⟨List.mem_append_right _ (List.mem_of_getElem? (i := 54) (by decide +kernel)), by decide +kernel⟩
theorem wd_45 : Cond.fieldLink RX0 29 "WordHeap$Heap" "queue" "[J" ∈ AW := List.mem_filter.mpr ⟨List.mem_append_right _ (List.mem_of_getElem? (i := 55) (by decide +kernel)), by decide +kernel⟩
theorem wd_46 : Cond.fieldLink RX0 121 "WordHeap$Heap" "queued" "I" ∈ AW := List.mem_filter.mpr ⟨List.mem_append_right _ (List.mem_of_getElem? (i := 56) (by decide +kernel)), by decide +kernel⟩
theorem wd_47 : Cond.fieldLink RX0 39 "WordHeap$Heap" "freeHandle" "I" ∈ AW := List.mem_filter.mpr ⟨List.mem_append_right _ (List.mem_of_getElem? (i := 58) (by decide +kernel)), by decide +kernel⟩
theorem wd_48 : Cond.methodLink RX0 141 yX0_copyWords ∈ AW := List.mem_filter.mpr ⟨List.mem_append_right _ (List.mem_of_getElem? (i := 171) (by decide +kernel)), by decide +kernel⟩
theorem wd_49 : Cond.instanceMethod yX0_copyWords ∈ AW := List.mem_filter.mpr ⟨List.mem_append_right _ (List.mem_of_getElem? (i := 172) (by decide +kernel)), by decide +kernel⟩
theorem wd_50 : Cond.selects RX0 yX0_copyWords yX0_copyWords ∈ AW := List.mem_filter.mpr ⟨List.mem_append_right _ (List.mem_of_getElem? (i := 173) (by decide +kernel)), by decide +kernel⟩
theorem wd_51 : Cond.code yX0_copyWords cX0_copyWords 5 none ∈ AW := List.mem_filter.mpr ⟨List.mem_append_right _ (List.mem_of_getElem? (i := 174) (by decide +kernel)), by decide +kernel⟩
theorem wd_52 : Cond.methodLink RX0 90 yX0_sizeOf ∈ AW := List.mem_filter.mpr ⟨List.mem_append_right _ (List.mem_of_getElem? (i := 168) (by decide +kernel)), by decide +kernel⟩
theorem wd_53 : Cond.static yX0_sizeOf ∈ AW := List.mem_filter.mpr ⟨List.mem_append_right _ (List.mem_of_getElem? (i := 169) (by decide +kernel)), by decide +kernel⟩
theorem wd_54 : Cond.code yX0_sizeOf cX0_sizeOf 2 (some .int) ∈ AW := List.mem_filter.mpr ⟨List.mem_append_right _ (List.mem_of_getElem? (i := 170) (by decide +kernel)), by decide +kernel⟩
theorem wd_55 : Cond.methodLink RX0 124 yX0_reachFrom ∈ AW := List.mem_filter.mpr ⟨List.mem_append_right _ (List.mem_of_getElem? (i := 136) (by decide +kernel)), by decide +kernel⟩
theorem wd_56 : Cond.instanceMethod yX0_reachFrom ∈ AW := List.mem_filter.mpr ⟨List.mem_append_right _ (List.mem_of_getElem? (i := 138) (by decide +kernel)), by decide +kernel⟩
theorem wd_57 : Cond.selects RX0 yX0_reachFrom yX0_reachFrom ∈ AW := List.mem_filter.mpr ⟨List.mem_append_left _ (List.mem_of_getElem? (i := 0) (by decide +kernel)), by decide +kernel⟩
theorem wd_58 : Cond.code yX0_reachFrom cX0_reachFrom 5 none ∈ AW := List.mem_filter.mpr ⟨List.mem_append_right _ (List.mem_of_getElem? (i := 139) (by decide +kernel)), by decide +kernel⟩
theorem wd_59 : Cond.fieldLink RX0 127 "WordHeap$Heap" "lastHandle" "I" ∈ AW := List.mem_filter.mpr ⟨List.mem_append_right _ (List.mem_of_getElem? (i := 57) (by decide +kernel)), by decide +kernel⟩
theorem wd_60 : Cond.methodLink RX0 133 yX0_length ∈ AW := List.mem_filter.mpr ⟨List.mem_append_right _ (List.mem_of_getElem? (i := 156) (by decide +kernel)), by decide +kernel⟩
theorem wd_61 : Cond.instanceMethod yX0_length ∈ AW := List.mem_filter.mpr ⟨List.mem_append_right _ (List.mem_of_getElem? (i := 157) (by decide +kernel)), by decide +kernel⟩
theorem wd_62 : Cond.selects RX0 yX0_length yX0_length ∈ AW := List.mem_filter.mpr ⟨List.mem_append_right _ (List.mem_of_getElem? (i := 158) (by decide +kernel)), by decide +kernel⟩
theorem wd_63 : Cond.code yX0_length cX0_length 2 (some .int) ∈ AW := List.mem_filter.mpr ⟨List.mem_append_right _ (List.mem_of_getElem? (i := 159) (by decide +kernel)), by decide +kernel⟩
theorem wd_64 : Cond.methodLink RX0 130 yX0_first ∈ AW := List.mem_filter.mpr ⟨List.mem_append_right _ (List.mem_of_getElem? (i := 152) (by decide +kernel)), by decide +kernel⟩
theorem wd_65 : Cond.instanceMethod yX0_first ∈ AW := List.mem_filter.mpr ⟨List.mem_append_right _ (List.mem_of_getElem? (i := 153) (by decide +kernel)), by decide +kernel⟩
theorem wd_66 : Cond.selects RX0 yX0_first yX0_first ∈ AW := List.mem_filter.mpr ⟨List.mem_append_right _ (List.mem_of_getElem? (i := 154) (by decide +kernel)), by decide +kernel⟩
theorem wd_67 : Cond.code yX0_first cX0_first 2 (some .int) ∈ AW := List.mem_filter.mpr ⟨List.mem_append_right _ (List.mem_of_getElem? (i := 155) (by decide +kernel)), by decide +kernel⟩
theorem wd_68 : Cond.methodLink RX0 136 yX0_moveTogether ∈ AW := List.mem_filter.mpr ⟨List.mem_append_right _ (List.mem_of_getElem? (i := 164) (by decide +kernel)), by decide +kernel⟩
theorem wd_69 : Cond.instanceMethod yX0_moveTogether ∈ AW := List.mem_filter.mpr ⟨List.mem_append_right _ (List.mem_of_getElem? (i := 166) (by decide +kernel)), by decide +kernel⟩
theorem wd_70 : Cond.selects RX0 yX0_moveTogether yX0_moveTogether ∈ AW := List.mem_filter.mpr ⟨List.mem_append_left _ (List.mem_of_getElem? (i := 2) (by decide +kernel)), by decide +kernel⟩
theorem wd_71 : Cond.code yX0_moveTogether cX0_moveTogether 5 none ∈ AW := List.mem_filter.mpr ⟨List.mem_append_right _ (List.mem_of_getElem? (i := 167) (by decide +kernel)), by decide +kernel⟩
theorem wd_72 : Cond.methodLink RX0 101 yX0_collection ∈ AW := List.mem_filter.mpr ⟨List.mem_append_right _ (List.mem_of_getElem? (i := 321) (by decide +kernel)), by decide +kernel⟩
theorem wd_73 : Cond.instanceMethod yX0_collection ∈ AW := List.mem_filter.mpr ⟨List.mem_append_right _ (List.mem_of_getElem? (i := 133) (by decide +kernel)), by decide +kernel⟩
theorem wd_74 : Cond.selects RX0 yX0_collection yX0_collection ∈ AW := List.mem_filter.mpr ⟨List.mem_append_right _ (List.mem_of_getElem? (i := 134) (by decide +kernel)), by decide +kernel⟩
theorem wd_75 : Cond.code yX0_collection cX0_collection 3 (some .int) ∈ AW := List.mem_filter.mpr ⟨List.mem_append_right _ (List.mem_of_getElem? (i := 135) (by decide +kernel)), by decide +kernel⟩
theorem wd_76 : Cond.classLink RX0 104 "java/lang/IllegalStateException" ∈ AW := List.mem_filter.mpr ⟨List.mem_append_right _ (List.mem_of_getElem? (i := 322) (by decide +kernel)), by decide +kernel⟩
theorem wd_77 : Cond.initialized "java/lang/IllegalStateException" ∈ AW := List.mem_filter.mpr ⟨List.mem_append_right _ (List.mem_of_getElem? (i := 12) (by decide +kernel)), by decide +kernel⟩
theorem wd_78 : Cond.arrayClass .boolean ∈ AW := List.mem_filter.mpr ⟨List.mem_append_right _ (List.mem_of_getElem? (i := 94) (by decide +kernel)), by decide +kernel⟩
theorem wd_79 : Cond.arrayClass .long ∈ AW := List.mem_filter.mpr ⟨List.mem_append_right _ (List.mem_of_getElem? (i := 93) (by decide +kernel)), by decide +kernel⟩
theorem wd_80 : Cond.methodLink RX0 153 yJA_copyOf ∈ AW := List.mem_filter.mpr ⟨List.mem_append_right _ (List.mem_of_getElem? (i := 351) (by decide +kernel)), by decide +kernel⟩
theorem wd_81 : Cond.static yJA_copyOf ∈ AW := List.mem_filter.mpr ⟨List.mem_append_right _ (List.mem_of_getElem? (i := 352) (by decide +kernel)), by decide +kernel⟩
theorem wd_82 : Cond.initialized yJA_copyOf.cls ∈ AW := List.mem_filter.mpr ⟨List.mem_append_right _ (List.mem_of_getElem? (i := 13) (by decide +kernel)), by decide +kernel⟩
theorem wd_83 : Cond.code yJA_copyOf cJA_copyOf 3 (some (.array .long)) ∈ AW := List.mem_filter.mpr ⟨List.mem_append_right _ (List.mem_of_getElem? (i := 353) (by decide +kernel)), by decide +kernel⟩
theorem wd_84 : Cond.methodLink RX0 148 Lib.Math.min.name ∈ AW := List.mem_filter.mpr ⟨List.mem_append_right _ (List.mem_of_getElem? (i := 350) (by decide +kernel)), by decide +kernel⟩
theorem wd_85 : Cond.static Lib.Math.min.name ∈ AW := List.mem_filter.mpr ⟨List.mem_append_right _ (List.mem_of_getElem? (i := 39) (by decide +kernel)), by decide +kernel⟩
theorem wd_86 : Cond.initialized "java/lang/Math" ∈ AW := List.mem_filter.mpr ⟨List.mem_append_right _ (List.mem_of_getElem? (i := 3) (by decide +kernel)), by decide +kernel⟩
theorem wd_87 : Cond.code Lib.Math.min.name Lib.Math.min.code 2 (some .int) ∈ AW := List.mem_filter.mpr ⟨List.mem_append_right _ (List.mem_of_getElem? (i := 40) (by decide +kernel)), by decide +kernel⟩
theorem wd_88 : Cond.methodLink RX0 145 yX0_extendHandles ∈ AW := List.mem_filter.mpr ⟨List.mem_append_right _ (List.mem_of_getElem? (i := 346) (by decide +kernel)), by decide +kernel⟩
theorem wd_89 : Cond.instanceMethod yX0_extendHandles ∈ AW := List.mem_filter.mpr ⟨List.mem_append_right _ (List.mem_of_getElem? (i := 348) (by decide +kernel)), by decide +kernel⟩
theorem wd_90 : Cond.selects RX0 yX0_extendHandles yX0_extendHandles ∈ AW := List.mem_filter.mpr ⟨List.mem_append_left _ (List.mem_of_getElem? (i := 5) (by decide +kernel)), by decide +kernel⟩
theorem wd_91 : Cond.code yX0_extendHandles cX0_extendHandles 2 none ∈ AW := List.mem_filter.mpr ⟨List.mem_append_right _ (List.mem_of_getElem? (i := 349) (by decide +kernel)), by decide +kernel⟩
theorem wd_92 : Cond.methodLink RX0 117 yX0_clearWords ∈ AW := List.mem_filter.mpr ⟨List.mem_append_right _ (List.mem_of_getElem? (i := 367) (by decide +kernel)), by decide +kernel⟩
theorem wd_93 : Cond.instanceMethod yX0_clearWords ∈ AW := List.mem_filter.mpr ⟨List.mem_append_right _ (List.mem_of_getElem? (i := 368) (by decide +kernel)), by decide +kernel⟩
theorem wd_94 : Cond.selects RX0 yX0_clearWords yX0_clearWords ∈ AW := List.mem_filter.mpr ⟨List.mem_append_right _ (List.mem_of_getElem? (i := 369) (by decide +kernel)), by decide +kernel⟩
theorem wd_95 : Cond.code yX0_clearWords cX0_clearWords 4 none ∈ AW := List.mem_filter.mpr ⟨List.mem_append_right _ (List.mem_of_getElem? (i := 370) (by decide +kernel)), by decide +kernel⟩
theorem wd_96 : Cond.methodLink RX0 114 yX0_extendWords ∈ AW := List.mem_filter.mpr ⟨List.mem_append_right _ (List.mem_of_getElem? (i := 363) (by decide +kernel)), by decide +kernel⟩
theorem wd_97 : Cond.instanceMethod yX0_extendWords ∈ AW := List.mem_filter.mpr ⟨List.mem_append_right _ (List.mem_of_getElem? (i := 365) (by decide +kernel)), by decide +kernel⟩
theorem wd_98 : Cond.selects RX0 yX0_extendWords yX0_extendWords ∈ AW := List.mem_filter.mpr ⟨List.mem_append_left _ (List.mem_of_getElem? (i := 6) (by decide +kernel)), by decide +kernel⟩
theorem wd_99 : Cond.code yX0_extendWords cX0_extendWords 6 none ∈ AW := List.mem_filter.mpr ⟨List.mem_append_right _ (List.mem_of_getElem? (i := 366) (by decide +kernel)), by decide +kernel⟩
theorem wd_100 : Cond.methodLink RX0 111 yX0_newHandle ∈ AW := List.mem_filter.mpr ⟨List.mem_append_right _ (List.mem_of_getElem? (i := 342) (by decide +kernel)), by decide +kernel⟩
theorem wd_101 : Cond.instanceMethod yX0_newHandle ∈ AW := List.mem_filter.mpr ⟨List.mem_append_right _ (List.mem_of_getElem? (i := 344) (by decide +kernel)), by decide +kernel⟩
theorem wd_102 : Cond.selects RX0 yX0_newHandle yX0_newHandle ∈ AW := List.mem_filter.mpr ⟨List.mem_append_left _ (List.mem_of_getElem? (i := 4) (by decide +kernel)), by decide +kernel⟩
theorem wd_103 : Cond.code yX0_newHandle cX0_newHandle 2 (some .int) ∈ AW := List.mem_filter.mpr ⟨List.mem_append_right _ (List.mem_of_getElem? (i := 345) (by decide +kernel)), by decide +kernel⟩
theorem wd_104 : Cond.methodLink RX0 98 yX0_place ∈ AW := List.mem_filter.mpr ⟨List.mem_append_right _ (List.mem_of_getElem? (i := 338) (by decide +kernel)), by decide +kernel⟩
theorem wd_105 : Cond.instanceMethod yX0_place ∈ AW := List.mem_filter.mpr ⟨List.mem_append_right _ (List.mem_of_getElem? (i := 339) (by decide +kernel)), by decide +kernel⟩
theorem wd_106 : Cond.selects RX0 yX0_place yX0_place ∈ AW := List.mem_filter.mpr ⟨List.mem_append_right _ (List.mem_of_getElem? (i := 340) (by decide +kernel)), by decide +kernel⟩
theorem wd_107 : Cond.code yX0_place cX0_place 8 (some .int) ∈ AW := List.mem_filter.mpr ⟨List.mem_append_right _ (List.mem_of_getElem? (i := 341) (by decide +kernel)), by decide +kernel⟩
theorem wd_108 : Cond.methodLink RX0 94 yX0_needRoom ∈ AW := List.mem_filter.mpr ⟨List.mem_append_right _ (List.mem_of_getElem? (i := 313) (by decide +kernel)), by decide +kernel⟩
theorem wd_109 : Cond.instanceMethod yX0_needRoom ∈ AW := List.mem_filter.mpr ⟨List.mem_append_right _ (List.mem_of_getElem? (i := 314) (by decide +kernel)), by decide +kernel⟩
theorem wd_110 : Cond.selects RX0 yX0_needRoom yX0_needRoom ∈ AW := List.mem_filter.mpr ⟨List.mem_append_right _ (List.mem_of_getElem? (i := 315) (by decide +kernel)), by decide +kernel⟩
theorem wd_111 : Cond.code yX0_needRoom cX0_needRoom 2 none ∈ AW := List.mem_filter.mpr ⟨List.mem_append_right _ (List.mem_of_getElem? (i := 316) (by decide +kernel)), by decide +kernel⟩
theorem wd_112 : Cond.methodLink RX2 15 yX0_sizeOf ∈ AW := List.mem_filter.mpr ⟨List.mem_append_right _ (List.mem_of_getElem? (i := 723) (by decide +kernel)), by decide +kernel⟩
theorem wd_113 : Cond.initialized yX0_sizeOf.cls ∈ AW := List.mem_filter.mpr ⟨List.mem_append_right _ (List.mem_of_getElem? (i := 2) (by decide +kernel)), by decide +kernel⟩
theorem wd_114 : Cond.fieldLink RX2 9 "WordHeap$Texts" "heap" "LWordHeap$Heap;" ∈ AW := List.mem_filter.mpr ⟨List.mem_append_right _ (List.mem_of_getElem? (i := 101) (by decide +kernel)), by decide +kernel⟩
theorem wd_115 : Cond.methodLink RX2 29 yX2_shiftOf ∈ AW := List.mem_filter.mpr ⟨List.mem_append_right _ (List.mem_of_getElem? (i := 797) (by decide +kernel)), by decide +kernel⟩
theorem wd_116 : Cond.static yX2_shiftOf ∈ AW := List.mem_filter.mpr ⟨List.mem_append_right _ (List.mem_of_getElem? (i := 798) (by decide +kernel)), by decide +kernel⟩
theorem wd_117 : Cond.initialized RX2 ∈ AW := List.mem_filter.mpr ⟨List.mem_append_right _ (List.mem_of_getElem? (i := 4) (by decide +kernel)), by decide +kernel⟩
theorem wd_118 : Cond.code yX2_shiftOf cX2_shiftOf 1 (some .int) ∈ AW := List.mem_filter.mpr ⟨List.mem_append_right _ (List.mem_of_getElem? (i := 799) (by decide +kernel)), by decide +kernel⟩
theorem wd_119 : Cond.methodLink RX2 25 yX0_bitsAt ∈ AW := List.mem_filter.mpr ⟨List.mem_append_right _ (List.mem_of_getElem? (i := 729) (by decide +kernel)), by decide +kernel⟩
theorem wd_120 : Cond.instanceMethod yX0_bitsAt ∈ AW := List.mem_filter.mpr ⟨List.mem_append_right _ (List.mem_of_getElem? (i := 676) (by decide +kernel)), by decide +kernel⟩
theorem wd_121 : Cond.selects RX0 yX0_bitsAt yX0_bitsAt ∈ AW := List.mem_filter.mpr ⟨List.mem_append_right _ (List.mem_of_getElem? (i := 677) (by decide +kernel)), by decide +kernel⟩
theorem wd_122 : Cond.code yX0_bitsAt cX0_bitsAt 2 (some .long) ∈ AW := List.mem_filter.mpr ⟨List.mem_append_right _ (List.mem_of_getElem? (i := 678) (by decide +kernel)), by decide +kernel⟩
theorem wd_123 : Cond.methodLink RX2 21 yX0_first ∈ AW := List.mem_filter.mpr ⟨List.mem_append_right _ (List.mem_of_getElem? (i := 724) (by decide +kernel)), by decide +kernel⟩
theorem wd_124 : Cond.constantLong RX2 32 255 ∈ AW := List.mem_filter.mpr ⟨List.mem_append_right _ (List.mem_of_getElem? (i := 816) (by decide +kernel)), by decide +kernel⟩
theorem wd_125 : Cond.constantLong RX2 34 (-1) ∈ AW := List.mem_filter.mpr ⟨List.mem_append_right _ (List.mem_of_getElem? (i := 761) (by decide +kernel)), by decide +kernel⟩
theorem wd_126 : Cond.methodLink RX2 36 yX0_setNumber ∈ AW := List.mem_filter.mpr ⟨List.mem_append_right _ (List.mem_of_getElem? (i := 734) (by decide +kernel)), by decide +kernel⟩
theorem wd_127 : Cond.instanceMethod yX0_setNumber ∈ AW := List.mem_filter.mpr ⟨List.mem_append_right _ (List.mem_of_getElem? (i := 272) (by decide +kernel)), by decide +kernel⟩
theorem wd_128 : Cond.selects RX0 yX0_setNumber yX0_setNumber ∈ AW := List.mem_filter.mpr ⟨List.mem_append_right _ (List.mem_of_getElem? (i := 273) (by decide +kernel)), by decide +kernel⟩
theorem wd_129 : Cond.code yX0_setNumber cX0_setNumber 4 none ∈ AW := List.mem_filter.mpr ⟨List.mem_append_right _ (List.mem_of_getElem? (i := 274) (by decide +kernel)), by decide +kernel⟩
theorem wd_130 : Cond.methodLink RX2 48 yX2_wordsFor ∈ AW := List.mem_filter.mpr ⟨List.mem_append_right _ (List.mem_of_getElem? (i := 720) (by decide +kernel)), by decide +kernel⟩
theorem wd_131 : Cond.static yX2_wordsFor ∈ AW := List.mem_filter.mpr ⟨List.mem_append_right _ (List.mem_of_getElem? (i := 721) (by decide +kernel)), by decide +kernel⟩
theorem wd_132 : Cond.code yX2_wordsFor cX2_wordsFor 1 (some .int) ∈ AW := List.mem_filter.mpr ⟨List.mem_append_right _ (List.mem_of_getElem? (i := 722) (by decide +kernel)), by decide +kernel⟩
theorem wd_133 : Cond.methodLink RX2 40 yX0_length ∈ AW := List.mem_filter.mpr ⟨List.mem_append_right _ (List.mem_of_getElem? (i := 718) (by decide +kernel)), by decide +kernel⟩
theorem wd_134 : Cond.methodLink RX2 43 Lib.Math.min.name ∈ AW := List.mem_filter.mpr ⟨List.mem_append_right _ (List.mem_of_getElem? (i := 773) (by decide +kernel)), by decide +kernel⟩
theorem wd_135 : Cond.methodLink RX2 63 yJI_compare ∈ AW := List.mem_filter.mpr ⟨List.mem_append_right _ (List.mem_of_getElem? (i := 778) (by decide +kernel)), by decide +kernel⟩
theorem wd_136 : Cond.static yJI_compare ∈ AW := List.mem_filter.mpr ⟨List.mem_append_right _ (List.mem_of_getElem? (i := 779) (by decide +kernel)), by decide +kernel⟩
theorem wd_137 : Cond.initialized yJI_compare.cls ∈ AW := List.mem_filter.mpr ⟨List.mem_append_right _ (List.mem_of_getElem? (i := 21) (by decide +kernel)), by decide +kernel⟩
theorem wd_138 : Cond.code yJI_compare cJI_compare 2 (some .int) ∈ AW := List.mem_filter.mpr ⟨List.mem_append_right _ (List.mem_of_getElem? (i := 780) (by decide +kernel)), by decide +kernel⟩
theorem wd_139 : Cond.constantLong RX2 55 (-9223372036854775808) ∈ AW := List.mem_filter.mpr ⟨List.mem_append_right _ (List.mem_of_getElem? (i := 774) (by decide +kernel)), by decide +kernel⟩
theorem wd_140 : Cond.methodLink RX2 57 yJL_compare ∈ AW := List.mem_filter.mpr ⟨List.mem_append_right _ (List.mem_of_getElem? (i := 775) (by decide +kernel)), by decide +kernel⟩
theorem wd_141 : Cond.static yJL_compare ∈ AW := List.mem_filter.mpr ⟨List.mem_append_right _ (List.mem_of_getElem? (i := 776) (by decide +kernel)), by decide +kernel⟩
theorem wd_142 : Cond.initialized yJL_compare.cls ∈ AW := List.mem_filter.mpr ⟨List.mem_append_right _ (List.mem_of_getElem? (i := 25) (by decide +kernel)), by decide +kernel⟩
theorem wd_143 : Cond.code yJL_compare cJL_compare 4 (some .int) ∈ AW := List.mem_filter.mpr ⟨List.mem_append_right _ (List.mem_of_getElem? (i := 777) (by decide +kernel)), by decide +kernel⟩
theorem wd_144 : Cond.methodLink RX2 51 yX2_wordOf ∈ AW := List.mem_filter.mpr ⟨List.mem_append_right _ (List.mem_of_getElem? (i := 725) (by decide +kernel)), by decide +kernel⟩
theorem wd_145 : Cond.instanceMethod yX2_wordOf ∈ AW := List.mem_filter.mpr ⟨List.mem_append_right _ (List.mem_of_getElem? (i := 727) (by decide +kernel)), by decide +kernel⟩
theorem wd_146 : Cond.selects RX2 yX2_wordOf yX2_wordOf ∈ AW := List.mem_filter.mpr ⟨List.mem_append_left _ (List.mem_of_getElem? (i := 12) (by decide +kernel)), by decide +kernel⟩
theorem wd_147 : Cond.code yX2_wordOf cX2_wordOf 3 (some .long) ∈ AW := List.mem_filter.mpr ⟨List.mem_append_right _ (List.mem_of_getElem? (i := 728) (by decide +kernel)), by decide +kernel⟩
theorem wd_148 : Cond.methodLink RX2 67 yX0_claim ∈ AW := List.mem_filter.mpr ⟨List.mem_append_right _ (List.mem_of_getElem? (i := 719) (by decide +kernel)), by decide +kernel⟩
theorem wd_149 : Cond.instanceMethod yX0_claim ∈ AW := List.mem_filter.mpr ⟨List.mem_append_right _ (List.mem_of_getElem? (i := 310) (by decide +kernel)), by decide +kernel⟩
theorem wd_150 : Cond.selects RX0 yX0_claim yX0_claim ∈ AW := List.mem_filter.mpr ⟨List.mem_append_right _ (List.mem_of_getElem? (i := 311) (by decide +kernel)), by decide +kernel⟩
theorem wd_151 : Cond.code yX0_claim cX0_claim 3 (some .int) ∈ AW := List.mem_filter.mpr ⟨List.mem_append_right _ (List.mem_of_getElem? (i := 312) (by decide +kernel)), by decide +kernel⟩
theorem wd_152 : Cond.methodLink RX2 70 yX2_eightFrom ∈ AW := List.mem_filter.mpr ⟨List.mem_append_right _ (List.mem_of_getElem? (i := 730) (by decide +kernel)), by decide +kernel⟩
theorem wd_153 : Cond.instanceMethod yX2_eightFrom ∈ AW := List.mem_filter.mpr ⟨List.mem_append_right _ (List.mem_of_getElem? (i := 732) (by decide +kernel)), by decide +kernel⟩
theorem wd_154 : Cond.selects RX2 yX2_eightFrom yX2_eightFrom ∈ AW := List.mem_filter.mpr ⟨List.mem_append_left _ (List.mem_of_getElem? (i := 13) (by decide +kernel)), by decide +kernel⟩
theorem wd_155 : Cond.code yX2_eightFrom cX2_eightFrom 6 (some .long) ∈ AW := List.mem_filter.mpr ⟨List.mem_append_right _ (List.mem_of_getElem? (i := 733) (by decide +kernel)), by decide +kernel⟩
theorem wd_156 : Cond.methodLink RX2 73 Lib.Math.max.name ∈ AW := List.mem_filter.mpr ⟨List.mem_append_right _ (List.mem_of_getElem? (i := 760) (by decide +kernel)), by decide +kernel⟩
theorem wd_157 : Cond.static Lib.Math.max.name ∈ AW := List.mem_filter.mpr ⟨List.mem_append_right _ (List.mem_of_getElem? (i := 42) (by decide +kernel)), by decide +kernel⟩
theorem wd_158 : Cond.code Lib.Math.max.name Lib.Math.max.code 2 (some .int) ∈ AW := List.mem_filter.mpr ⟨List.mem_append_right _ (List.mem_of_getElem? (i := 43) (by decide +kernel)), by decide +kernel⟩
theorem wd_159 : Cond.fieldLink RX1 9 "WordHeap$Maps" "heap" "LWordHeap$Heap;" ∈ AW := List.mem_filter.mpr ⟨List.mem_append_right _ (List.mem_of_getElem? (i := 111) (by decide +kernel)), by decide +kernel⟩
theorem wd_160 : Cond.methodLink RX1 118 yX0_setNumber ∈ AW := List.mem_filter.mpr ⟨List.mem_append_right _ (List.mem_of_getElem? (i := 665) (by decide +kernel)), by decide +kernel⟩
theorem wd_161 : Cond.methodLink RX1 50 yX0_first ∈ AW := List.mem_filter.mpr ⟨List.mem_append_right _ (List.mem_of_getElem? (i := 664) (by decide +kernel)), by decide +kernel⟩
theorem wd_162 : Cond.methodLink RX1 99 yX0_bitsAt ∈ AW := List.mem_filter.mpr ⟨List.mem_append_right _ (List.mem_of_getElem? (i := 675) (by decide +kernel)), by decide +kernel⟩
theorem wd_163 : Cond.methodLink RX1 29 yX1_setField ∈ AW := List.mem_filter.mpr ⟨List.mem_append_right _ (List.mem_of_getElem? (i := 660) (by decide +kernel)), by decide +kernel⟩
theorem wd_164 : Cond.instanceMethod yX1_setField ∈ AW := List.mem_filter.mpr ⟨List.mem_append_right _ (List.mem_of_getElem? (i := 662) (by decide +kernel)), by decide +kernel⟩
theorem wd_165 : Cond.selects RX1 yX1_setField yX1_setField ∈ AW := List.mem_filter.mpr ⟨List.mem_append_left _ (List.mem_of_getElem? (i := 8) (by decide +kernel)), by decide +kernel⟩
theorem wd_166 : Cond.initialized RX1 ∈ AW := List.mem_filter.mpr ⟨List.mem_append_right _ (List.mem_of_getElem? (i := 5) (by decide +kernel)), by decide +kernel⟩
theorem wd_167 : Cond.code yX1_setField cX1_setField 4 none ∈ AW := List.mem_filter.mpr ⟨List.mem_append_right _ (List.mem_of_getElem? (i := 663) (by decide +kernel)), by decide +kernel⟩
theorem wd_168 : Cond.methodLink RX1 36 yX1_field ∈ AW := List.mem_filter.mpr ⟨List.mem_append_right _ (List.mem_of_getElem? (i := 671) (by decide +kernel)), by decide +kernel⟩
theorem wd_169 : Cond.instanceMethod yX1_field ∈ AW := List.mem_filter.mpr ⟨List.mem_append_right _ (List.mem_of_getElem? (i := 673) (by decide +kernel)), by decide +kernel⟩
theorem wd_170 : Cond.selects RX1 yX1_field yX1_field ∈ AW := List.mem_filter.mpr ⟨List.mem_append_left _ (List.mem_of_getElem? (i := 10) (by decide +kernel)), by decide +kernel⟩
theorem wd_171 : Cond.code yX1_field cX1_field 3 (some .int) ∈ AW := List.mem_filter.mpr ⟨List.mem_append_right _ (List.mem_of_getElem? (i := 674) (by decide +kernel)), by decide +kernel⟩
theorem wd_172 : Cond.methodLink RX1 128 yX0_setReference ∈ AW := List.mem_filter.mpr ⟨List.mem_append_right _ (List.mem_of_getElem? (i := 670) (by decide +kernel)), by decide +kernel⟩
theorem wd_173 : Cond.instanceMethod yX0_setReference ∈ AW := List.mem_filter.mpr ⟨List.mem_append_right _ (List.mem_of_getElem? (i := 283) (by decide +kernel)), by decide +kernel⟩
theorem wd_174 : Cond.selects RX0 yX0_setReference yX0_setReference ∈ AW := List.mem_filter.mpr ⟨List.mem_append_right _ (List.mem_of_getElem? (i := 284) (by decide +kernel)), by decide +kernel⟩
theorem wd_175 : Cond.code yX0_setReference cX0_setReference 4 none ∈ AW := List.mem_filter.mpr ⟨List.mem_append_right _ (List.mem_of_getElem? (i := 285) (by decide +kernel)), by decide +kernel⟩
theorem wd_176 : Cond.methodLink RX1 33 yX1_useTable ∈ AW := List.mem_filter.mpr ⟨List.mem_append_right _ (List.mem_of_getElem? (i := 666) (by decide +kernel)), by decide +kernel⟩
theorem wd_177 : Cond.instanceMethod yX1_useTable ∈ AW := List.mem_filter.mpr ⟨List.mem_append_right _ (List.mem_of_getElem? (i := 668) (by decide +kernel)), by decide +kernel⟩
theorem wd_178 : Cond.selects RX1 yX1_useTable yX1_useTable ∈ AW := List.mem_filter.mpr ⟨List.mem_append_left _ (List.mem_of_getElem? (i := 9) (by decide +kernel)), by decide +kernel⟩
theorem wd_179 : Cond.code yX1_useTable cX1_useTable 5 none ∈ AW := List.mem_filter.mpr ⟨List.mem_append_right _ (List.mem_of_getElem? (i := 669) (by decide +kernel)), by decide +kernel⟩
theorem wd_180 : Cond.methodLink RX1 25 yX0_place ∈ AW := List.mem_filter.mpr ⟨List.mem_append_right _ (List.mem_of_getElem? (i := 659) (by decide +kernel)), by decide +kernel⟩
theorem wd_181 : Cond.methodLink RX1 19 yX0_needRoom ∈ AW := List.mem_filter.mpr ⟨List.mem_append_right _ (List.mem_of_getElem? (i := 658) (by decide +kernel)), by decide +kernel⟩
theorem wd_182 : Cond.methodLink RX1 46 yX1_isTextual ∈ AW := List.mem_filter.mpr ⟨List.mem_append_right _ (List.mem_of_getElem? (i := 905) (by decide +kernel)), by decide +kernel⟩
theorem wd_183 : Cond.instanceMethod yX1_isTextual ∈ AW := List.mem_filter.mpr ⟨List.mem_append_right _ (List.mem_of_getElem? (i := 907) (by decide +kernel)), by decide +kernel⟩
theorem wd_184 : Cond.selects RX1 yX1_isTextual yX1_isTextual ∈ AW := List.mem_filter.mpr ⟨List.mem_append_left _ (List.mem_of_getElem? (i := 23) (by decide +kernel)), by decide +kernel⟩
theorem wd_185 : Cond.code yX1_isTextual cX1_isTextual 3 (some .boolean) ∈ AW := List.mem_filter.mpr ⟨List.mem_append_right _ (List.mem_of_getElem? (i := 908) (by decide +kernel)), by decide +kernel⟩
theorem wd_186 : Cond.methodLink RX1 43 yX0_kindAt ∈ AW := List.mem_filter.mpr ⟨List.mem_append_right _ (List.mem_of_getElem? (i := 904) (by decide +kernel)), by decide +kernel⟩
theorem wd_187 : Cond.instanceMethod yX0_kindAt ∈ AW := List.mem_filter.mpr ⟨List.mem_append_right _ (List.mem_of_getElem? (i := 692) (by decide +kernel)), by decide +kernel⟩
theorem wd_188 : Cond.selects RX0 yX0_kindAt yX0_kindAt ∈ AW := List.mem_filter.mpr ⟨List.mem_append_right _ (List.mem_of_getElem? (i := 693) (by decide +kernel)), by decide +kernel⟩
theorem wd_189 : Cond.code yX0_kindAt cX0_kindAt 2 (some .int) ∈ AW := List.mem_filter.mpr ⟨List.mem_append_right _ (List.mem_of_getElem? (i := 694) (by decide +kernel)), by decide +kernel⟩
theorem wd_190 : Cond.methodLink RX1 39 yX1_keyWords ∈ AW := List.mem_filter.mpr ⟨List.mem_append_right _ (List.mem_of_getElem? (i := 900) (by decide +kernel)), by decide +kernel⟩
theorem wd_191 : Cond.instanceMethod yX1_keyWords ∈ AW := List.mem_filter.mpr ⟨List.mem_append_right _ (List.mem_of_getElem? (i := 902) (by decide +kernel)), by decide +kernel⟩
theorem wd_192 : Cond.selects RX1 yX1_keyWords yX1_keyWords ∈ AW := List.mem_filter.mpr ⟨List.mem_append_left _ (List.mem_of_getElem? (i := 22) (by decide +kernel)), by decide +kernel⟩
theorem wd_193 : Cond.code yX1_keyWords cX1_keyWords 2 (some .int) ∈ AW := List.mem_filter.mpr ⟨List.mem_append_right _ (List.mem_of_getElem? (i := 903) (by decide +kernel)), by decide +kernel⟩
theorem wd_194 : Cond.methodLink RX1 96 yX1_entryWords ∈ AW := List.mem_filter.mpr ⟨List.mem_append_right _ (List.mem_of_getElem? (i := 922) (by decide +kernel)), by decide +kernel⟩
theorem wd_195 : Cond.instanceMethod yX1_entryWords ∈ AW := List.mem_filter.mpr ⟨List.mem_append_right _ (List.mem_of_getElem? (i := 889) (by decide +kernel)), by decide +kernel⟩
theorem wd_196 : Cond.selects RX1 yX1_entryWords yX1_entryWords ∈ AW := List.mem_filter.mpr ⟨List.mem_append_right _ (List.mem_of_getElem? (i := 890) (by decide +kernel)), by decide +kernel⟩
theorem wd_197 : Cond.code yX1_entryWords cX1_entryWords 3 (some .int) ∈ AW := List.mem_filter.mpr ⟨List.mem_append_right _ (List.mem_of_getElem? (i := 891) (by decide +kernel)), by decide +kernel⟩
theorem wd_198 : Cond.methodLink RX1 107 yX0_handleAt ∈ AW := List.mem_filter.mpr ⟨List.mem_append_right _ (List.mem_of_getElem? (i := 931) (by decide +kernel)), by decide +kernel⟩
theorem wd_199 : Cond.methodLink RX1 93 yX1_slotsStart ∈ AW := List.mem_filter.mpr ⟨List.mem_append_right _ (List.mem_of_getElem? (i := 927) (by decide +kernel)), by decide +kernel⟩
theorem wd_200 : Cond.instanceMethod yX1_slotsStart ∈ AW := List.mem_filter.mpr ⟨List.mem_append_right _ (List.mem_of_getElem? (i := 929) (by decide +kernel)), by decide +kernel⟩
theorem wd_201 : Cond.selects RX1 yX1_slotsStart yX1_slotsStart ∈ AW := List.mem_filter.mpr ⟨List.mem_append_left _ (List.mem_of_getElem? (i := 27) (by decide +kernel)), by decide +kernel⟩
theorem wd_202 : Cond.code yX1_slotsStart cX1_slotsStart 2 (some .int) ∈ AW := List.mem_filter.mpr ⟨List.mem_append_right _ (List.mem_of_getElem? (i := 930) (by decide +kernel)), by decide +kernel⟩
theorem wd_203 : Cond.methodLink RX1 115 yX0_sameWords ∈ AW := List.mem_filter.mpr ⟨List.mem_append_right _ (List.mem_of_getElem? (i := 944) (by decide +kernel)), by decide +kernel⟩
theorem wd_204 : Cond.instanceMethod yX0_sameWords ∈ AW := List.mem_filter.mpr ⟨List.mem_append_right _ (List.mem_of_getElem? (i := 945) (by decide +kernel)), by decide +kernel⟩
theorem wd_205 : Cond.selects RX0 yX0_sameWords yX0_sameWords ∈ AW := List.mem_filter.mpr ⟨List.mem_append_right _ (List.mem_of_getElem? (i := 946) (by decide +kernel)), by decide +kernel⟩
theorem wd_206 : Cond.code yX0_sameWords cX0_sameWords 3 (some .boolean) ∈ AW := List.mem_filter.mpr ⟨List.mem_append_right _ (List.mem_of_getElem? (i := 947) (by decide +kernel)), by decide +kernel⟩
theorem wd_207 : Cond.fieldLink RX1 15 "WordHeap$Maps" "texts" "LWordHeap$Texts;" ∈ AW := List.mem_filter.mpr ⟨List.mem_append_right _ (List.mem_of_getElem? (i := 112) (by decide +kernel)), by decide +kernel⟩
theorem wd_208 : Cond.methodLink RX1 110 yX2_alike ∈ AW := List.mem_filter.mpr ⟨List.mem_append_right _ (List.mem_of_getElem? (i := 940) (by decide +kernel)), by decide +kernel⟩
theorem wd_209 : Cond.instanceMethod yX2_alike ∈ AW := List.mem_filter.mpr ⟨List.mem_append_right _ (List.mem_of_getElem? (i := 941) (by decide +kernel)), by decide +kernel⟩
theorem wd_210 : Cond.selects RX2 yX2_alike yX2_alike ∈ AW := List.mem_filter.mpr ⟨List.mem_append_right _ (List.mem_of_getElem? (i := 942) (by decide +kernel)), by decide +kernel⟩
theorem wd_211 : Cond.code yX2_alike cX2_alike 6 (some .boolean) ∈ AW := List.mem_filter.mpr ⟨List.mem_append_right _ (List.mem_of_getElem? (i := 943) (by decide +kernel)), by decide +kernel⟩
theorem wd_212 : Cond.methodLink RX1 90 yX1_slotsEnd ∈ AW := List.mem_filter.mpr ⟨List.mem_append_right _ (List.mem_of_getElem? (i := 923) (by decide +kernel)), by decide +kernel⟩
theorem wd_213 : Cond.instanceMethod yX1_slotsEnd ∈ AW := List.mem_filter.mpr ⟨List.mem_append_right _ (List.mem_of_getElem? (i := 925) (by decide +kernel)), by decide +kernel⟩
theorem wd_214 : Cond.selects RX1 yX1_slotsEnd yX1_slotsEnd ∈ AW := List.mem_filter.mpr ⟨List.mem_append_left _ (List.mem_of_getElem? (i := 26) (by decide +kernel)), by decide +kernel⟩
theorem wd_215 : Cond.code yX1_slotsEnd cX1_slotsEnd 3 (some .int) ∈ AW := List.mem_filter.mpr ⟨List.mem_append_right _ (List.mem_of_getElem? (i := 926) (by decide +kernel)), by decide +kernel⟩
theorem wd_216 : Cond.methodLink RX1 71 yX1_slotWords ∈ AW := List.mem_filter.mpr ⟨List.mem_append_right _ (List.mem_of_getElem? (i := 918) (by decide +kernel)), by decide +kernel⟩
theorem wd_217 : Cond.instanceMethod yX1_slotWords ∈ AW := List.mem_filter.mpr ⟨List.mem_append_right _ (List.mem_of_getElem? (i := 920) (by decide +kernel)), by decide +kernel⟩
theorem wd_218 : Cond.selects RX1 yX1_slotWords yX1_slotWords ∈ AW := List.mem_filter.mpr ⟨List.mem_append_left _ (List.mem_of_getElem? (i := 25) (by decide +kernel)), by decide +kernel⟩
theorem wd_219 : Cond.code yX1_slotWords cX1_slotWords 2 (some .int) ∈ AW := List.mem_filter.mpr ⟨List.mem_append_right _ (List.mem_of_getElem? (i := 921) (by decide +kernel)), by decide +kernel⟩
theorem wd_220 : Cond.methodLink RX1 103 yX1_alikeKeys ∈ AW := List.mem_filter.mpr ⟨List.mem_append_right _ (List.mem_of_getElem? (i := 936) (by decide +kernel)), by decide +kernel⟩
theorem wd_221 : Cond.instanceMethod yX1_alikeKeys ∈ AW := List.mem_filter.mpr ⟨List.mem_append_right _ (List.mem_of_getElem? (i := 938) (by decide +kernel)), by decide +kernel⟩
theorem wd_222 : Cond.selects RX1 yX1_alikeKeys yX1_alikeKeys ∈ AW := List.mem_filter.mpr ⟨List.mem_append_left _ (List.mem_of_getElem? (i := 28) (by decide +kernel)), by decide +kernel⟩
theorem wd_223 : Cond.code yX1_alikeKeys cX1_alikeKeys 6 (some .boolean) ∈ AW := List.mem_filter.mpr ⟨List.mem_append_right _ (List.mem_of_getElem? (i := 939) (by decide +kernel)), by decide +kernel⟩
theorem wd_224 : Cond.methodLink RX1 62 yX1_orderIn ∈ AW := List.mem_filter.mpr ⟨List.mem_append_right _ (List.mem_of_getElem? (i := 932) (by decide +kernel)), by decide +kernel⟩
theorem wd_225 : Cond.instanceMethod yX1_orderIn ∈ AW := List.mem_filter.mpr ⟨List.mem_append_right _ (List.mem_of_getElem? (i := 933) (by decide +kernel)), by decide +kernel⟩
theorem wd_226 : Cond.selects RX1 yX1_orderIn yX1_orderIn ∈ AW := List.mem_filter.mpr ⟨List.mem_append_right _ (List.mem_of_getElem? (i := 934) (by decide +kernel)), by decide +kernel⟩
theorem wd_227 : Cond.code yX1_orderIn cX1_orderIn 2 (some .int) ∈ AW := List.mem_filter.mpr ⟨List.mem_append_right _ (List.mem_of_getElem? (i := 935) (by decide +kernel)), by decide +kernel⟩
theorem wd_228 : Cond.methodLink RX1 87 yX1_entries ∈ AW := List.mem_filter.mpr ⟨List.mem_append_right _ (List.mem_of_getElem? (i := 961) (by decide +kernel)), by decide +kernel⟩
theorem wd_229 : Cond.instanceMethod yX1_entries ∈ AW := List.mem_filter.mpr ⟨List.mem_append_right _ (List.mem_of_getElem? (i := 962) (by decide +kernel)), by decide +kernel⟩
theorem wd_230 : Cond.selects RX1 yX1_entries yX1_entries ∈ AW := List.mem_filter.mpr ⟨List.mem_append_right _ (List.mem_of_getElem? (i := 963) (by decide +kernel)), by decide +kernel⟩
theorem wd_231 : Cond.code yX1_entries cX1_entries 2 (some .int) ∈ AW := List.mem_filter.mpr ⟨List.mem_append_right _ (List.mem_of_getElem? (i := 964) (by decide +kernel)), by decide +kernel⟩
theorem wd_232 : Cond.methodLink RX1 65 yX1_capacity ∈ AW := List.mem_filter.mpr ⟨List.mem_append_right _ (List.mem_of_getElem? (i := 953) (by decide +kernel)), by decide +kernel⟩
theorem wd_233 : Cond.instanceMethod yX1_capacity ∈ AW := List.mem_filter.mpr ⟨List.mem_append_right _ (List.mem_of_getElem? (i := 954) (by decide +kernel)), by decide +kernel⟩
theorem wd_234 : Cond.selects RX1 yX1_capacity yX1_capacity ∈ AW := List.mem_filter.mpr ⟨List.mem_append_right _ (List.mem_of_getElem? (i := 955) (by decide +kernel)), by decide +kernel⟩
theorem wd_235 : Cond.code yX1_capacity cX1_capacity 2 (some .int) ∈ AW := List.mem_filter.mpr ⟨List.mem_append_right _ (List.mem_of_getElem? (i := 956) (by decide +kernel)), by decide +kernel⟩
theorem wd_236 : Cond.methodLink RX1 59 yX0_copyWords ∈ AW := List.mem_filter.mpr ⟨List.mem_append_right _ (List.mem_of_getElem? (i := 952) (by decide +kernel)), by decide +kernel⟩
theorem wd_237 : Cond.methodLink RX1 125 yX0_freeze ∈ AW := List.mem_filter.mpr ⟨List.mem_append_right _ (List.mem_of_getElem? (i := 978) (by decide +kernel)), by decide +kernel⟩
theorem wd_238 : Cond.instanceMethod yX0_freeze ∈ AW := List.mem_filter.mpr ⟨List.mem_append_right _ (List.mem_of_getElem? (i := 979) (by decide +kernel)), by decide +kernel⟩
theorem wd_239 : Cond.selects RX0 yX0_freeze yX0_freeze ∈ AW := List.mem_filter.mpr ⟨List.mem_append_right _ (List.mem_of_getElem? (i := 980) (by decide +kernel)), by decide +kernel⟩
theorem wd_240 : Cond.code yX0_freeze cX0_freeze 2 none ∈ AW := List.mem_filter.mpr ⟨List.mem_append_right _ (List.mem_of_getElem? (i := 981) (by decide +kernel)), by decide +kernel⟩
theorem wd_241 : Cond.methodLink RX1 122 yX1_freezeTexts ∈ AW := List.mem_filter.mpr ⟨List.mem_append_right _ (List.mem_of_getElem? (i := 974) (by decide +kernel)), by decide +kernel⟩
theorem wd_242 : Cond.instanceMethod yX1_freezeTexts ∈ AW := List.mem_filter.mpr ⟨List.mem_append_right _ (List.mem_of_getElem? (i := 976) (by decide +kernel)), by decide +kernel⟩
theorem wd_243 : Cond.selects RX1 yX1_freezeTexts yX1_freezeTexts ∈ AW := List.mem_filter.mpr ⟨List.mem_append_left _ (List.mem_of_getElem? (i := 33) (by decide +kernel)), by decide +kernel⟩
theorem wd_244 : Cond.code yX1_freezeTexts cX1_freezeTexts 5 none ∈ AW := List.mem_filter.mpr ⟨List.mem_append_right _ (List.mem_of_getElem? (i := 977) (by decide +kernel)), by decide +kernel⟩
theorem wd_245 : Cond.methodLink RX1 80 yX1_append ∈ AW := List.mem_filter.mpr ⟨List.mem_append_right _ (List.mem_of_getElem? (i := 970) (by decide +kernel)), by decide +kernel⟩
theorem wd_246 : Cond.instanceMethod yX1_append ∈ AW := List.mem_filter.mpr ⟨List.mem_append_right _ (List.mem_of_getElem? (i := 972) (by decide +kernel)), by decide +kernel⟩
theorem wd_247 : Cond.selects RX1 yX1_append yX1_append ∈ AW := List.mem_filter.mpr ⟨List.mem_append_left _ (List.mem_of_getElem? (i := 32) (by decide +kernel)), by decide +kernel⟩
theorem wd_248 : Cond.code yX1_append cX1_append 5 (some .int) ∈ AW := List.mem_filter.mpr ⟨List.mem_append_right _ (List.mem_of_getElem? (i := 973) (by decide +kernel)), by decide +kernel⟩
theorem wd_249 : Cond.methodLink RX1 77 yX1_moveEntries ∈ AW := List.mem_filter.mpr ⟨List.mem_append_right _ (List.mem_of_getElem? (i := 966) (by decide +kernel)), by decide +kernel⟩
theorem wd_250 : Cond.instanceMethod yX1_moveEntries ∈ AW := List.mem_filter.mpr ⟨List.mem_append_right _ (List.mem_of_getElem? (i := 968) (by decide +kernel)), by decide +kernel⟩
theorem wd_251 : Cond.selects RX1 yX1_moveEntries yX1_moveEntries ∈ AW := List.mem_filter.mpr ⟨List.mem_append_left _ (List.mem_of_getElem? (i := 31) (by decide +kernel)), by decide +kernel⟩
theorem wd_252 : Cond.code yX1_moveEntries cX1_moveEntries 8 none ∈ AW := List.mem_filter.mpr ⟨List.mem_append_right _ (List.mem_of_getElem? (i := 969) (by decide +kernel)), by decide +kernel⟩
theorem wd_253 : Cond.methodLink RX1 74 yX0_claim ∈ AW := List.mem_filter.mpr ⟨List.mem_append_right _ (List.mem_of_getElem? (i := 965) (by decide +kernel)), by decide +kernel⟩
theorem wd_254 : Cond.methodLink RX1 68 yX1_nextCapacity ∈ AW := List.mem_filter.mpr ⟨List.mem_append_right _ (List.mem_of_getElem? (i := 957) (by decide +kernel)), by decide +kernel⟩
theorem wd_255 : Cond.instanceMethod yX1_nextCapacity ∈ AW := List.mem_filter.mpr ⟨List.mem_append_right _ (List.mem_of_getElem? (i := 959) (by decide +kernel)), by decide +kernel⟩
theorem wd_256 : Cond.selects RX1 yX1_nextCapacity yX1_nextCapacity ∈ AW := List.mem_filter.mpr ⟨List.mem_append_left _ (List.mem_of_getElem? (i := 30) (by decide +kernel)), by decide +kernel⟩
theorem wd_257 : Cond.code yX1_nextCapacity cX1_nextCapacity 3 (some .int) ∈ AW := List.mem_filter.mpr ⟨List.mem_append_right _ (List.mem_of_getElem? (i := 960) (by decide +kernel)), by decide +kernel⟩
theorem wd_258 : Cond.methodLink RX1 56 yX1_valueWords ∈ AW := List.mem_filter.mpr ⟨List.mem_append_right _ (List.mem_of_getElem? (i := 948) (by decide +kernel)), by decide +kernel⟩
theorem wd_259 : Cond.instanceMethod yX1_valueWords ∈ AW := List.mem_filter.mpr ⟨List.mem_append_right _ (List.mem_of_getElem? (i := 950) (by decide +kernel)), by decide +kernel⟩
theorem wd_260 : Cond.selects RX1 yX1_valueWords yX1_valueWords ∈ AW := List.mem_filter.mpr ⟨List.mem_append_left _ (List.mem_of_getElem? (i := 29) (by decide +kernel)), by decide +kernel⟩
theorem wd_261 : Cond.code yX1_valueWords cX1_valueWords 2 (some .int) ∈ AW := List.mem_filter.mpr ⟨List.mem_append_right _ (List.mem_of_getElem? (i := 951) (by decide +kernel)), by decide +kernel⟩
theorem wd_262 : Cond.methodLink RX1 53 yX1_slotOfKey ∈ AW := List.mem_filter.mpr ⟨List.mem_append_right _ (List.mem_of_getElem? (i := 914) (by decide +kernel)), by decide +kernel⟩
theorem wd_263 : Cond.instanceMethod yX1_slotOfKey ∈ AW := List.mem_filter.mpr ⟨List.mem_append_right _ (List.mem_of_getElem? (i := 916) (by decide +kernel)), by decide +kernel⟩
theorem wd_264 : Cond.selects RX1 yX1_slotOfKey yX1_slotOfKey ∈ AW := List.mem_filter.mpr ⟨List.mem_append_left _ (List.mem_of_getElem? (i := 24) (by decide +kernel)), by decide +kernel⟩
theorem wd_265 : Cond.code yX1_slotOfKey cX1_slotOfKey 6 (some .int) ∈ AW := List.mem_filter.mpr ⟨List.mem_append_right _ (List.mem_of_getElem? (i := 917) (by decide +kernel)), by decide +kernel⟩
theorem wd_266 : Cond.methodLink RX1 83 yX0_clearWords ∈ AW := List.mem_filter.mpr ⟨List.mem_append_right _ (List.mem_of_getElem? (i := 1005) (by decide +kernel)), by decide +kernel⟩
theorem wd_267 : Cond.classLink RX3 209 "java/lang/IllegalArgumentException" ∈ AW := List.mem_filter.mpr ⟨List.mem_append_right _ (List.mem_of_getElem? (i := 200) (by decide +kernel)), by decide +kernel⟩
theorem wd_268 : Cond.initialized "java/lang/IllegalArgumentException" ∈ AW := List.mem_filter.mpr ⟨List.mem_append_right _ (List.mem_of_getElem? (i := 10) (by decide +kernel)), by decide +kernel⟩
theorem wd_269 : Cond.fieldLink RX3 24 "WordHeap" "heap" "LWordHeap$Heap;" ∈ AW := List.mem_filter.mpr ⟨List.mem_append_right _ (List.mem_of_getElem? (i := 118) (by decide +kernel)), by decide +kernel⟩
theorem wd_270 : Cond.methodLink RX3 49 yX0_setNumber ∈ AW := List.mem_filter.mpr ⟨List.mem_append_right _ (List.mem_of_getElem? (i := 271) (by decide +kernel)), by decide +kernel⟩
theorem wd_271 : Cond.methodLink RX3 46 yX3_needRegister ∈ AW := List.mem_filter.mpr ⟨List.mem_append_right _ (List.mem_of_getElem? (i := 197) (by decide +kernel)), by decide +kernel⟩
theorem wd_272 : Cond.static yX3_needRegister ∈ AW := List.mem_filter.mpr ⟨List.mem_append_right _ (List.mem_of_getElem? (i := 198) (by decide +kernel)), by decide +kernel⟩
theorem wd_273 : Cond.initialized RX3 ∈ AW := List.mem_filter.mpr ⟨List.mem_append_right _ (List.mem_of_getElem? (i := 1) (by decide +kernel)), by decide +kernel⟩
theorem wd_274 : Cond.code yX3_needRegister cX3_needRegister 1 none ∈ AW := List.mem_filter.mpr ⟨List.mem_append_right _ (List.mem_of_getElem? (i := 199) (by decide +kernel)), by decide +kernel⟩
theorem wd_275 : Cond.methodLink RX3 53 yX0_setReference ∈ AW := List.mem_filter.mpr ⟨List.mem_append_right _ (List.mem_of_getElem? (i := 282) (by decide +kernel)), by decide +kernel⟩
theorem wd_276 : Cond.methodLink RX3 57 yX0_setWord ∈ AW := List.mem_filter.mpr ⟨List.mem_append_right _ (List.mem_of_getElem? (i := 293) (by decide +kernel)), by decide +kernel⟩
theorem wd_277 : Cond.instanceMethod yX0_setWord ∈ AW := List.mem_filter.mpr ⟨List.mem_append_right _ (List.mem_of_getElem? (i := 294) (by decide +kernel)), by decide +kernel⟩
theorem wd_278 : Cond.selects RX0 yX0_setWord yX0_setWord ∈ AW := List.mem_filter.mpr ⟨List.mem_append_right _ (List.mem_of_getElem? (i := 295) (by decide +kernel)), by decide +kernel⟩
theorem wd_279 : Cond.code yX0_setWord cX0_setWord 3 none ∈ AW := List.mem_filter.mpr ⟨List.mem_append_right _ (List.mem_of_getElem? (i := 296) (by decide +kernel)), by decide +kernel⟩
theorem wd_280 : Cond.methodLink RX3 184 yX0_serial ∈ AW := List.mem_filter.mpr ⟨List.mem_append_right _ (List.mem_of_getElem? (i := 635) (by decide +kernel)), by decide +kernel⟩
theorem wd_281 : Cond.instanceMethod yX0_serial ∈ AW := List.mem_filter.mpr ⟨List.mem_append_right _ (List.mem_of_getElem? (i := 636) (by decide +kernel)), by decide +kernel⟩
theorem wd_282 : Cond.selects RX0 yX0_serial yX0_serial ∈ AW := List.mem_filter.mpr ⟨List.mem_append_right _ (List.mem_of_getElem? (i := 637) (by decide +kernel)), by decide +kernel⟩
theorem wd_283 : Cond.code yX0_serial cX0_serial 2 (some .int) ∈ AW := List.mem_filter.mpr ⟨List.mem_append_right _ (List.mem_of_getElem? (i := 638) (by decide +kernel)), by decide +kernel⟩
theorem wd_284 : Cond.methodLink RX3 67 yX3_hold ∈ AW := List.mem_filter.mpr ⟨List.mem_append_right _ (List.mem_of_getElem? (i := 631) (by decide +kernel)), by decide +kernel⟩
theorem wd_285 : Cond.instanceMethod yX3_hold ∈ AW := List.mem_filter.mpr ⟨List.mem_append_right _ (List.mem_of_getElem? (i := 633) (by decide +kernel)), by decide +kernel⟩
theorem wd_286 : Cond.selects RX3 yX3_hold yX3_hold ∈ AW := List.mem_filter.mpr ⟨List.mem_append_left _ (List.mem_of_getElem? (i := 7) (by decide +kernel)), by decide +kernel⟩
theorem wd_287 : Cond.code yX3_hold cX3_hold 3 (some .int) ∈ AW := List.mem_filter.mpr ⟨List.mem_append_right _ (List.mem_of_getElem? (i := 634) (by decide +kernel)), by decide +kernel⟩
theorem wd_288 : Cond.methodLink RX3 64 yX0_claim ∈ AW := List.mem_filter.mpr ⟨List.mem_append_right _ (List.mem_of_getElem? (i := 309) (by decide +kernel)), by decide +kernel⟩
theorem wd_289 : Cond.methodLink RX3 61 yX3_needWithin ∈ AW := List.mem_filter.mpr ⟨List.mem_append_right _ (List.mem_of_getElem? (i := 305) (by decide +kernel)), by decide +kernel⟩
theorem wd_290 : Cond.static yX3_needWithin ∈ AW := List.mem_filter.mpr ⟨List.mem_append_right _ (List.mem_of_getElem? (i := 306) (by decide +kernel)), by decide +kernel⟩
theorem wd_291 : Cond.code yX3_needWithin cX3_needWithin 3 none ∈ AW := List.mem_filter.mpr ⟨List.mem_append_right _ (List.mem_of_getElem? (i := 307) (by decide +kernel)), by decide +kernel⟩
theorem wd_292 : Cond.constant RX3 70 32768 ∈ AW := List.mem_filter.mpr ⟨List.mem_append_right _ (List.mem_of_getElem? (i := 646) (by decide +kernel)), by decide +kernel⟩
theorem wd_293 : Cond.fieldLink RX3 42 "WordHeap" "maps" "LWordHeap$Maps;" ∈ AW := List.mem_filter.mpr ⟨List.mem_append_right _ (List.mem_of_getElem? (i := 120) (by decide +kernel)), by decide +kernel⟩
theorem wd_294 : Cond.methodLink RX3 71 yX1_newMap ∈ AW := List.mem_filter.mpr ⟨List.mem_append_right _ (List.mem_of_getElem? (i := 654) (by decide +kernel)), by decide +kernel⟩
theorem wd_295 : Cond.instanceMethod yX1_newMap ∈ AW := List.mem_filter.mpr ⟨List.mem_append_right _ (List.mem_of_getElem? (i := 655) (by decide +kernel)), by decide +kernel⟩
theorem wd_296 : Cond.selects RX1 yX1_newMap yX1_newMap ∈ AW := List.mem_filter.mpr ⟨List.mem_append_right _ (List.mem_of_getElem? (i := 656) (by decide +kernel)), by decide +kernel⟩
theorem wd_297 : Cond.code yX1_newMap cX1_newMap 6 (some .int) ∈ AW := List.mem_filter.mpr ⟨List.mem_append_right _ (List.mem_of_getElem? (i := 657) (by decide +kernel)), by decide +kernel⟩
theorem wd_298 : Cond.methodLink RX3 144 yX0_handleAt ∈ AW := List.mem_filter.mpr ⟨List.mem_append_right _ (List.mem_of_getElem? (i := 711) (by decide +kernel)), by decide +kernel⟩
theorem wd_299 : Cond.classLink RX3 82 "java/lang/UnsupportedOperationException" ∈ AW := List.mem_filter.mpr ⟨List.mem_append_right _ (List.mem_of_getElem? (i := 695) (by decide +kernel)), by decide +kernel⟩
theorem wd_300 : Cond.initialized "java/lang/UnsupportedOperationException" ∈ AW := List.mem_filter.mpr ⟨List.mem_append_right _ (List.mem_of_getElem? (i := 24) (by decide +kernel)), by decide +kernel⟩
theorem wd_301 : Cond.methodLink RX3 181 yX0_kindAt ∈ AW := List.mem_filter.mpr ⟨List.mem_append_right _ (List.mem_of_getElem? (i := 691) (by decide +kernel)), by decide +kernel⟩
theorem wd_302 : Cond.fieldLink RX3 33 "WordHeap" "texts" "LWordHeap$Texts;" ∈ AW := List.mem_filter.mpr ⟨List.mem_append_right _ (List.mem_of_getElem? (i := 119) (by decide +kernel)), by decide +kernel⟩
theorem wd_303 : Cond.methodLink RX3 89 yX2_joined ∈ AW := List.mem_filter.mpr ⟨List.mem_append_right _ (List.mem_of_getElem? (i := 714) (by decide +kernel)), by decide +kernel⟩
theorem wd_304 : Cond.instanceMethod yX2_joined ∈ AW := List.mem_filter.mpr ⟨List.mem_append_right _ (List.mem_of_getElem? (i := 715) (by decide +kernel)), by decide +kernel⟩
theorem wd_305 : Cond.selects RX2 yX2_joined yX2_joined ∈ AW := List.mem_filter.mpr ⟨List.mem_append_right _ (List.mem_of_getElem? (i := 716) (by decide +kernel)), by decide +kernel⟩
theorem wd_306 : Cond.code yX2_joined cX2_joined 7 (some .int) ∈ AW := List.mem_filter.mpr ⟨List.mem_append_right _ (List.mem_of_getElem? (i := 717) (by decide +kernel)), by decide +kernel⟩
theorem wd_307 : Cond.methodLink RX3 79 yX0_length ∈ AW := List.mem_filter.mpr ⟨List.mem_append_right _ (List.mem_of_getElem? (i := 712) (by decide +kernel)), by decide +kernel⟩
theorem wd_308 : Cond.methodLink RX3 75 yX3_textIn ∈ AW := List.mem_filter.mpr ⟨List.mem_append_right _ (List.mem_of_getElem? (i := 687) (by decide +kernel)), by decide +kernel⟩
theorem wd_309 : Cond.instanceMethod yX3_textIn ∈ AW := List.mem_filter.mpr ⟨List.mem_append_right _ (List.mem_of_getElem? (i := 689) (by decide +kernel)), by decide +kernel⟩
theorem wd_310 : Cond.selects RX3 yX3_textIn yX3_textIn ∈ AW := List.mem_filter.mpr ⟨List.mem_append_left _ (List.mem_of_getElem? (i := 11) (by decide +kernel)), by decide +kernel⟩
theorem wd_311 : Cond.code yX3_textIn cX3_textIn 3 (some .int) ∈ AW := List.mem_filter.mpr ⟨List.mem_append_right _ (List.mem_of_getElem? (i := 690) (by decide +kernel)), by decide +kernel⟩
theorem wd_312 : Cond.classLink RX3 92 "java/lang/IndexOutOfBoundsException" ∈ AW := List.mem_filter.mpr ⟨List.mem_append_right _ (List.mem_of_getElem? (i := 743) (by decide +kernel)), by decide +kernel⟩
theorem wd_313 : Cond.initialized "java/lang/IndexOutOfBoundsException" ∈ AW := List.mem_filter.mpr ⟨List.mem_append_right _ (List.mem_of_getElem? (i := 22) (by decide +kernel)), by decide +kernel⟩
theorem wd_314 : Cond.methodLink RX3 97 yX2_partOf ∈ AW := List.mem_filter.mpr ⟨List.mem_append_right _ (List.mem_of_getElem? (i := 756) (by decide +kernel)), by decide +kernel⟩
theorem wd_315 : Cond.instanceMethod yX2_partOf ∈ AW := List.mem_filter.mpr ⟨List.mem_append_right _ (List.mem_of_getElem? (i := 757) (by decide +kernel)), by decide +kernel⟩
theorem wd_316 : Cond.selects RX2 yX2_partOf yX2_partOf ∈ AW := List.mem_filter.mpr ⟨List.mem_append_right _ (List.mem_of_getElem? (i := 758) (by decide +kernel)), by decide +kernel⟩
theorem wd_317 : Cond.code yX2_partOf cX2_partOf 8 (some .int) ∈ AW := List.mem_filter.mpr ⟨List.mem_append_right _ (List.mem_of_getElem? (i := 759) (by decide +kernel)), by decide +kernel⟩
theorem wd_318 : Cond.methodLink RX3 100 yX2_order ∈ AW := List.mem_filter.mpr ⟨List.mem_append_right _ (List.mem_of_getElem? (i := 769) (by decide +kernel)), by decide +kernel⟩
theorem wd_319 : Cond.instanceMethod yX2_order ∈ AW := List.mem_filter.mpr ⟨List.mem_append_right _ (List.mem_of_getElem? (i := 770) (by decide +kernel)), by decide +kernel⟩
theorem wd_320 : Cond.selects RX2 yX2_order yX2_order ∈ AW := List.mem_filter.mpr ⟨List.mem_append_right _ (List.mem_of_getElem? (i := 771) (by decide +kernel)), by decide +kernel⟩
theorem wd_321 : Cond.code yX2_order cX2_order 6 (some .int) ∈ AW := List.mem_filter.mpr ⟨List.mem_append_right _ (List.mem_of_getElem? (i := 772) (by decide +kernel)), by decide +kernel⟩
theorem wd_322 : Cond.methodLink RX3 106 yX2_byteOf ∈ AW := List.mem_filter.mpr ⟨List.mem_append_right _ (List.mem_of_getElem? (i := 793) (by decide +kernel)), by decide +kernel⟩
theorem wd_323 : Cond.instanceMethod yX2_byteOf ∈ AW := List.mem_filter.mpr ⟨List.mem_append_right _ (List.mem_of_getElem? (i := 794) (by decide +kernel)), by decide +kernel⟩
theorem wd_324 : Cond.selects RX2 yX2_byteOf yX2_byteOf ∈ AW := List.mem_filter.mpr ⟨List.mem_append_right _ (List.mem_of_getElem? (i := 795) (by decide +kernel)), by decide +kernel⟩
theorem wd_325 : Cond.code yX2_byteOf cX2_byteOf 3 (some .int) ∈ AW := List.mem_filter.mpr ⟨List.mem_append_right _ (List.mem_of_getElem? (i := 796) (by decide +kernel)), by decide +kernel⟩
theorem wd_326 : Cond.methodLink RX3 103 yX3_needByte ∈ AW := List.mem_filter.mpr ⟨List.mem_append_right _ (List.mem_of_getElem? (i := 788) (by decide +kernel)), by decide +kernel⟩
theorem wd_327 : Cond.instanceMethod yX3_needByte ∈ AW := List.mem_filter.mpr ⟨List.mem_append_right _ (List.mem_of_getElem? (i := 790) (by decide +kernel)), by decide +kernel⟩
theorem wd_328 : Cond.selects RX3 yX3_needByte yX3_needByte ∈ AW := List.mem_filter.mpr ⟨List.mem_append_left _ (List.mem_of_getElem? (i := 14) (by decide +kernel)), by decide +kernel⟩
theorem wd_329 : Cond.code yX3_needByte cX3_needByte 3 none ∈ AW := List.mem_filter.mpr ⟨List.mem_append_right _ (List.mem_of_getElem? (i := 791) (by decide +kernel)), by decide +kernel⟩
theorem wd_330 : Cond.methodLink RX3 115 yX2_changeByte ∈ AW := List.mem_filter.mpr ⟨List.mem_append_right _ (List.mem_of_getElem? (i := 812) (by decide +kernel)), by decide +kernel⟩
theorem wd_331 : Cond.instanceMethod yX2_changeByte ∈ AW := List.mem_filter.mpr ⟨List.mem_append_right _ (List.mem_of_getElem? (i := 813) (by decide +kernel)), by decide +kernel⟩
theorem wd_332 : Cond.selects RX2 yX2_changeByte yX2_changeByte ∈ AW := List.mem_filter.mpr ⟨List.mem_append_right _ (List.mem_of_getElem? (i := 814) (by decide +kernel)), by decide +kernel⟩
theorem wd_333 : Cond.code yX2_changeByte cX2_changeByte 7 none ∈ AW := List.mem_filter.mpr ⟨List.mem_append_right _ (List.mem_of_getElem? (i := 815) (by decide +kernel)), by decide +kernel⟩
theorem wd_334 : Cond.methodLink RX3 109 yX0_isFrozen ∈ AW := List.mem_filter.mpr ⟨List.mem_append_right _ (List.mem_of_getElem? (i := 807) (by decide +kernel)), by decide +kernel⟩
theorem wd_335 : Cond.instanceMethod yX0_isFrozen ∈ AW := List.mem_filter.mpr ⟨List.mem_append_right _ (List.mem_of_getElem? (i := 808) (by decide +kernel)), by decide +kernel⟩
theorem wd_336 : Cond.selects RX0 yX0_isFrozen yX0_isFrozen ∈ AW := List.mem_filter.mpr ⟨List.mem_append_right _ (List.mem_of_getElem? (i := 809) (by decide +kernel)), by decide +kernel⟩
theorem wd_337 : Cond.code yX0_isFrozen cX0_isFrozen 2 (some .boolean) ∈ AW := List.mem_filter.mpr ⟨List.mem_append_right _ (List.mem_of_getElem? (i := 810) (by decide +kernel)), by decide +kernel⟩
theorem wd_338 : Cond.methodLink RX3 121 yX0_placeAt ∈ AW := List.mem_filter.mpr ⟨List.mem_append_right _ (List.mem_of_getElem? (i := 829) (by decide +kernel)), by decide +kernel⟩
theorem wd_339 : Cond.instanceMethod yX0_placeAt ∈ AW := List.mem_filter.mpr ⟨List.mem_append_right _ (List.mem_of_getElem? (i := 830) (by decide +kernel)), by decide +kernel⟩
theorem wd_340 : Cond.selects RX0 yX0_placeAt yX0_placeAt ∈ AW := List.mem_filter.mpr ⟨List.mem_append_right _ (List.mem_of_getElem? (i := 831) (by decide +kernel)), by decide +kernel⟩
theorem wd_341 : Cond.code yX0_placeAt cX0_placeAt 2 (some .int) ∈ AW := List.mem_filter.mpr ⟨List.mem_append_right _ (List.mem_of_getElem? (i := 832) (by decide +kernel)), by decide +kernel⟩
theorem wd_342 : Cond.methodLink RX3 118 yX3_rowIn ∈ AW := List.mem_filter.mpr ⟨List.mem_append_right _ (List.mem_of_getElem? (i := 824) (by decide +kernel)), by decide +kernel⟩
theorem wd_343 : Cond.instanceMethod yX3_rowIn ∈ AW := List.mem_filter.mpr ⟨List.mem_append_right _ (List.mem_of_getElem? (i := 826) (by decide +kernel)), by decide +kernel⟩
theorem wd_344 : Cond.selects RX3 yX3_rowIn yX3_rowIn ∈ AW := List.mem_filter.mpr ⟨List.mem_append_left _ (List.mem_of_getElem? (i := 15) (by decide +kernel)), by decide +kernel⟩
theorem wd_345 : Cond.code yX3_rowIn cX3_rowIn 2 (some .int) ∈ AW := List.mem_filter.mpr ⟨List.mem_append_right _ (List.mem_of_getElem? (i := 827) (by decide +kernel)), by decide +kernel⟩
theorem wd_346 : Cond.methodLink RX3 226 yX0_first ∈ AW := List.mem_filter.mpr ⟨List.mem_append_right _ (List.mem_of_getElem? (i := 847) (by decide +kernel)), by decide +kernel⟩
theorem wd_347 : Cond.methodLink RX3 126 yX3_wordBehind ∈ AW := List.mem_filter.mpr ⟨List.mem_append_right _ (List.mem_of_getElem? (i := 842) (by decide +kernel)), by decide +kernel⟩
theorem wd_348 : Cond.instanceMethod yX3_wordBehind ∈ AW := List.mem_filter.mpr ⟨List.mem_append_right _ (List.mem_of_getElem? (i := 844) (by decide +kernel)), by decide +kernel⟩
theorem wd_349 : Cond.selects RX3 yX3_wordBehind yX3_wordBehind ∈ AW := List.mem_filter.mpr ⟨List.mem_append_left _ (List.mem_of_getElem? (i := 16) (by decide +kernel)), by decide +kernel⟩
theorem wd_350 : Cond.code yX3_wordBehind cX3_wordBehind 6 (some .int) ∈ AW := List.mem_filter.mpr ⟨List.mem_append_right _ (List.mem_of_getElem? (i := 845) (by decide +kernel)), by decide +kernel⟩
theorem wd_351 : Cond.methodLink RX3 135 yX0_copyWords ∈ AW := List.mem_filter.mpr ⟨List.mem_append_right _ (List.mem_of_getElem? (i := 871) (by decide +kernel)), by decide +kernel⟩
theorem wd_352 : Cond.methodLink RX3 132 yX3_rowWord ∈ AW := List.mem_filter.mpr ⟨List.mem_append_right _ (List.mem_of_getElem? (i := 867) (by decide +kernel)), by decide +kernel⟩
theorem wd_353 : Cond.instanceMethod yX3_rowWord ∈ AW := List.mem_filter.mpr ⟨List.mem_append_right _ (List.mem_of_getElem? (i := 869) (by decide +kernel)), by decide +kernel⟩
theorem wd_354 : Cond.selects RX3 yX3_rowWord yX3_rowWord ∈ AW := List.mem_filter.mpr ⟨List.mem_append_left _ (List.mem_of_getElem? (i := 18) (by decide +kernel)), by decide +kernel⟩
theorem wd_355 : Cond.code yX3_rowWord cX3_rowWord 2 (some .int) ∈ AW := List.mem_filter.mpr ⟨List.mem_append_right _ (List.mem_of_getElem? (i := 870) (by decide +kernel)), by decide +kernel⟩
theorem wd_356 : Cond.methodLink RX3 129 yX3_needWords ∈ AW := List.mem_filter.mpr ⟨List.mem_append_right _ (List.mem_of_getElem? (i := 862) (by decide +kernel)), by decide +kernel⟩
theorem wd_357 : Cond.instanceMethod yX3_needWords ∈ AW := List.mem_filter.mpr ⟨List.mem_append_right _ (List.mem_of_getElem? (i := 864) (by decide +kernel)), by decide +kernel⟩
theorem wd_358 : Cond.selects RX3 yX3_needWords yX3_needWords ∈ AW := List.mem_filter.mpr ⟨List.mem_append_left _ (List.mem_of_getElem? (i := 17) (by decide +kernel)), by decide +kernel⟩
theorem wd_359 : Cond.code yX3_needWords cX3_needWords 3 none ∈ AW := List.mem_filter.mpr ⟨List.mem_append_right _ (List.mem_of_getElem? (i := 865) (by decide +kernel)), by decide +kernel⟩
theorem wd_360 : Cond.methodLink RX3 231 yX1_entryWords ∈ AW := List.mem_filter.mpr ⟨List.mem_append_right _ (List.mem_of_getElem? (i := 888) (by decide +kernel)), by decide +kernel⟩
theorem wd_361 : Cond.methodLink RX3 156 yX3_mapIn ∈ AW := List.mem_filter.mpr ⟨List.mem_append_right _ (List.mem_of_getElem? (i := 883) (by decide +kernel)), by decide +kernel⟩
theorem wd_362 : Cond.instanceMethod yX3_mapIn ∈ AW := List.mem_filter.mpr ⟨List.mem_append_right _ (List.mem_of_getElem? (i := 885) (by decide +kernel)), by decide +kernel⟩
theorem wd_363 : Cond.selects RX3 yX3_mapIn yX3_mapIn ∈ AW := List.mem_filter.mpr ⟨List.mem_append_left _ (List.mem_of_getElem? (i := 20) (by decide +kernel)), by decide +kernel⟩
theorem wd_364 : Cond.code yX3_mapIn cX3_mapIn 2 (some .int) ∈ AW := List.mem_filter.mpr ⟨List.mem_append_right _ (List.mem_of_getElem? (i := 886) (by decide +kernel)), by decide +kernel⟩
theorem wd_365 : Cond.methodLink RX3 234 yX1_hasTextualKey ∈ AW := List.mem_filter.mpr ⟨List.mem_append_right _ (List.mem_of_getElem? (i := 896) (by decide +kernel)), by decide +kernel⟩
theorem wd_366 : Cond.instanceMethod yX1_hasTextualKey ∈ AW := List.mem_filter.mpr ⟨List.mem_append_right _ (List.mem_of_getElem? (i := 897) (by decide +kernel)), by decide +kernel⟩
theorem wd_367 : Cond.selects RX1 yX1_hasTextualKey yX1_hasTextualKey ∈ AW := List.mem_filter.mpr ⟨List.mem_append_right _ (List.mem_of_getElem? (i := 898) (by decide +kernel)), by decide +kernel⟩
theorem wd_368 : Cond.code yX1_hasTextualKey cX1_hasTextualKey 5 (some .boolean) ∈ AW := List.mem_filter.mpr ⟨List.mem_append_right _ (List.mem_of_getElem? (i := 899) (by decide +kernel)), by decide +kernel⟩
theorem wd_369 : Cond.methodLink RX3 147 yX1_enter ∈ AW := List.mem_filter.mpr ⟨List.mem_append_right _ (List.mem_of_getElem? (i := 910) (by decide +kernel)), by decide +kernel⟩
theorem wd_370 : Cond.instanceMethod yX1_enter ∈ AW := List.mem_filter.mpr ⟨List.mem_append_right _ (List.mem_of_getElem? (i := 911) (by decide +kernel)), by decide +kernel⟩
theorem wd_371 : Cond.selects RX1 yX1_enter yX1_enter ∈ AW := List.mem_filter.mpr ⟨List.mem_append_right _ (List.mem_of_getElem? (i := 912) (by decide +kernel)), by decide +kernel⟩
theorem wd_372 : Cond.code yX1_enter cX1_enter 6 (some .int) ∈ AW := List.mem_filter.mpr ⟨List.mem_append_right _ (List.mem_of_getElem? (i := 913) (by decide +kernel)), by decide +kernel⟩
theorem wd_373 : Cond.methodLink RX3 141 yX3_needTextualKey ∈ AW := List.mem_filter.mpr ⟨List.mem_append_right _ (List.mem_of_getElem? (i := 892) (by decide +kernel)), by decide +kernel⟩
theorem wd_374 : Cond.instanceMethod yX3_needTextualKey ∈ AW := List.mem_filter.mpr ⟨List.mem_append_right _ (List.mem_of_getElem? (i := 894) (by decide +kernel)), by decide +kernel⟩
theorem wd_375 : Cond.selects RX3 yX3_needTextualKey yX3_needTextualKey ∈ AW := List.mem_filter.mpr ⟨List.mem_append_left _ (List.mem_of_getElem? (i := 21) (by decide +kernel)), by decide +kernel⟩
theorem wd_376 : Cond.code yX3_needTextualKey cX3_needTextualKey 3 none ∈ AW := List.mem_filter.mpr ⟨List.mem_append_right _ (List.mem_of_getElem? (i := 895) (by decide +kernel)), by decide +kernel⟩
theorem wd_377 : Cond.methodLink RX3 138 yX3_needMapAndWords ∈ AW := List.mem_filter.mpr ⟨List.mem_append_right _ (List.mem_of_getElem? (i := 879) (by decide +kernel)), by decide +kernel⟩
theorem wd_378 : Cond.instanceMethod yX3_needMapAndWords ∈ AW := List.mem_filter.mpr ⟨List.mem_append_right _ (List.mem_of_getElem? (i := 881) (by decide +kernel)), by decide +kernel⟩
theorem wd_379 : Cond.selects RX3 yX3_needMapAndWords yX3_needMapAndWords ∈ AW := List.mem_filter.mpr ⟨List.mem_append_left _ (List.mem_of_getElem? (i := 19) (by decide +kernel)), by decide +kernel⟩
theorem wd_380 : Cond.code yX3_needMapAndWords cX3_needMapAndWords 4 none ∈ AW := List.mem_filter.mpr ⟨List.mem_append_right _ (List.mem_of_getElem? (i := 882) (by decide +kernel)), by decide +kernel⟩
theorem wd_381 : Cond.methodLink RX3 150 yX1_fetch ∈ AW := List.mem_filter.mpr ⟨List.mem_append_right _ (List.mem_of_getElem? (i := 990) (by decide +kernel)), by decide +kernel⟩
theorem wd_382 : Cond.instanceMethod yX1_fetch ∈ AW := List.mem_filter.mpr ⟨List.mem_append_right _ (List.mem_of_getElem? (i := 991) (by decide +kernel)), by decide +kernel⟩
theorem wd_383 : Cond.selects RX1 yX1_fetch yX1_fetch ∈ AW := List.mem_filter.mpr ⟨List.mem_append_right _ (List.mem_of_getElem? (i := 992) (by decide +kernel)), by decide +kernel⟩
theorem wd_384 : Cond.code yX1_fetch cX1_fetch 5 (some .int) ∈ AW := List.mem_filter.mpr ⟨List.mem_append_right _ (List.mem_of_getElem? (i := 993) (by decide +kernel)), by decide +kernel⟩
theorem wd_385 : Cond.methodLink RX3 153 yX1_erase ∈ AW := List.mem_filter.mpr ⟨List.mem_append_right _ (List.mem_of_getElem? (i := 1001) (by decide +kernel)), by decide +kernel⟩
theorem wd_386 : Cond.instanceMethod yX1_erase ∈ AW := List.mem_filter.mpr ⟨List.mem_append_right _ (List.mem_of_getElem? (i := 1002) (by decide +kernel)), by decide +kernel⟩
theorem wd_387 : Cond.selects RX1 yX1_erase yX1_erase ∈ AW := List.mem_filter.mpr ⟨List.mem_append_right _ (List.mem_of_getElem? (i := 1003) (by decide +kernel)), by decide +kernel⟩
theorem wd_388 : Cond.code yX1_erase cX1_erase 5 (some .int) ∈ AW := List.mem_filter.mpr ⟨List.mem_append_right _ (List.mem_of_getElem? (i := 1004) (by decide +kernel)), by decide +kernel⟩
theorem wd_389 : Cond.methodLink RX3 162 yX1_orderIn ∈ AW := List.mem_filter.mpr ⟨List.mem_append_right _ (List.mem_of_getElem? (i := 1017) (by decide +kernel)), by decide +kernel⟩
theorem wd_390 : Cond.methodLink RX3 159 yX1_slotFrom ∈ AW := List.mem_filter.mpr ⟨List.mem_append_right _ (List.mem_of_getElem? (i := 1013) (by decide +kernel)), by decide +kernel⟩
theorem wd_391 : Cond.instanceMethod yX1_slotFrom ∈ AW := List.mem_filter.mpr ⟨List.mem_append_right _ (List.mem_of_getElem? (i := 1014) (by decide +kernel)), by decide +kernel⟩
theorem wd_392 : Cond.selects RX1 yX1_slotFrom yX1_slotFrom ∈ AW := List.mem_filter.mpr ⟨List.mem_append_right _ (List.mem_of_getElem? (i := 1015) (by decide +kernel)), by decide +kernel⟩
theorem wd_393 : Cond.code yX1_slotFrom cX1_slotFrom 6 (some .int) ∈ AW := List.mem_filter.mpr ⟨List.mem_append_right _ (List.mem_of_getElem? (i := 1016) (by decide +kernel)), by decide +kernel⟩
theorem wd_394 : Cond.classLink RX3 165 "java/util/NoSuchElementException" ∈ AW := List.mem_filter.mpr ⟨List.mem_append_right _ (List.mem_of_getElem? (i := 1026) (by decide +kernel)), by decide +kernel⟩
theorem wd_395 : Cond.initialized "java/util/NoSuchElementException" ∈ AW := List.mem_filter.mpr ⟨List.mem_append_right _ (List.mem_of_getElem? (i := 26) (by decide +kernel)), by decide +kernel⟩
theorem wd_396 : Cond.methodLink RX3 170 yX1_readEntry ∈ AW := List.mem_filter.mpr ⟨List.mem_append_right _ (List.mem_of_getElem? (i := 1042) (by decide +kernel)), by decide +kernel⟩
theorem wd_397 : Cond.instanceMethod yX1_readEntry ∈ AW := List.mem_filter.mpr ⟨List.mem_append_right _ (List.mem_of_getElem? (i := 1043) (by decide +kernel)), by decide +kernel⟩
theorem wd_398 : Cond.selects RX1 yX1_readEntry yX1_readEntry ∈ AW := List.mem_filter.mpr ⟨List.mem_append_right _ (List.mem_of_getElem? (i := 1044) (by decide +kernel)), by decide +kernel⟩
theorem wd_399 : Cond.code yX1_readEntry cX1_readEntry 4 none ∈ AW := List.mem_filter.mpr ⟨List.mem_append_right _ (List.mem_of_getElem? (i := 1045) (by decide +kernel)), by decide +kernel⟩
theorem wd_400 : Cond.methodLink RX3 173 yX0_collection ∈ AW := List.mem_filter.mpr ⟨List.mem_append_right _ (List.mem_of_getElem? (i := 132) (by decide +kernel)), by decide +kernel⟩
theorem wd_401 : Cond.methodLink RX3 177 yX0_setEager ∈ AW := List.mem_filter.mpr ⟨List.mem_append_right _ (List.mem_of_getElem? (i := 182) (by decide +kernel)), by decide +kernel⟩
theorem wd_402 : Cond.instanceMethod yX0_setEager ∈ AW := List.mem_filter.mpr ⟨List.mem_append_right _ (List.mem_of_getElem? (i := 183) (by decide +kernel)), by decide +kernel⟩
theorem wd_403 : Cond.selects RX0 yX0_setEager yX0_setEager ∈ AW := List.mem_filter.mpr ⟨List.mem_append_right _ (List.mem_of_getElem? (i := 184) (by decide +kernel)), by decide +kernel⟩
theorem wd_404 : Cond.code yX0_setEager cX0_setEager 2 none ∈ AW := List.mem_filter.mpr ⟨List.mem_append_right _ (List.mem_of_getElem? (i := 185) (by decide +kernel)), by decide +kernel⟩
theorem wd_405 : Cond.methodLink RX3 187 yX1_entries ∈ AW := List.mem_filter.mpr ⟨List.mem_append_right _ (List.mem_of_getElem? (i := 1053) (by decide +kernel)), by decide +kernel⟩
theorem wd_406 : Cond.methodLink RX3 190 yX1_capacity ∈ AW := List.mem_filter.mpr ⟨List.mem_append_right _ (List.mem_of_getElem? (i := 1054) (by decide +kernel)), by decide +kernel⟩
theorem wd_407 : Cond.methodLink RX3 198 yX0_bitsAt ∈ AW := List.mem_filter.mpr ⟨List.mem_append_right _ (List.mem_of_getElem? (i := 1067) (by decide +kernel)), by decide +kernel⟩
theorem wd_408 : Cond.methodLink RX3 193 yX0_isReference ∈ AW := List.mem_filter.mpr ⟨List.mem_append_right _ (List.mem_of_getElem? (i := 1062) (by decide +kernel)), by decide +kernel⟩
theorem wd_409 : Cond.instanceMethod yX0_isReference ∈ AW := List.mem_filter.mpr ⟨List.mem_append_right _ (List.mem_of_getElem? (i := 1063) (by decide +kernel)), by decide +kernel⟩
theorem wd_410 : Cond.selects RX0 yX0_isReference yX0_isReference ∈ AW := List.mem_filter.mpr ⟨List.mem_append_right _ (List.mem_of_getElem? (i := 1064) (by decide +kernel)), by decide +kernel⟩
theorem wd_411 : Cond.code yX0_isReference cX0_isReference 2 (some .boolean) ∈ AW := List.mem_filter.mpr ⟨List.mem_append_right _ (List.mem_of_getElem? (i := 1065) (by decide +kernel)), by decide +kernel⟩
theorem wd_412 : Cond.methodLink RX3 202 yX0_sameWords ∈ AW := List.mem_filter.mpr ⟨List.mem_append_right _ (List.mem_of_getElem? (i := 1075) (by decide +kernel)), by decide +kernel⟩
theorem wd_413 : Cond.methodLink RX3 206 yX0_count ∈ AW := List.mem_filter.mpr ⟨List.mem_append_right _ (List.mem_of_getElem? (i := 1083) (by decide +kernel)), by decide +kernel⟩
theorem wd_414 : Cond.instanceMethod yX0_count ∈ AW := List.mem_filter.mpr ⟨List.mem_append_right _ (List.mem_of_getElem? (i := 1084) (by decide +kernel)), by decide +kernel⟩
theorem wd_415 : Cond.selects RX0 yX0_count yX0_count ∈ AW := List.mem_filter.mpr ⟨List.mem_append_right _ (List.mem_of_getElem? (i := 1085) (by decide +kernel)), by decide +kernel⟩
theorem wd_416 : Cond.code yX0_count cX0_count 2 (some .int) ∈ AW := List.mem_filter.mpr ⟨List.mem_append_right _ (List.mem_of_getElem? (i := 1086) (by decide +kernel)), by decide +kernel⟩
theorem wd_417 : Cond.methodLink "java/util/Arrays" 304 Lib.Math.min.name ∈ AW := List.mem_filter.mpr ⟨List.mem_append_right _ (List.mem_of_getElem? (i := 361) (by decide +kernel)), by decide +kernel⟩
theorem wd_418 : Cond.methodLink "java/util/Arrays" 150 arraycopyName ∈ AW := List.mem_filter.mpr ⟨List.mem_append_right _ (List.mem_of_getElem? (i := 362) (by decide +kernel)), by decide +kernel⟩
theorem hdS_X0_kindIn : yX0_kindIn.cls = RX0 ∧ yX0_kindIn.cls ≠ "java/lang/invoke/MethodHandle" ∧ yX0_kindIn.cls ≠ "java/lang/invoke/VarHandle" ∧ (parseMethodDescriptor yX0_kindIn.desc).map (fun d => d.parameters.length) = some 1 := by decide +kernel
theorem hdV_X0_header : yX0_header.cls = RX0 ∧ yX0_header.cls ≠ "java/lang/invoke/MethodHandle" ∧ yX0_header.cls ≠ "java/lang/invoke/VarHandle" ∧ (parseMethodDescriptor yX0_header.desc).map (fun d => d.parameters.length) = some 1 := by decide +kernel
theorem hdV_X0_handleAt : yX0_handleAt.cls = RX0 ∧ yX0_handleAt.cls ≠ "java/lang/invoke/MethodHandle" ∧ yX0_handleAt.cls ≠ "java/lang/invoke/VarHandle" ∧ (parseMethodDescriptor yX0_handleAt.desc).map (fun d => d.parameters.length) = some 1 := by decide +kernel
theorem hdS_JA_rangeCheck : yJA_rangeCheck.cls = "java/util/Arrays" ∧ yJA_rangeCheck.cls ≠ "java/lang/invoke/MethodHandle" ∧ yJA_rangeCheck.cls ≠ "java/lang/invoke/VarHandle" ∧ (parseMethodDescriptor yJA_rangeCheck.desc).map (fun d => d.parameters.length) = some 3 := by decide +kernel
theorem hdU_JA_fill : yJA_fill.cls ≠ "java/lang/invoke/MethodHandle" ∧ yJA_fill.cls ≠ "java/lang/invoke/VarHandle" ∧ (parseMethodDescriptor yJA_fill.desc).map (fun d => d.parameters.length) = some 4 := by decide +kernel
theorem hdS_X0_lengthIn : yX0_lengthIn.cls = RX0 ∧ yX0_lengthIn.cls ≠ "java/lang/invoke/MethodHandle" ∧ yX0_lengthIn.cls ≠ "java/lang/invoke/VarHandle" ∧ (parseMethodDescriptor yX0_lengthIn.desc).map (fun d => d.parameters.length) = some 1 := by decide +kernel
theorem hdV_X0_used : yX0_used.cls = RX0 ∧ yX0_used.cls ≠ "java/lang/invoke/MethodHandle" ∧ yX0_used.cls ≠ "java/lang/invoke/VarHandle" ∧ (parseMethodDescriptor yX0_used.desc).map (fun d => d.parameters.length) = some 0 := by decide +kernel
theorem hdV_X0_copyWords : yX0_copyWords.cls = RX0 ∧ yX0_copyWords.cls ≠ "java/lang/invoke/MethodHandle" ∧ yX0_copyWords.cls ≠ "java/lang/invoke/VarHandle" ∧ (parseMethodDescriptor yX0_copyWords.desc).map (fun d => d.parameters.length) = some 3 := by decide +kernel
theorem hdS_X0_sizeOf : yX0_sizeOf.cls = RX0 ∧ yX0_sizeOf.cls ≠ "java/lang/invoke/MethodHandle" ∧ yX0_sizeOf.cls ≠ "java/lang/invoke/VarHandle" ∧ (parseMethodDescriptor yX0_sizeOf.desc).map (fun d => d.parameters.length) = some 2 := by decide +kernel
theorem hdV_X0_reachFrom : yX0_reachFrom.cls = RX0 ∧ yX0_reachFrom.cls ≠ "java/lang/invoke/MethodHandle" ∧ yX0_reachFrom.cls ≠ "java/lang/invoke/VarHandle" ∧ (parseMethodDescriptor yX0_reachFrom.desc).map (fun d => d.parameters.length) = some 2 := by decide +kernel
theorem hdV_X0_length : yX0_length.cls = RX0 ∧ yX0_length.cls ≠ "java/lang/invoke/MethodHandle" ∧ yX0_length.cls ≠ "java/lang/invoke/VarHandle" ∧ (parseMethodDescriptor yX0_length.desc).map (fun d => d.parameters.length) = some 1 := by decide +kernel
theorem hdV_X0_first : yX0_first.cls = RX0 ∧ yX0_first.cls ≠ "java/lang/invoke/MethodHandle" ∧ yX0_first.cls ≠ "java/lang/invoke/VarHandle" ∧ (parseMethodDescriptor yX0_first.desc).map (fun d => d.parameters.length) = some 1 := by decide +kernel
theorem hdV_X0_moveTogether : yX0_moveTogether.cls = RX0 ∧ yX0_moveTogether.cls ≠ "java/lang/invoke/MethodHandle" ∧ yX0_moveTogether.cls ≠ "java/lang/invoke/VarHandle" ∧ (parseMethodDescriptor yX0_moveTogether.desc).map (fun d => d.parameters.length) = some 0 := by decide +kernel
theorem hdV_X0_collection : yX0_collection.cls = RX0 ∧ yX0_collection.cls ≠ "java/lang/invoke/MethodHandle" ∧ yX0_collection.cls ≠ "java/lang/invoke/VarHandle" ∧ (parseMethodDescriptor yX0_collection.desc).map (fun d => d.parameters.length) = some 0 := by decide +kernel
theorem hdU_JA_copyOf : yJA_copyOf.cls ≠ "java/lang/invoke/MethodHandle" ∧ yJA_copyOf.cls ≠ "java/lang/invoke/VarHandle" ∧ (parseMethodDescriptor yJA_copyOf.desc).map (fun d => d.parameters.length) = some 2 := by decide +kernel
theorem hdV_X0_extendHandles : yX0_extendHandles.cls = RX0 ∧ yX0_extendHandles.cls ≠ "java/lang/invoke/MethodHandle" ∧ yX0_extendHandles.cls ≠ "java/lang/invoke/VarHandle" ∧ (parseMethodDescriptor yX0_extendHandles.desc).map (fun d => d.parameters.length) = some 0 := by decide +kernel
theorem hdV_X0_clearWords : yX0_clearWords.cls = RX0 ∧ yX0_clearWords.cls ≠ "java/lang/invoke/MethodHandle" ∧ yX0_clearWords.cls ≠ "java/lang/invoke/VarHandle" ∧ (parseMethodDescriptor yX0_clearWords.desc).map (fun d => d.parameters.length) = some 2 := by decide +kernel
theorem hdV_X0_extendWords : yX0_extendWords.cls = RX0 ∧ yX0_extendWords.cls ≠ "java/lang/invoke/MethodHandle" ∧ yX0_extendWords.cls ≠ "java/lang/invoke/VarHandle" ∧ (parseMethodDescriptor yX0_extendWords.desc).map (fun d => d.parameters.length) = some 1 := by decide +kernel
theorem hdV_X0_newHandle : yX0_newHandle.cls = RX0 ∧ yX0_newHandle.cls ≠ "java/lang/invoke/MethodHandle" ∧ yX0_newHandle.cls ≠ "java/lang/invoke/VarHandle" ∧ (parseMethodDescriptor yX0_newHandle.desc).map (fun d => d.parameters.length) = some 0 := by decide +kernel
theorem hdV_X0_place : yX0_place.cls = RX0 ∧ yX0_place.cls ≠ "java/lang/invoke/MethodHandle" ∧ yX0_place.cls ≠ "java/lang/invoke/VarHandle" ∧ (parseMethodDescriptor yX0_place.desc).map (fun d => d.parameters.length) = some 2 := by decide +kernel
theorem hdV_X0_needRoom : yX0_needRoom.cls = RX0 ∧ yX0_needRoom.cls ≠ "java/lang/invoke/MethodHandle" ∧ yX0_needRoom.cls ≠ "java/lang/invoke/VarHandle" ∧ (parseMethodDescriptor yX0_needRoom.desc).map (fun d => d.parameters.length) = some 1 := by decide +kernel
theorem hdU_X0_sizeOf : yX0_sizeOf.cls ≠ "java/lang/invoke/MethodHandle" ∧ yX0_sizeOf.cls ≠ "java/lang/invoke/VarHandle" ∧ (parseMethodDescriptor yX0_sizeOf.desc).map (fun d => d.parameters.length) = some 2 := by decide +kernel
theorem hdS_X2_shiftOf : yX2_shiftOf.cls = RX2 ∧ yX2_shiftOf.cls ≠ "java/lang/invoke/MethodHandle" ∧ yX2_shiftOf.cls ≠ "java/lang/invoke/VarHandle" ∧ (parseMethodDescriptor yX2_shiftOf.desc).map (fun d => d.parameters.length) = some 1 := by decide +kernel
theorem hdV_X0_bitsAt : yX0_bitsAt.cls = RX0 ∧ yX0_bitsAt.cls ≠ "java/lang/invoke/MethodHandle" ∧ yX0_bitsAt.cls ≠ "java/lang/invoke/VarHandle" ∧ (parseMethodDescriptor yX0_bitsAt.desc).map (fun d => d.parameters.length) = some 1 := by decide +kernel
theorem hdV_X0_setNumber : yX0_setNumber.cls = RX0 ∧ yX0_setNumber.cls ≠ "java/lang/invoke/MethodHandle" ∧ yX0_setNumber.cls ≠ "java/lang/invoke/VarHandle" ∧ (parseMethodDescriptor yX0_setNumber.desc).map (fun d => d.parameters.length) = some 2 := by decide +kernel
theorem hdS_X2_wordsFor : yX2_wordsFor.cls = RX2 ∧ yX2_wordsFor.cls ≠ "java/lang/invoke/MethodHandle" ∧ yX2_wordsFor.cls ≠ "java/lang/invoke/VarHandle" ∧ (parseMethodDescriptor yX2_wordsFor.desc).map (fun d => d.parameters.length) = some 1 := by decide +kernel
theorem hdU_JI_compare : yJI_compare.cls ≠ "java/lang/invoke/MethodHandle" ∧ yJI_compare.cls ≠ "java/lang/invoke/VarHandle" ∧ (parseMethodDescriptor yJI_compare.desc).map (fun d => d.parameters.length) = some 2 := by decide +kernel
theorem hdU_JL_compare : yJL_compare.cls ≠ "java/lang/invoke/MethodHandle" ∧ yJL_compare.cls ≠ "java/lang/invoke/VarHandle" ∧ (parseMethodDescriptor yJL_compare.desc).map (fun d => d.parameters.length) = some 2 := by decide +kernel
theorem hdV_X2_wordOf : yX2_wordOf.cls = RX2 ∧ yX2_wordOf.cls ≠ "java/lang/invoke/MethodHandle" ∧ yX2_wordOf.cls ≠ "java/lang/invoke/VarHandle" ∧ (parseMethodDescriptor yX2_wordOf.desc).map (fun d => d.parameters.length) = some 2 := by decide +kernel
theorem hdV_X0_claim : yX0_claim.cls = RX0 ∧ yX0_claim.cls ≠ "java/lang/invoke/MethodHandle" ∧ yX0_claim.cls ≠ "java/lang/invoke/VarHandle" ∧ (parseMethodDescriptor yX0_claim.desc).map (fun d => d.parameters.length) = some 2 := by decide +kernel
theorem hdV_X2_eightFrom : yX2_eightFrom.cls = RX2 ∧ yX2_eightFrom.cls ≠ "java/lang/invoke/MethodHandle" ∧ yX2_eightFrom.cls ≠ "java/lang/invoke/VarHandle" ∧ (parseMethodDescriptor yX2_eightFrom.desc).map (fun d => d.parameters.length) = some 2 := by decide +kernel
theorem hdV_X1_setField : yX1_setField.cls = RX1 ∧ yX1_setField.cls ≠ "java/lang/invoke/MethodHandle" ∧ yX1_setField.cls ≠ "java/lang/invoke/VarHandle" ∧ (parseMethodDescriptor yX1_setField.desc).map (fun d => d.parameters.length) = some 3 := by decide +kernel
theorem hdV_X1_field : yX1_field.cls = RX1 ∧ yX1_field.cls ≠ "java/lang/invoke/MethodHandle" ∧ yX1_field.cls ≠ "java/lang/invoke/VarHandle" ∧ (parseMethodDescriptor yX1_field.desc).map (fun d => d.parameters.length) = some 2 := by decide +kernel
theorem hdV_X0_setReference : yX0_setReference.cls = RX0 ∧ yX0_setReference.cls ≠ "java/lang/invoke/MethodHandle" ∧ yX0_setReference.cls ≠ "java/lang/invoke/VarHandle" ∧ (parseMethodDescriptor yX0_setReference.desc).map (fun d => d.parameters.length) = some 3 := by decide +kernel
theorem hdV_X1_useTable : yX1_useTable.cls = RX1 ∧ yX1_useTable.cls ≠ "java/lang/invoke/MethodHandle" ∧ yX1_useTable.cls ≠ "java/lang/invoke/VarHandle" ∧ (parseMethodDescriptor yX1_useTable.desc).map (fun d => d.parameters.length) = some 3 := by decide +kernel
theorem hdV_X1_isTextual : yX1_isTextual.cls = RX1 ∧ yX1_isTextual.cls ≠ "java/lang/invoke/MethodHandle" ∧ yX1_isTextual.cls ≠ "java/lang/invoke/VarHandle" ∧ (parseMethodDescriptor yX1_isTextual.desc).map (fun d => d.parameters.length) = some 2 := by decide +kernel
theorem hdV_X0_kindAt : yX0_kindAt.cls = RX0 ∧ yX0_kindAt.cls ≠ "java/lang/invoke/MethodHandle" ∧ yX0_kindAt.cls ≠ "java/lang/invoke/VarHandle" ∧ (parseMethodDescriptor yX0_kindAt.desc).map (fun d => d.parameters.length) = some 1 := by decide +kernel
theorem hdV_X1_keyWords : yX1_keyWords.cls = RX1 ∧ yX1_keyWords.cls ≠ "java/lang/invoke/MethodHandle" ∧ yX1_keyWords.cls ≠ "java/lang/invoke/VarHandle" ∧ (parseMethodDescriptor yX1_keyWords.desc).map (fun d => d.parameters.length) = some 1 := by decide +kernel
theorem hdV_X1_entryWords : yX1_entryWords.cls = RX1 ∧ yX1_entryWords.cls ≠ "java/lang/invoke/MethodHandle" ∧ yX1_entryWords.cls ≠ "java/lang/invoke/VarHandle" ∧ (parseMethodDescriptor yX1_entryWords.desc).map (fun d => d.parameters.length) = some 1 := by decide +kernel
theorem hdV_X1_slotsStart : yX1_slotsStart.cls = RX1 ∧ yX1_slotsStart.cls ≠ "java/lang/invoke/MethodHandle" ∧ yX1_slotsStart.cls ≠ "java/lang/invoke/VarHandle" ∧ (parseMethodDescriptor yX1_slotsStart.desc).map (fun d => d.parameters.length) = some 1 := by decide +kernel
theorem hdV_X0_sameWords : yX0_sameWords.cls = RX0 ∧ yX0_sameWords.cls ≠ "java/lang/invoke/MethodHandle" ∧ yX0_sameWords.cls ≠ "java/lang/invoke/VarHandle" ∧ (parseMethodDescriptor yX0_sameWords.desc).map (fun d => d.parameters.length) = some 2 := by decide +kernel
theorem hdV_X2_alike : yX2_alike.cls = RX2 ∧ yX2_alike.cls ≠ "java/lang/invoke/MethodHandle" ∧ yX2_alike.cls ≠ "java/lang/invoke/VarHandle" ∧ (parseMethodDescriptor yX2_alike.desc).map (fun d => d.parameters.length) = some 2 := by decide +kernel
theorem hdV_X1_slotsEnd : yX1_slotsEnd.cls = RX1 ∧ yX1_slotsEnd.cls ≠ "java/lang/invoke/MethodHandle" ∧ yX1_slotsEnd.cls ≠ "java/lang/invoke/VarHandle" ∧ (parseMethodDescriptor yX1_slotsEnd.desc).map (fun d => d.parameters.length) = some 2 := by decide +kernel
theorem hdV_X1_slotWords : yX1_slotWords.cls = RX1 ∧ yX1_slotWords.cls ≠ "java/lang/invoke/MethodHandle" ∧ yX1_slotWords.cls ≠ "java/lang/invoke/VarHandle" ∧ (parseMethodDescriptor yX1_slotWords.desc).map (fun d => d.parameters.length) = some 1 := by decide +kernel
theorem hdV_X1_alikeKeys : yX1_alikeKeys.cls = RX1 ∧ yX1_alikeKeys.cls ≠ "java/lang/invoke/MethodHandle" ∧ yX1_alikeKeys.cls ≠ "java/lang/invoke/VarHandle" ∧ (parseMethodDescriptor yX1_alikeKeys.desc).map (fun d => d.parameters.length) = some 3 := by decide +kernel
theorem hdV_X1_orderIn : yX1_orderIn.cls = RX1 ∧ yX1_orderIn.cls ≠ "java/lang/invoke/MethodHandle" ∧ yX1_orderIn.cls ≠ "java/lang/invoke/VarHandle" ∧ (parseMethodDescriptor yX1_orderIn.desc).map (fun d => d.parameters.length) = some 1 := by decide +kernel
theorem hdV_X1_entries : yX1_entries.cls = RX1 ∧ yX1_entries.cls ≠ "java/lang/invoke/MethodHandle" ∧ yX1_entries.cls ≠ "java/lang/invoke/VarHandle" ∧ (parseMethodDescriptor yX1_entries.desc).map (fun d => d.parameters.length) = some 1 := by decide +kernel
theorem hdV_X1_capacity : yX1_capacity.cls = RX1 ∧ yX1_capacity.cls ≠ "java/lang/invoke/MethodHandle" ∧ yX1_capacity.cls ≠ "java/lang/invoke/VarHandle" ∧ (parseMethodDescriptor yX1_capacity.desc).map (fun d => d.parameters.length) = some 1 := by decide +kernel
theorem hdV_X0_freeze : yX0_freeze.cls = RX0 ∧ yX0_freeze.cls ≠ "java/lang/invoke/MethodHandle" ∧ yX0_freeze.cls ≠ "java/lang/invoke/VarHandle" ∧ (parseMethodDescriptor yX0_freeze.desc).map (fun d => d.parameters.length) = some 1 := by decide +kernel
theorem hdV_X1_freezeTexts : yX1_freezeTexts.cls = RX1 ∧ yX1_freezeTexts.cls ≠ "java/lang/invoke/MethodHandle" ∧ yX1_freezeTexts.cls ≠ "java/lang/invoke/VarHandle" ∧ (parseMethodDescriptor yX1_freezeTexts.desc).map (fun d => d.parameters.length) = some 2 := by decide +kernel
theorem hdV_X1_append : yX1_append.cls = RX1 ∧ yX1_append.cls ≠ "java/lang/invoke/MethodHandle" ∧ yX1_append.cls ≠ "java/lang/invoke/VarHandle" ∧ (parseMethodDescriptor yX1_append.desc).map (fun d => d.parameters.length) = some 2 := by decide +kernel
theorem hdV_X1_moveEntries : yX1_moveEntries.cls = RX1 ∧ yX1_moveEntries.cls ≠ "java/lang/invoke/MethodHandle" ∧ yX1_moveEntries.cls ≠ "java/lang/invoke/VarHandle" ∧ (parseMethodDescriptor yX1_moveEntries.desc).map (fun d => d.parameters.length) = some 3 := by decide +kernel
theorem hdV_X1_nextCapacity : yX1_nextCapacity.cls = RX1 ∧ yX1_nextCapacity.cls ≠ "java/lang/invoke/MethodHandle" ∧ yX1_nextCapacity.cls ≠ "java/lang/invoke/VarHandle" ∧ (parseMethodDescriptor yX1_nextCapacity.desc).map (fun d => d.parameters.length) = some 1 := by decide +kernel
theorem hdV_X1_valueWords : yX1_valueWords.cls = RX1 ∧ yX1_valueWords.cls ≠ "java/lang/invoke/MethodHandle" ∧ yX1_valueWords.cls ≠ "java/lang/invoke/VarHandle" ∧ (parseMethodDescriptor yX1_valueWords.desc).map (fun d => d.parameters.length) = some 1 := by decide +kernel
theorem hdV_X1_slotOfKey : yX1_slotOfKey.cls = RX1 ∧ yX1_slotOfKey.cls ≠ "java/lang/invoke/MethodHandle" ∧ yX1_slotOfKey.cls ≠ "java/lang/invoke/VarHandle" ∧ (parseMethodDescriptor yX1_slotOfKey.desc).map (fun d => d.parameters.length) = some 2 := by decide +kernel
theorem hdS_X3_needRegister : yX3_needRegister.cls = RX3 ∧ yX3_needRegister.cls ≠ "java/lang/invoke/MethodHandle" ∧ yX3_needRegister.cls ≠ "java/lang/invoke/VarHandle" ∧ (parseMethodDescriptor yX3_needRegister.desc).map (fun d => d.parameters.length) = some 1 := by decide +kernel
theorem hdV_X0_setWord : yX0_setWord.cls = RX0 ∧ yX0_setWord.cls ≠ "java/lang/invoke/MethodHandle" ∧ yX0_setWord.cls ≠ "java/lang/invoke/VarHandle" ∧ (parseMethodDescriptor yX0_setWord.desc).map (fun d => d.parameters.length) = some 2 := by decide +kernel
theorem hdV_X0_serial : yX0_serial.cls = RX0 ∧ yX0_serial.cls ≠ "java/lang/invoke/MethodHandle" ∧ yX0_serial.cls ≠ "java/lang/invoke/VarHandle" ∧ (parseMethodDescriptor yX0_serial.desc).map (fun d => d.parameters.length) = some 1 := by decide +kernel
theorem hdV_X3_hold : yX3_hold.cls = RX3 ∧ yX3_hold.cls ≠ "java/lang/invoke/MethodHandle" ∧ yX3_hold.cls ≠ "java/lang/invoke/VarHandle" ∧ (parseMethodDescriptor yX3_hold.desc).map (fun d => d.parameters.length) = some 2 := by decide +kernel
theorem hdS_X3_needWithin : yX3_needWithin.cls = RX3 ∧ yX3_needWithin.cls ≠ "java/lang/invoke/MethodHandle" ∧ yX3_needWithin.cls ≠ "java/lang/invoke/VarHandle" ∧ (parseMethodDescriptor yX3_needWithin.desc).map (fun d => d.parameters.length) = some 3 := by decide +kernel
theorem hdV_X1_newMap : yX1_newMap.cls = RX1 ∧ yX1_newMap.cls ≠ "java/lang/invoke/MethodHandle" ∧ yX1_newMap.cls ≠ "java/lang/invoke/VarHandle" ∧ (parseMethodDescriptor yX1_newMap.desc).map (fun d => d.parameters.length) = some 3 := by decide +kernel
theorem hdV_X2_joined : yX2_joined.cls = RX2 ∧ yX2_joined.cls ≠ "java/lang/invoke/MethodHandle" ∧ yX2_joined.cls ≠ "java/lang/invoke/VarHandle" ∧ (parseMethodDescriptor yX2_joined.desc).map (fun d => d.parameters.length) = some 2 := by decide +kernel
theorem hdV_X3_textIn : yX3_textIn.cls = RX3 ∧ yX3_textIn.cls ≠ "java/lang/invoke/MethodHandle" ∧ yX3_textIn.cls ≠ "java/lang/invoke/VarHandle" ∧ (parseMethodDescriptor yX3_textIn.desc).map (fun d => d.parameters.length) = some 1 := by decide +kernel
theorem hdV_X2_partOf : yX2_partOf.cls = RX2 ∧ yX2_partOf.cls ≠ "java/lang/invoke/MethodHandle" ∧ yX2_partOf.cls ≠ "java/lang/invoke/VarHandle" ∧ (parseMethodDescriptor yX2_partOf.desc).map (fun d => d.parameters.length) = some 3 := by decide +kernel
theorem hdV_X2_order : yX2_order.cls = RX2 ∧ yX2_order.cls ≠ "java/lang/invoke/MethodHandle" ∧ yX2_order.cls ≠ "java/lang/invoke/VarHandle" ∧ (parseMethodDescriptor yX2_order.desc).map (fun d => d.parameters.length) = some 2 := by decide +kernel
theorem hdV_X2_byteOf : yX2_byteOf.cls = RX2 ∧ yX2_byteOf.cls ≠ "java/lang/invoke/MethodHandle" ∧ yX2_byteOf.cls ≠ "java/lang/invoke/VarHandle" ∧ (parseMethodDescriptor yX2_byteOf.desc).map (fun d => d.parameters.length) = some 2 := by decide +kernel
theorem hdV_X3_needByte : yX3_needByte.cls = RX3 ∧ yX3_needByte.cls ≠ "java/lang/invoke/MethodHandle" ∧ yX3_needByte.cls ≠ "java/lang/invoke/VarHandle" ∧ (parseMethodDescriptor yX3_needByte.desc).map (fun d => d.parameters.length) = some 2 := by decide +kernel
theorem hdV_X2_changeByte : yX2_changeByte.cls = RX2 ∧ yX2_changeByte.cls ≠ "java/lang/invoke/MethodHandle" ∧ yX2_changeByte.cls ≠ "java/lang/invoke/VarHandle" ∧ (parseMethodDescriptor yX2_changeByte.desc).map (fun d => d.parameters.length) = some 3 := by decide +kernel
theorem hdV_X0_isFrozen : yX0_isFrozen.cls = RX0 ∧ yX0_isFrozen.cls ≠ "java/lang/invoke/MethodHandle" ∧ yX0_isFrozen.cls ≠ "java/lang/invoke/VarHandle" ∧ (parseMethodDescriptor yX0_isFrozen.desc).map (fun d => d.parameters.length) = some 1 := by decide +kernel
theorem hdV_X0_placeAt : yX0_placeAt.cls = RX0 ∧ yX0_placeAt.cls ≠ "java/lang/invoke/MethodHandle" ∧ yX0_placeAt.cls ≠ "java/lang/invoke/VarHandle" ∧ (parseMethodDescriptor yX0_placeAt.desc).map (fun d => d.parameters.length) = some 1 := by decide +kernel
theorem hdV_X3_rowIn : yX3_rowIn.cls = RX3 ∧ yX3_rowIn.cls ≠ "java/lang/invoke/MethodHandle" ∧ yX3_rowIn.cls ≠ "java/lang/invoke/VarHandle" ∧ (parseMethodDescriptor yX3_rowIn.desc).map (fun d => d.parameters.length) = some 1 := by decide +kernel
theorem hdV_X3_wordBehind : yX3_wordBehind.cls = RX3 ∧ yX3_wordBehind.cls ≠ "java/lang/invoke/MethodHandle" ∧ yX3_wordBehind.cls ≠ "java/lang/invoke/VarHandle" ∧ (parseMethodDescriptor yX3_wordBehind.desc).map (fun d => d.parameters.length) = some 2 := by decide +kernel
theorem hdV_X3_rowWord : yX3_rowWord.cls = RX3 ∧ yX3_rowWord.cls ≠ "java/lang/invoke/MethodHandle" ∧ yX3_rowWord.cls ≠ "java/lang/invoke/VarHandle" ∧ (parseMethodDescriptor yX3_rowWord.desc).map (fun d => d.parameters.length) = some 1 := by decide +kernel
theorem hdV_X3_needWords : yX3_needWords.cls = RX3 ∧ yX3_needWords.cls ≠ "java/lang/invoke/MethodHandle" ∧ yX3_needWords.cls ≠ "java/lang/invoke/VarHandle" ∧ (parseMethodDescriptor yX3_needWords.desc).map (fun d => d.parameters.length) = some 2 := by decide +kernel
theorem hdV_X3_mapIn : yX3_mapIn.cls = RX3 ∧ yX3_mapIn.cls ≠ "java/lang/invoke/MethodHandle" ∧ yX3_mapIn.cls ≠ "java/lang/invoke/VarHandle" ∧ (parseMethodDescriptor yX3_mapIn.desc).map (fun d => d.parameters.length) = some 1 := by decide +kernel
theorem hdV_X1_hasTextualKey : yX1_hasTextualKey.cls = RX1 ∧ yX1_hasTextualKey.cls ≠ "java/lang/invoke/MethodHandle" ∧ yX1_hasTextualKey.cls ≠ "java/lang/invoke/VarHandle" ∧ (parseMethodDescriptor yX1_hasTextualKey.desc).map (fun d => d.parameters.length) = some 2 := by decide +kernel
theorem hdV_X1_enter : yX1_enter.cls = RX1 ∧ yX1_enter.cls ≠ "java/lang/invoke/MethodHandle" ∧ yX1_enter.cls ≠ "java/lang/invoke/VarHandle" ∧ (parseMethodDescriptor yX1_enter.desc).map (fun d => d.parameters.length) = some 3 := by decide +kernel
theorem hdV_X3_needTextualKey : yX3_needTextualKey.cls = RX3 ∧ yX3_needTextualKey.cls ≠ "java/lang/invoke/MethodHandle" ∧ yX3_needTextualKey.cls ≠ "java/lang/invoke/VarHandle" ∧ (parseMethodDescriptor yX3_needTextualKey.desc).map (fun d => d.parameters.length) = some 2 := by decide +kernel
theorem hdV_X3_needMapAndWords : yX3_needMapAndWords.cls = RX3 ∧ yX3_needMapAndWords.cls ≠ "java/lang/invoke/MethodHandle" ∧ yX3_needMapAndWords.cls ≠ "java/lang/invoke/VarHandle" ∧ (parseMethodDescriptor yX3_needMapAndWords.desc).map (fun d => d.parameters.length) = some 2 := by decide +kernel
theorem hdV_X1_fetch : yX1_fetch.cls = RX1 ∧ yX1_fetch.cls ≠ "java/lang/invoke/MethodHandle" ∧ yX1_fetch.cls ≠ "java/lang/invoke/VarHandle" ∧ (parseMethodDescriptor yX1_fetch.desc).map (fun d => d.parameters.length) = some 2 := by decide +kernel
theorem hdV_X1_erase : yX1_erase.cls = RX1 ∧ yX1_erase.cls ≠ "java/lang/invoke/MethodHandle" ∧ yX1_erase.cls ≠ "java/lang/invoke/VarHandle" ∧ (parseMethodDescriptor yX1_erase.desc).map (fun d => d.parameters.length) = some 2 := by decide +kernel
theorem hdV_X1_slotFrom : yX1_slotFrom.cls = RX1 ∧ yX1_slotFrom.cls ≠ "java/lang/invoke/MethodHandle" ∧ yX1_slotFrom.cls ≠ "java/lang/invoke/VarHandle" ∧ (parseMethodDescriptor yX1_slotFrom.desc).map (fun d => d.parameters.length) = some 2 := by decide +kernel
theorem hdV_X1_readEntry : yX1_readEntry.cls = RX1 ∧ yX1_readEntry.cls ≠ "java/lang/invoke/MethodHandle" ∧ yX1_readEntry.cls ≠ "java/lang/invoke/VarHandle" ∧ (parseMethodDescriptor yX1_readEntry.desc).map (fun d => d.parameters.length) = some 3 := by decide +kernel
theorem hdV_X0_setEager : yX0_setEager.cls = RX0 ∧ yX0_setEager.cls ≠ "java/lang/invoke/MethodHandle" ∧ yX0_setEager.cls ≠ "java/lang/invoke/VarHandle" ∧ (parseMethodDescriptor yX0_setEager.desc).map (fun d => d.parameters.length) = some 1 := by decide +kernel
theorem hdV_X0_isReference : yX0_isReference.cls = RX0 ∧ yX0_isReference.cls ≠ "java/lang/invoke/MethodHandle" ∧ yX0_isReference.cls ≠ "java/lang/invoke/VarHandle" ∧ (parseMethodDescriptor yX0_isReference.desc).map (fun d => d.parameters.length) = some 1 := by decide +kernel
theorem hdV_X0_count : yX0_count.cls = RX0 ∧ yX0_count.cls ≠ "java/lang/invoke/MethodHandle" ∧ yX0_count.cls ≠ "java/lang/invoke/VarHandle" ∧ (parseMethodDescriptor yX0_count.desc).map (fun d => d.parameters.length) = some 1 := by decide +kernel
def txC : List (String × Nat × String) := [(RX0, 106, "full"), (RX3, 211, "no such register"), (RX3, 214, "out of range"), (RX3, 216, "neither a text nor nil"), (RX3, 84, "the joined text is too long"), (RX3, 94, "no such part of the text"), (RX3, 222, "no such byte"), (RX3, 113, "the text was in a key"), (RX3, 218, "no row"), (RX3, 124, "no such place"), (RX3, 224, "no such word"), (RX3, 229, "not so many words"), (RX3, 220, "no map"), (RX3, 237, "a textual word is neither a text nor nil"), (RX3, 167, "no entry with this order"), (RX3, 196, "no number")]
theorem tin_0 : ∀ w ∈ (vx_atS RX0 108 "java/lang/IllegalStateException" ["java/lang/RuntimeException", "java/lang/Exception"]).filter goodWord, w ∈ lw_tbl := by decide +kernel
theorem tha_0 : ∀ w ∈ (vx_atS RX0 108 "java/lang/IllegalStateException" ["java/lang/RuntimeException", "java/lang/Exception"]).filter goodWord, w ∈ AW := fun w h => List.mem_filter.mpr ⟨tin_0 w h, (List.mem_filter.mp h).2⟩
theorem tht_0 : ∀ w ∈ (vx_atS RX0 108 "java/lang/IllegalStateException" ["java/lang/RuntimeException", "java/lang/Exception"]).filter (fun w => !goodWord w), w ∈ [Cond.castable "java/lang/IllegalStateException" "java/lang/IllegalStateException", Cond.declares (Bundle.initS "java/lang/RuntimeException"), Cond.declares (Bundle.initS "java/lang/Exception"), Cond.declares (Bundle.initS Bundle.tN)] := by decide +kernel
theorem tin_1 : ∀ w ∈ (vx_atS RX3 213 "java/lang/IllegalArgumentException" ["java/lang/RuntimeException", "java/lang/Exception"]).filter goodWord, w ∈ lw_tbl := by decide +kernel
theorem tha_1 : ∀ w ∈ (vx_atS RX3 213 "java/lang/IllegalArgumentException" ["java/lang/RuntimeException", "java/lang/Exception"]).filter goodWord, w ∈ AW := fun w h => List.mem_filter.mpr ⟨tin_1 w h, (List.mem_filter.mp h).2⟩
theorem tht_1 : ∀ w ∈ (vx_atS RX3 213 "java/lang/IllegalArgumentException" ["java/lang/RuntimeException", "java/lang/Exception"]).filter (fun w => !goodWord w), w ∈ [Cond.castable "java/lang/IllegalArgumentException" "java/lang/IllegalArgumentException", Cond.declares (Bundle.initS "java/lang/RuntimeException"), Cond.declares (Bundle.initS "java/lang/Exception"), Cond.declares (Bundle.initS Bundle.tN)] := by decide +kernel
theorem tin_2 : ∀ w ∈ (vx_atS RX3 86 "java/lang/UnsupportedOperationException" ["java/lang/RuntimeException", "java/lang/Exception"]).filter goodWord, w ∈ lw_tbl := by decide +kernel
theorem tha_2 : ∀ w ∈ (vx_atS RX3 86 "java/lang/UnsupportedOperationException" ["java/lang/RuntimeException", "java/lang/Exception"]).filter goodWord, w ∈ AW := fun w h => List.mem_filter.mpr ⟨tin_2 w h, (List.mem_filter.mp h).2⟩
theorem tht_2 : ∀ w ∈ (vx_atS RX3 86 "java/lang/UnsupportedOperationException" ["java/lang/RuntimeException", "java/lang/Exception"]).filter (fun w => !goodWord w), w ∈ [Cond.castable "java/lang/UnsupportedOperationException" "java/lang/UnsupportedOperationException", Cond.declares (Bundle.initS "java/lang/RuntimeException"), Cond.declares (Bundle.initS "java/lang/Exception"), Cond.declares (Bundle.initS Bundle.tN)] := by decide +kernel
theorem tin_3 : ∀ w ∈ (vx_atS RX3 96 "java/lang/IndexOutOfBoundsException" ["java/lang/RuntimeException", "java/lang/Exception"]).filter goodWord, w ∈ lw_tbl := by decide +kernel
theorem tha_3 : ∀ w ∈ (vx_atS RX3 96 "java/lang/IndexOutOfBoundsException" ["java/lang/RuntimeException", "java/lang/Exception"]).filter goodWord, w ∈ AW := fun w h => List.mem_filter.mpr ⟨tin_3 w h, (List.mem_filter.mp h).2⟩
theorem tht_3 : ∀ w ∈ (vx_atS RX3 96 "java/lang/IndexOutOfBoundsException" ["java/lang/RuntimeException", "java/lang/Exception"]).filter (fun w => !goodWord w), w ∈ [Cond.castable "java/lang/IndexOutOfBoundsException" "java/lang/IndexOutOfBoundsException", Cond.declares (Bundle.initS "java/lang/RuntimeException"), Cond.declares (Bundle.initS "java/lang/Exception"), Cond.declares (Bundle.initS Bundle.tN)] := by decide +kernel
theorem nsi_0 : ∀ w ∈ ((nsAtoms RX3 169).filter vx_no).filter goodWord, w ∈ lw_tbl := by decide +kernel
theorem nsa_0 : ∀ w ∈ ((nsAtoms RX3 169).filter vx_no).filter goodWord, w ∈ AW := fun w h => List.mem_filter.mpr ⟨nsi_0 w h, (List.mem_filter.mp h).2⟩
theorem nst_0 : ∀ w ∈ ((nsAtoms RX3 169).filter vx_no).filter (fun w => !goodWord w), w ∈ [Cond.castable nsN nsN, Cond.declares (Bundle.initS "java/lang/RuntimeException"), Cond.declares (Bundle.initS "java/lang/Exception"), Cond.declares (Bundle.initS Bundle.tN)] := by decide +kernel
theorem nsg_0 : ∀ w ∈ Cond.classLink RX3 165 nsN :: Cond.initialized nsN :: (nsAtoms RX3 169).filter vx_no, vx_ot w = true := by decide +kernel
theorem thg_0_104 : ∀ w ∈ Cond.classLink RX0 104 "java/lang/IllegalStateException" :: Cond.initialized "java/lang/IllegalStateException" :: vx_atS RX0 108 "java/lang/IllegalStateException" ["java/lang/RuntimeException", "java/lang/Exception"], vx_ot w = true := by decide +kernel
theorem thg_1_209 : ∀ w ∈ Cond.classLink RX3 209 "java/lang/IllegalArgumentException" :: Cond.initialized "java/lang/IllegalArgumentException" :: vx_atS RX3 213 "java/lang/IllegalArgumentException" ["java/lang/RuntimeException", "java/lang/Exception"], vx_ot w = true := by decide +kernel
theorem thg_2_82 : ∀ w ∈ Cond.classLink RX3 82 "java/lang/UnsupportedOperationException" :: Cond.initialized "java/lang/UnsupportedOperationException" :: vx_atS RX3 86 "java/lang/UnsupportedOperationException" ["java/lang/RuntimeException", "java/lang/Exception"], vx_ot w = true := by decide +kernel
theorem thg_3_92 : ∀ w ∈ Cond.classLink RX3 92 "java/lang/IndexOutOfBoundsException" :: Cond.initialized "java/lang/IndexOutOfBoundsException" :: vx_atS RX3 96 "java/lang/IndexOutOfBoundsException" ["java/lang/RuntimeException", "java/lang/Exception"], vx_ot w = true := by decide +kernel
