/-! the methods of String, and what they call, on the two texts: names, code, words -/
abbrev yT_length : MethodName := ⟨"java/lang/String", "length", "()I"⟩
abbrev cT_length : ByteArray := prog_19_method_54_code
abbrev kT_length : Cond := .code yT_length cT_length 1 (some .int)
theorem wT_code_length : kT_length ∈ mjTb := List.mem_filter.mpr ⟨List.mem_of_getElem? (i := 541) (by decide +kernel), rfl⟩
theorem wT_kind_length : Cond.instanceMethod yT_length ∈ mjTb := List.mem_filter.mpr ⟨List.mem_of_getElem? (i := 539) (by decide +kernel), rfl⟩
theorem wT_sel_length : Cond.selects "java/lang/String" yT_length yT_length ∈ mjTb := List.mem_filter.mpr ⟨List.mem_of_getElem? (i := 540) (by decide +kernel), rfl⟩
theorem dT_length_0 : decode cT_length 0 = .ok (.aload_n 0, 1) := by decide +kernel
theorem dT_length_1 : decode cT_length 1 = .ok (.getfield 9, 3) := by decide +kernel
theorem dT_length_4 : decode cT_length 4 = .ok (.arraylength, 1) := by decide +kernel
theorem dT_length_5 : decode cT_length 5 = .ok (.aload_n 0, 1) := by decide +kernel
theorem dT_length_6 : decode cT_length 6 = .ok (.invokevirtual 335, 3) := by decide +kernel
theorem dT_length_9 : decode cT_length 9 = .ok (.ishr, 1) := by decide +kernel
theorem dT_length_10 : decode cT_length 10 = .ok (.ireturn, 1) := by decide +kernel
abbrev yT_coder : MethodName := ⟨"java/lang/String", "coder", "()B"⟩
abbrev cT_coder : ByteArray := prog_19_method_152_code
abbrev kT_coder : Cond := .code yT_coder cT_coder 1 (some .byte)
theorem wT_code_coder : kT_coder ∈ mjTb := List.mem_filter.mpr ⟨List.mem_of_getElem? (i := 545) (by decide +kernel), rfl⟩
theorem wT_kind_coder : Cond.instanceMethod yT_coder ∈ mjTb := List.mem_filter.mpr ⟨List.mem_of_getElem? (i := 543) (by decide +kernel), rfl⟩
theorem wT_sel_coder : Cond.selects "java/lang/String" yT_coder yT_coder ∈ mjTb := List.mem_filter.mpr ⟨List.mem_of_getElem? (i := 544) (by decide +kernel), rfl⟩
theorem dT_coder_0 : decode cT_coder 0 = .ok (.getstatic 38, 3) := by decide +kernel
theorem dT_coder_3 : decode cT_coder 3 = .ok (.ifCond .eq 10, 3) := by decide +kernel
theorem dT_coder_6 : decode cT_coder 6 = .ok (.aload_n 0, 1) := by decide +kernel
theorem dT_coder_7 : decode cT_coder 7 = .ok (.getfield 15, 3) := by decide +kernel
theorem dT_coder_10 : decode cT_coder 10 = .ok (.goto 4, 3) := by decide +kernel
theorem dT_coder_13 : decode cT_coder 13 = .ok (.iconst 1, 1) := by decide +kernel
theorem dT_coder_14 : decode cT_coder 14 = .ok (.ireturn, 1) := by decide +kernel
abbrev yT_isLatin1 : MethodName := ⟨"java/lang/String", "isLatin1", "()Z"⟩
abbrev cT_isLatin1 : ByteArray := prog_19_method_154_code
abbrev kT_isLatin1 : Cond := .code yT_isLatin1 cT_isLatin1 1 (some .boolean)
theorem wT_code_isLatin1 : kT_isLatin1 ∈ mjTb := List.mem_filter.mpr ⟨List.mem_of_getElem? (i := 555) (by decide +kernel), rfl⟩
theorem wT_kind_isLatin1 : Cond.instanceMethod yT_isLatin1 ∈ mjTb := List.mem_filter.mpr ⟨List.mem_of_getElem? (i := 553) (by decide +kernel), rfl⟩
theorem wT_sel_isLatin1 : Cond.selects "java/lang/String" yT_isLatin1 yT_isLatin1 ∈ mjTb := List.mem_filter.mpr ⟨List.mem_of_getElem? (i := 554) (by decide +kernel), rfl⟩
theorem dT_isLatin1_0 : decode cT_isLatin1 0 = .ok (.getstatic 38, 3) := by decide +kernel
theorem dT_isLatin1_3 : decode cT_isLatin1 3 = .ok (.ifCond .eq 14, 3) := by decide +kernel
theorem dT_isLatin1_6 : decode cT_isLatin1 6 = .ok (.aload_n 0, 1) := by decide +kernel
theorem dT_isLatin1_7 : decode cT_isLatin1 7 = .ok (.getfield 15, 3) := by decide +kernel
theorem dT_isLatin1_10 : decode cT_isLatin1 10 = .ok (.ifCond .ne 7, 3) := by decide +kernel
theorem dT_isLatin1_13 : decode cT_isLatin1 13 = .ok (.iconst 1, 1) := by decide +kernel
theorem dT_isLatin1_14 : decode cT_isLatin1 14 = .ok (.goto 4, 3) := by decide +kernel
theorem dT_isLatin1_17 : decode cT_isLatin1 17 = .ok (.iconst 0, 1) := by decide +kernel
theorem dT_isLatin1_18 : decode cT_isLatin1 18 = .ok (.ireturn, 1) := by decide +kernel
abbrev yT_charAt : MethodName := ⟨"java/lang/String", "charAt", "(I)C"⟩
abbrev cT_charAt : ByteArray := prog_19_method_56_code
abbrev kT_charAt : Cond := .code yT_charAt cT_charAt 2 (some .char)
theorem wT_code_charAt : kT_charAt ∈ mjTb := List.mem_filter.mpr ⟨List.mem_of_getElem? (i := 551) (by decide +kernel), rfl⟩
theorem wT_kind_charAt : Cond.instanceMethod yT_charAt ∈ mjTb := List.mem_filter.mpr ⟨List.mem_of_getElem? (i := 549) (by decide +kernel), rfl⟩
theorem wT_sel_charAt : Cond.selects "java/lang/String" yT_charAt yT_charAt ∈ mjTb := List.mem_filter.mpr ⟨List.mem_of_getElem? (i := 550) (by decide +kernel), rfl⟩
theorem dT_charAt_0 : decode cT_charAt 0 = .ok (.aload_n 0, 1) := by decide +kernel
theorem dT_charAt_1 : decode cT_charAt 1 = .ok (.invokevirtual 492, 3) := by decide +kernel
theorem dT_charAt_4 : decode cT_charAt 4 = .ok (.ifCond .eq 12, 3) := by decide +kernel
theorem dT_charAt_7 : decode cT_charAt 7 = .ok (.aload_n 0, 1) := by decide +kernel
theorem dT_charAt_8 : decode cT_charAt 8 = .ok (.getfield 9, 3) := by decide +kernel
theorem dT_charAt_11 : decode cT_charAt 11 = .ok (.iload_n 1, 1) := by decide +kernel
theorem dT_charAt_12 : decode cT_charAt 12 = .ok (.invokestatic 495, 3) := by decide +kernel
theorem dT_charAt_15 : decode cT_charAt 15 = .ok (.ireturn, 1) := by decide +kernel
theorem dT_charAt_16 : decode cT_charAt 16 = .ok (.aload_n 0, 1) := by decide +kernel
theorem dT_charAt_17 : decode cT_charAt 17 = .ok (.getfield 9, 3) := by decide +kernel
theorem dT_charAt_20 : decode cT_charAt 20 = .ok (.iload_n 1, 1) := by decide +kernel
theorem dT_charAt_21 : decode cT_charAt 21 = .ok (.invokestatic 498, 3) := by decide +kernel
theorem dT_charAt_24 : decode cT_charAt 24 = .ok (.ireturn, 1) := by decide +kernel
abbrev yT_charAtL : MethodName := ⟨"java/lang/StringLatin1", "charAt", "([BI)C"⟩
abbrev cT_charAtL : ByteArray := prog_20_method_2_code
abbrev kT_charAtL : Cond := .code yT_charAtL cT_charAtL 2 (some .char)
theorem wT_code_charAtL : kT_charAtL ∈ mjTb := List.mem_filter.mpr ⟨List.mem_of_getElem? (i := 558) (by decide +kernel), rfl⟩
theorem wT_kind_charAtL : Cond.static yT_charAtL ∈ mjTb := List.mem_filter.mpr ⟨List.mem_of_getElem? (i := 557) (by decide +kernel), rfl⟩
theorem dT_charAtL_0 : decode cT_charAtL 0 = .ok (.iload_n 1, 1) := by decide +kernel
theorem dT_charAtL_1 : decode cT_charAtL 1 = .ok (.aload_n 0, 1) := by decide +kernel
theorem dT_charAtL_2 : decode cT_charAtL 2 = .ok (.arraylength, 1) := by decide +kernel
theorem dT_charAtL_3 : decode cT_charAtL 3 = .ok (.invokestatic 9, 3) := by decide +kernel
theorem dT_charAtL_6 : decode cT_charAtL 6 = .ok (.aload_n 0, 1) := by decide +kernel
theorem dT_charAtL_7 : decode cT_charAtL 7 = .ok (.iload_n 1, 1) := by decide +kernel
theorem dT_charAtL_8 : decode cT_charAtL 8 = .ok (.baload, 1) := by decide +kernel
theorem dT_charAtL_9 : decode cT_charAtL 9 = .ok (.sipush 255, 3) := by decide +kernel
theorem dT_charAtL_12 : decode cT_charAtL 12 = .ok (.iand, 1) := by decide +kernel
theorem dT_charAtL_13 : decode cT_charAtL 13 = .ok (.i2c, 1) := by decide +kernel
theorem dT_charAtL_14 : decode cT_charAtL 14 = .ok (.ireturn, 1) := by decide +kernel
abbrev yT_checkIndex : MethodName := ⟨"java/lang/String", "checkIndex", "(II)V"⟩
abbrev cT_checkIndex : ByteArray := prog_19_method_155_code
abbrev kT_checkIndex : Cond := .code yT_checkIndex cT_checkIndex 2 none
theorem wT_code_checkIndex : kT_checkIndex ∈ mjTb := List.mem_filter.mpr ⟨List.mem_of_getElem? (i := 561) (by decide +kernel), rfl⟩
theorem wT_kind_checkIndex : Cond.static yT_checkIndex ∈ mjTb := List.mem_filter.mpr ⟨List.mem_of_getElem? (i := 560) (by decide +kernel), rfl⟩
theorem dT_checkIndex_0 : decode cT_checkIndex 0 = .ok (.iload_n 0, 1) := by decide +kernel
theorem dT_checkIndex_1 : decode cT_checkIndex 1 = .ok (.iload_n 1, 1) := by decide +kernel
theorem dT_checkIndex_2 : decode cT_checkIndex 2 = .ok (.getstatic 1053, 3) := by decide +kernel
theorem dT_checkIndex_5 : decode cT_checkIndex 5 = .ok (.invokestatic 1059, 3) := by decide +kernel
theorem dT_checkIndex_8 : decode cT_checkIndex 8 = .ok (.pop, 1) := by decide +kernel
theorem dT_checkIndex_9 : decode cT_checkIndex 9 = .ok (.return_, 1) := by decide +kernel
abbrev yT_checkP : MethodName := ⟨"jdk/internal/util/Preconditions", "checkIndex", "(IILjava/util/function/BiFunction;)I"⟩
abbrev cT_checkP : ByteArray := prog_24_method_11_code
abbrev kT_checkP : Cond := .code yT_checkP cT_checkP 3 (some .int)
theorem wT_code_checkP : kT_checkP ∈ mjTb := List.mem_filter.mpr ⟨List.mem_of_getElem? (i := 566) (by decide +kernel), rfl⟩
theorem wT_kind_checkP : Cond.static yT_checkP ∈ mjTb := List.mem_filter.mpr ⟨List.mem_of_getElem? (i := 565) (by decide +kernel), rfl⟩
theorem dT_checkP_0 : decode cT_checkP 0 = .ok (.iload_n 0, 1) := by decide +kernel
theorem dT_checkP_1 : decode cT_checkP 1 = .ok (.ifCond .lt 8, 3) := by decide +kernel
theorem dT_checkP_4 : decode cT_checkP 4 = .ok (.iload_n 0, 1) := by decide +kernel
theorem dT_checkP_5 : decode cT_checkP 5 = .ok (.iload_n 1, 1) := by decide +kernel
theorem dT_checkP_6 : decode cT_checkP 6 = .ok (.if_icmp .lt 10, 3) := by decide +kernel
theorem dT_checkP_9 : decode cT_checkP 9 = .ok (.aload_n 2, 1) := by decide +kernel
theorem dT_checkP_10 : decode cT_checkP 10 = .ok (.iload_n 0, 1) := by decide +kernel
theorem dT_checkP_11 : decode cT_checkP 11 = .ok (.iload_n 1, 1) := by decide +kernel
theorem dT_checkP_12 : decode cT_checkP 12 = .ok (.invokestatic 95, 3) := by decide +kernel
theorem dT_checkP_15 : decode cT_checkP 15 = .ok (.athrow, 1) := by decide +kernel
theorem dT_checkP_16 : decode cT_checkP 16 = .ok (.iload_n 0, 1) := by decide +kernel
theorem dT_checkP_17 : decode cT_checkP 17 = .ok (.ireturn, 1) := by decide +kernel
abbrev yT_indexOf1 : MethodName := ⟨"java/lang/String", "indexOf", "(I)I"⟩
abbrev cT_indexOf1 : ByteArray := prog_19_method_79_code
abbrev kT_indexOf1 : Cond := .code yT_indexOf1 cT_indexOf1 2 (some .int)
theorem wT_code_indexOf1 : kT_indexOf1 ∈ mjTb := List.mem_filter.mpr ⟨List.mem_of_getElem? (i := 594) (by decide +kernel), rfl⟩
theorem wT_kind_indexOf1 : Cond.instanceMethod yT_indexOf1 ∈ mjTb := List.mem_filter.mpr ⟨List.mem_of_getElem? (i := 592) (by decide +kernel), rfl⟩
theorem wT_sel_indexOf1 : Cond.selects "java/lang/String" yT_indexOf1 yT_indexOf1 ∈ mjTb := List.mem_filter.mpr ⟨List.mem_of_getElem? (i := 593) (by decide +kernel), rfl⟩
theorem dT_indexOf1_0 : decode cT_indexOf1 0 = .ok (.aload_n 0, 1) := by decide +kernel
theorem dT_indexOf1_1 : decode cT_indexOf1 1 = .ok (.iload_n 1, 1) := by decide +kernel
theorem dT_indexOf1_2 : decode cT_indexOf1 2 = .ok (.iconst 0, 1) := by decide +kernel
theorem dT_indexOf1_3 : decode cT_indexOf1 3 = .ok (.invokevirtual 633, 3) := by decide +kernel
theorem dT_indexOf1_6 : decode cT_indexOf1 6 = .ok (.ireturn, 1) := by decide +kernel
abbrev yT_indexOf2 : MethodName := ⟨"java/lang/String", "indexOf", "(II)I"⟩
abbrev cT_indexOf2 : ByteArray := prog_19_method_80_code
abbrev kT_indexOf2 : Cond := .code yT_indexOf2 cT_indexOf2 3 (some .int)
theorem wT_code_indexOf2 : kT_indexOf2 ∈ mjTb := List.mem_filter.mpr ⟨List.mem_of_getElem? (i := 598) (by decide +kernel), rfl⟩
theorem wT_kind_indexOf2 : Cond.instanceMethod yT_indexOf2 ∈ mjTb := List.mem_filter.mpr ⟨List.mem_of_getElem? (i := 596) (by decide +kernel), rfl⟩
theorem wT_sel_indexOf2 : Cond.selects "java/lang/String" yT_indexOf2 yT_indexOf2 ∈ mjTb := List.mem_filter.mpr ⟨List.mem_of_getElem? (i := 597) (by decide +kernel), rfl⟩
theorem dT_indexOf2_0 : decode cT_indexOf2 0 = .ok (.aload_n 0, 1) := by decide +kernel
theorem dT_indexOf2_1 : decode cT_indexOf2 1 = .ok (.invokevirtual 492, 3) := by decide +kernel
theorem dT_indexOf2_4 : decode cT_indexOf2 4 = .ok (.ifCond .eq 19, 3) := by decide +kernel
theorem dT_indexOf2_7 : decode cT_indexOf2 7 = .ok (.aload_n 0, 1) := by decide +kernel
theorem dT_indexOf2_8 : decode cT_indexOf2 8 = .ok (.getfield 9, 3) := by decide +kernel
theorem dT_indexOf2_11 : decode cT_indexOf2 11 = .ok (.iload_n 1, 1) := by decide +kernel
theorem dT_indexOf2_12 : decode cT_indexOf2 12 = .ok (.iload_n 2, 1) := by decide +kernel
theorem dT_indexOf2_13 : decode cT_indexOf2 13 = .ok (.aload_n 0, 1) := by decide +kernel
theorem dT_indexOf2_14 : decode cT_indexOf2 14 = .ok (.invokevirtual 505, 3) := by decide +kernel
theorem dT_indexOf2_17 : decode cT_indexOf2 17 = .ok (.invokestatic 637, 3) := by decide +kernel
theorem dT_indexOf2_20 : decode cT_indexOf2 20 = .ok (.goto 16, 3) := by decide +kernel
theorem dT_indexOf2_23 : decode cT_indexOf2 23 = .ok (.aload_n 0, 1) := by decide +kernel
theorem dT_indexOf2_24 : decode cT_indexOf2 24 = .ok (.getfield 9, 3) := by decide +kernel
theorem dT_indexOf2_27 : decode cT_indexOf2 27 = .ok (.iload_n 1, 1) := by decide +kernel
theorem dT_indexOf2_28 : decode cT_indexOf2 28 = .ok (.iload_n 2, 1) := by decide +kernel
theorem dT_indexOf2_29 : decode cT_indexOf2 29 = .ok (.aload_n 0, 1) := by decide +kernel
theorem dT_indexOf2_30 : decode cT_indexOf2 30 = .ok (.invokevirtual 505, 3) := by decide +kernel
theorem dT_indexOf2_33 : decode cT_indexOf2 33 = .ok (.invokestatic 640, 3) := by decide +kernel
theorem dT_indexOf2_36 : decode cT_indexOf2 36 = .ok (.ireturn, 1) := by decide +kernel
abbrev yT_indexOfL : MethodName := ⟨"java/lang/StringLatin1", "indexOf", "([BIII)I"⟩
abbrev cT_indexOfL : ByteArray := prog_20_method_22_code
abbrev kT_indexOfL : Cond := .code yT_indexOfL cT_indexOfL 4 (some .int)
theorem wT_code_indexOfL : kT_indexOfL ∈ mjTb := List.mem_filter.mpr ⟨List.mem_of_getElem? (i := 602) (by decide +kernel), rfl⟩
theorem wT_kind_indexOfL : Cond.static yT_indexOfL ∈ mjTb := List.mem_filter.mpr ⟨List.mem_of_getElem? (i := 601) (by decide +kernel), rfl⟩
theorem dT_indexOfL_0 : decode cT_indexOfL 0 = .ok (.iload_n 1, 1) := by decide +kernel
theorem dT_indexOfL_1 : decode cT_indexOfL 1 = .ok (.invokestatic 88, 3) := by decide +kernel
theorem dT_indexOfL_4 : decode cT_indexOfL 4 = .ok (.ifCond .ne 5, 3) := by decide +kernel
theorem dT_indexOfL_7 : decode cT_indexOfL 7 = .ok (.iconst (-1), 1) := by decide +kernel
theorem dT_indexOfL_8 : decode cT_indexOfL 8 = .ok (.ireturn, 1) := by decide +kernel
theorem dT_indexOfL_9 : decode cT_indexOfL 9 = .ok (.iload_n 2, 1) := by decide +kernel
theorem dT_indexOfL_10 : decode cT_indexOfL 10 = .ok (.iconst 0, 1) := by decide +kernel
theorem dT_indexOfL_11 : decode cT_indexOfL 11 = .ok (.invokestatic 92, 3) := by decide +kernel
theorem dT_indexOfL_14 : decode cT_indexOfL 14 = .ok (.istore_n 2, 1) := by decide +kernel
theorem dT_indexOfL_15 : decode cT_indexOfL 15 = .ok (.iload_n 3, 1) := by decide +kernel
theorem dT_indexOfL_16 : decode cT_indexOfL 16 = .ok (.aload_n 0, 1) := by decide +kernel
theorem dT_indexOfL_17 : decode cT_indexOfL 17 = .ok (.arraylength, 1) := by decide +kernel
theorem dT_indexOfL_18 : decode cT_indexOfL 18 = .ok (.invokestatic 38, 3) := by decide +kernel
theorem dT_indexOfL_21 : decode cT_indexOfL 21 = .ok (.istore_n 3, 1) := by decide +kernel
theorem dT_indexOfL_22 : decode cT_indexOfL 22 = .ok (.iload_n 2, 1) := by decide +kernel
theorem dT_indexOfL_23 : decode cT_indexOfL 23 = .ok (.iload_n 3, 1) := by decide +kernel
theorem dT_indexOfL_24 : decode cT_indexOfL 24 = .ok (.if_icmp .lt 5, 3) := by decide +kernel
theorem dT_indexOfL_27 : decode cT_indexOfL 27 = .ok (.iconst (-1), 1) := by decide +kernel
theorem dT_indexOfL_28 : decode cT_indexOfL 28 = .ok (.ireturn, 1) := by decide +kernel
theorem dT_indexOfL_29 : decode cT_indexOfL 29 = .ok (.aload_n 0, 1) := by decide +kernel
theorem dT_indexOfL_30 : decode cT_indexOfL 30 = .ok (.iload_n 1, 1) := by decide +kernel
theorem dT_indexOfL_31 : decode cT_indexOfL 31 = .ok (.iload_n 2, 1) := by decide +kernel
theorem dT_indexOfL_32 : decode cT_indexOfL 32 = .ok (.iload_n 3, 1) := by decide +kernel
theorem dT_indexOfL_33 : decode cT_indexOfL 33 = .ok (.invokestatic 95, 3) := by decide +kernel
theorem dT_indexOfL_36 : decode cT_indexOfL 36 = .ok (.ireturn, 1) := by decide +kernel
abbrev yT_canEncode : MethodName := ⟨"java/lang/StringLatin1", "canEncode", "(I)Z"⟩
abbrev cT_canEncode : ByteArray := prog_20_method_4_code
abbrev kT_canEncode : Cond := .code yT_canEncode cT_canEncode 1 (some .boolean)
theorem wT_code_canEncode : kT_canEncode ∈ mjTb := List.mem_filter.mpr ⟨List.mem_of_getElem? (i := 605) (by decide +kernel), rfl⟩
theorem wT_kind_canEncode : Cond.static yT_canEncode ∈ mjTb := List.mem_filter.mpr ⟨List.mem_of_getElem? (i := 604) (by decide +kernel), rfl⟩
theorem dT_canEncode_0 : decode cT_canEncode 0 = .ok (.iload_n 0, 1) := by decide +kernel
theorem dT_canEncode_1 : decode cT_canEncode 1 = .ok (.ifCond .lt 14, 3) := by decide +kernel
theorem dT_canEncode_4 : decode cT_canEncode 4 = .ok (.iload_n 0, 1) := by decide +kernel
theorem dT_canEncode_5 : decode cT_canEncode 5 = .ok (.sipush 255, 3) := by decide +kernel
theorem dT_canEncode_8 : decode cT_canEncode 8 = .ok (.if_icmp .gt 7, 3) := by decide +kernel
theorem dT_canEncode_11 : decode cT_canEncode 11 = .ok (.iconst 1, 1) := by decide +kernel
theorem dT_canEncode_12 : decode cT_canEncode 12 = .ok (.goto 4, 3) := by decide +kernel
theorem dT_canEncode_15 : decode cT_canEncode 15 = .ok (.iconst 0, 1) := by decide +kernel
theorem dT_canEncode_16 : decode cT_canEncode 16 = .ok (.ireturn, 1) := by decide +kernel
abbrev yT_indexOfC : MethodName := ⟨"java/lang/StringLatin1", "indexOfChar", "([BIII)I"⟩
abbrev cT_indexOfC : ByteArray := prog_20_method_23_code
abbrev kT_indexOfC : Cond := .code yT_indexOfC cT_indexOfC 6 (some .int)
theorem wT_code_indexOfC : kT_indexOfC ∈ mjTb := List.mem_filter.mpr ⟨List.mem_of_getElem? (i := 614) (by decide +kernel), rfl⟩
theorem wT_kind_indexOfC : Cond.static yT_indexOfC ∈ mjTb := List.mem_filter.mpr ⟨List.mem_of_getElem? (i := 613) (by decide +kernel), rfl⟩
theorem dT_indexOfC_0 : decode cT_indexOfC 0 = .ok (.iload_n 1, 1) := by decide +kernel
theorem dT_indexOfC_1 : decode cT_indexOfC 1 = .ok (.i2b, 1) := by decide +kernel
theorem dT_indexOfC_2 : decode cT_indexOfC 2 = .ok (.istore 4, 2) := by decide +kernel
theorem dT_indexOfC_4 : decode cT_indexOfC 4 = .ok (.iload_n 2, 1) := by decide +kernel
theorem dT_indexOfC_5 : decode cT_indexOfC 5 = .ok (.istore 5, 2) := by decide +kernel
theorem dT_indexOfC_7 : decode cT_indexOfC 7 = .ok (.iload 5, 2) := by decide +kernel
theorem dT_indexOfC_9 : decode cT_indexOfC 9 = .ok (.iload_n 3, 1) := by decide +kernel
theorem dT_indexOfC_10 : decode cT_indexOfC 10 = .ok (.if_icmp .ge 21, 3) := by decide +kernel
theorem dT_indexOfC_13 : decode cT_indexOfC 13 = .ok (.aload_n 0, 1) := by decide +kernel
theorem dT_indexOfC_14 : decode cT_indexOfC 14 = .ok (.iload 5, 2) := by decide +kernel
theorem dT_indexOfC_16 : decode cT_indexOfC 16 = .ok (.baload, 1) := by decide +kernel
theorem dT_indexOfC_17 : decode cT_indexOfC 17 = .ok (.iload 4, 2) := by decide +kernel
theorem dT_indexOfC_19 : decode cT_indexOfC 19 = .ok (.if_icmp .ne 6, 3) := by decide +kernel
theorem dT_indexOfC_22 : decode cT_indexOfC 22 = .ok (.iload 5, 2) := by decide +kernel
theorem dT_indexOfC_24 : decode cT_indexOfC 24 = .ok (.ireturn, 1) := by decide +kernel
theorem dT_indexOfC_25 : decode cT_indexOfC 25 = .ok (.iinc 5 1, 3) := by decide +kernel
theorem dT_indexOfC_28 : decode cT_indexOfC 28 = .ok (.goto (-21), 3) := by decide +kernel
theorem dT_indexOfC_31 : decode cT_indexOfC 31 = .ok (.iconst (-1), 1) := by decide +kernel
theorem dT_indexOfC_32 : decode cT_indexOfC 32 = .ok (.ireturn, 1) := by decide +kernel
theorem wT_ini_String : Cond.initialized "java/lang/String" ∈ mjTb := List.mem_filter.mpr ⟨List.mem_of_getElem? (i := 124) (by decide +kernel), rfl⟩
theorem wT_ini_StringLatin1 : Cond.initialized "java/lang/StringLatin1" ∈ mjTb := List.mem_filter.mpr ⟨List.mem_of_getElem? (i := 125) (by decide +kernel), rfl⟩
theorem wT_ini_Preconditions : Cond.initialized "jdk/internal/util/Preconditions" ∈ mjTb := List.mem_filter.mpr ⟨List.mem_of_getElem? (i := 126) (by decide +kernel), rfl⟩
theorem wT_ini_Math : Cond.initialized "java/lang/Math" ∈ mjTb := List.mem_filter.mpr ⟨List.mem_of_getElem? (i := 128) (by decide +kernel), rfl⟩
theorem wT_f9 : Cond.fieldLink "java/lang/String" 9 "java/lang/String" "value" "[B" ∈ mjTb := List.mem_filter.mpr ⟨List.mem_of_getElem? (i := 1792) (by decide +kernel), rfl⟩
theorem wT_f15 : Cond.fieldLink "java/lang/String" 15 "java/lang/String" "coder" "B" ∈ mjTb := List.mem_filter.mpr ⟨List.mem_of_getElem? (i := 1793) (by decide +kernel), rfl⟩
theorem wT_f38 : Cond.fieldLink "java/lang/String" 38 "java/lang/String" "COMPACT_STRINGS" "Z" ∈ mjTb := List.mem_filter.mpr ⟨List.mem_of_getElem? (i := 546) (by decide +kernel), rfl⟩
theorem wT_f1053 : Cond.fieldLink "java/lang/String" 1053 "jdk/internal/util/Preconditions" "SIOOBE_FORMATTER" "Ljava/util/function/BiFunction;" ∈ mjTb := List.mem_filter.mpr ⟨List.mem_of_getElem? (i := 562) (by decide +kernel), rfl⟩
theorem wT_m335_coder : Cond.methodLink "java/lang/String" 335 yT_coder ∈ mjTb := List.mem_filter.mpr ⟨List.mem_of_getElem? (i := 542) (by decide +kernel), rfl⟩
theorem wT_m492_isLatin1 : Cond.methodLink "java/lang/String" 492 yT_isLatin1 ∈ mjTb := List.mem_filter.mpr ⟨List.mem_of_getElem? (i := 552) (by decide +kernel), rfl⟩
theorem wT_m495_charAtL : Cond.methodLink "java/lang/String" 495 yT_charAtL ∈ mjTb := List.mem_filter.mpr ⟨List.mem_of_getElem? (i := 556) (by decide +kernel), rfl⟩
theorem wT_m505_length : Cond.methodLink "java/lang/String" 505 yT_length ∈ mjTb := List.mem_filter.mpr ⟨List.mem_of_getElem? (i := 599) (by decide +kernel), rfl⟩
theorem wT_m633_indexOf2 : Cond.methodLink "java/lang/String" 633 yT_indexOf2 ∈ mjTb := List.mem_filter.mpr ⟨List.mem_of_getElem? (i := 595) (by decide +kernel), rfl⟩
theorem wT_m637_indexOfL : Cond.methodLink "java/lang/String" 637 yT_indexOfL ∈ mjTb := List.mem_filter.mpr ⟨List.mem_of_getElem? (i := 600) (by decide +kernel), rfl⟩
theorem wT_m1059_checkP : Cond.methodLink "java/lang/String" 1059 yT_checkP ∈ mjTb := List.mem_filter.mpr ⟨List.mem_of_getElem? (i := 564) (by decide +kernel), rfl⟩
theorem wT_m9_checkIndex : Cond.methodLink "java/lang/StringLatin1" 9 yT_checkIndex ∈ mjTb := List.mem_filter.mpr ⟨List.mem_of_getElem? (i := 559) (by decide +kernel), rfl⟩
theorem wT_m88_canEncode : Cond.methodLink "java/lang/StringLatin1" 88 yT_canEncode ∈ mjTb := List.mem_filter.mpr ⟨List.mem_of_getElem? (i := 603) (by decide +kernel), rfl⟩
theorem wT_m95_indexOfC : Cond.methodLink "java/lang/StringLatin1" 95 yT_indexOfC ∈ mjTb := List.mem_filter.mpr ⟨List.mem_of_getElem? (i := 612) (by decide +kernel), rfl⟩
theorem wT_m92_max : Cond.methodLink "java/lang/StringLatin1" 92 Lib.Math.max.name ∈ mjTb := List.mem_filter.mpr ⟨List.mem_of_getElem? (i := 606) (by decide +kernel), rfl⟩
theorem wT_kind_max : Cond.static Lib.Math.max.name ∈ mjTb := List.mem_filter.mpr ⟨List.mem_of_getElem? (i := 607) (by decide +kernel), rfl⟩
theorem wT_code_max : Cond.code Lib.Math.max.name Lib.Math.max.code 2 (some .int) ∈ mjTb := List.mem_filter.mpr ⟨List.mem_of_getElem? (i := 608) (by decide +kernel), rfl⟩
theorem wT_m38_min : Cond.methodLink "java/lang/StringLatin1" 38 Lib.Math.min.name ∈ mjTb := List.mem_filter.mpr ⟨List.mem_of_getElem? (i := 609) (by decide +kernel), rfl⟩
theorem wT_kind_min : Cond.static Lib.Math.min.name ∈ mjTb := List.mem_filter.mpr ⟨List.mem_of_getElem? (i := 610) (by decide +kernel), rfl⟩
theorem wT_code_min : Cond.code Lib.Math.min.name Lib.Math.min.code 2 (some .int) ∈ mjTb := List.mem_filter.mpr ⟨List.mem_of_getElem? (i := 611) (by decide +kernel), rfl⟩
