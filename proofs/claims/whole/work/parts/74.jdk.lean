/-! ===== the JDK's leaves: words and decodings ===== -/
abbrev y_charAt : MethodName := ⟨"java/lang/String", "charAt", "(I)C"⟩
abbrev y_isLatin1 : MethodName := ⟨"java/lang/String", "isLatin1", "()Z"⟩
abbrev y_charAtL : MethodName := ⟨"java/lang/StringLatin1", "charAt", "([BI)C"⟩
abbrev y_check : MethodName := ⟨"java/lang/String", "checkIndex", "(II)V"⟩
abbrev y_pre : MethodName := ⟨"jdk/internal/util/Preconditions", "checkIndex", "(IILjava/util/function/BiFunction;)I"⟩
abbrev y_indexOf : MethodName := ⟨"java/lang/String", "indexOf", "(I)I"⟩
abbrev y_indexOf2 : MethodName := ⟨"java/lang/String", "indexOf", "(II)I"⟩
abbrev y_length : MethodName := ⟨"java/lang/String", "length", "()I"⟩
abbrev y_coder : MethodName := ⟨"java/lang/String", "coder", "()B"⟩
abbrev y_indexOfL : MethodName := ⟨"java/lang/StringLatin1", "indexOf", "([BIII)I"⟩
abbrev y_canEncode : MethodName := ⟨"java/lang/StringLatin1", "canEncode", "(I)Z"⟩
abbrev y_indexOfChar : MethodName := ⟨"java/lang/StringLatin1", "indexOfChar", "([BIII)I"⟩
abbrev y_max : MethodName := ⟨"java/lang/Math", "max", "(II)I"⟩
abbrev y_min : MethodName := ⟨"java/lang/Math", "min", "(II)I"⟩
theorem t_339 : Cond.methodLink "GiftShops$Scanner" 66 y_charAt ∈ gGW := gtb_good (ps := 339) (by decide +kernel) rfl
theorem t_340 : Cond.instanceMethod y_charAt ∈ gGW := gtb_good (ps := 340) (by decide +kernel) rfl
theorem t_341 : Cond.selects "java/lang/String" y_charAt y_charAt ∈ gGW := gtb_good (ps := 341) (by decide +kernel) rfl
theorem t_342 : Cond.code y_charAt prog_18_method_56_code 2 (some .char) ∈ gGW := gtb_good (ps := 342) (by decide +kernel) rfl
theorem t_343 : Cond.methodLink "java/lang/String" 492 y_isLatin1 ∈ gGW := gtb_good (ps := 343) (by decide +kernel) rfl
theorem t_344 : Cond.instanceMethod y_isLatin1 ∈ gGW := gtb_good (ps := 344) (by decide +kernel) rfl
theorem t_345 : Cond.selects "java/lang/String" y_isLatin1 y_isLatin1 ∈ gGW := gtb_good (ps := 345) (by decide +kernel) rfl
theorem t_346 : Cond.code y_isLatin1 prog_18_method_154_code 1 (some .boolean) ∈ gGW := gtb_good (ps := 346) (by decide +kernel) rfl
theorem t_347 : Cond.fieldLink "java/lang/String" 38 "java/lang/String" "COMPACT_STRINGS" "Z" ∈ gGW := gtb_good (ps := 347) (by decide +kernel) rfl
theorem t_349 : Cond.methodLink "java/lang/String" 495 y_charAtL ∈ gGW := gtb_good (ps := 349) (by decide +kernel) rfl
theorem t_350 : Cond.static y_charAtL ∈ gGW := gtb_good (ps := 350) (by decide +kernel) rfl
theorem t_351 : Cond.code y_charAtL prog_19_method_2_code 2 (some .char) ∈ gGW := gtb_good (ps := 351) (by decide +kernel) rfl
theorem t_352 : Cond.methodLink "java/lang/StringLatin1" 9 y_check ∈ gGW := gtb_good (ps := 352) (by decide +kernel) rfl
theorem t_353 : Cond.static y_check ∈ gGW := gtb_good (ps := 353) (by decide +kernel) rfl
theorem t_354 : Cond.code y_check prog_18_method_155_code 2 none ∈ gGW := gtb_good (ps := 354) (by decide +kernel) rfl
theorem t_355 : Cond.fieldLink "java/lang/String" 1053 "jdk/internal/util/Preconditions" "SIOOBE_FORMATTER" "Ljava/util/function/BiFunction;" ∈ gGW := gtb_good (ps := 355) (by decide +kernel) rfl
theorem t_357 : Cond.methodLink "java/lang/String" 1059 y_pre ∈ gGW := gtb_good (ps := 357) (by decide +kernel) rfl
theorem t_358 : Cond.static y_pre ∈ gGW := gtb_good (ps := 358) (by decide +kernel) rfl
theorem t_359 : Cond.code y_pre prog_23_method_11_code 3 (some .int) ∈ gGW := gtb_good (ps := 359) (by decide +kernel) rfl
theorem t_384 : Cond.methodLink "GiftShops$Scanner" 54 y_indexOf ∈ gGW := gtb_good (ps := 384) (by decide +kernel) rfl
theorem t_385 : Cond.instanceMethod y_indexOf ∈ gGW := gtb_good (ps := 385) (by decide +kernel) rfl
theorem t_386 : Cond.selects "java/lang/String" y_indexOf y_indexOf ∈ gGW := gtb_good (ps := 386) (by decide +kernel) rfl
theorem t_387 : Cond.code y_indexOf prog_18_method_79_code 2 (some .int) ∈ gGW := gtb_good (ps := 387) (by decide +kernel) rfl
theorem t_388 : Cond.methodLink "java/lang/String" 633 y_indexOf2 ∈ gGW := gtb_good (ps := 388) (by decide +kernel) rfl
theorem t_389 : Cond.instanceMethod y_indexOf2 ∈ gGW := gtb_good (ps := 389) (by decide +kernel) rfl
theorem t_390 : Cond.selects "java/lang/String" y_indexOf2 y_indexOf2 ∈ gGW := gtb_good (ps := 390) (by decide +kernel) rfl
theorem t_391 : Cond.code y_indexOf2 prog_18_method_80_code 3 (some .int) ∈ gGW := gtb_good (ps := 391) (by decide +kernel) rfl
theorem t_392 : Cond.methodLink "java/lang/String" 505 y_length ∈ gGW := gtb_good (ps := 392) (by decide +kernel) rfl
theorem t_393 : Cond.instanceMethod y_length ∈ gGW := gtb_good (ps := 393) (by decide +kernel) rfl
theorem t_394 : Cond.selects "java/lang/String" y_length y_length ∈ gGW := gtb_good (ps := 394) (by decide +kernel) rfl
theorem t_395 : Cond.code y_length prog_18_method_54_code 1 (some .int) ∈ gGW := gtb_good (ps := 395) (by decide +kernel) rfl
theorem t_396 : Cond.methodLink "java/lang/String" 335 y_coder ∈ gGW := gtb_good (ps := 396) (by decide +kernel) rfl
theorem t_397 : Cond.instanceMethod y_coder ∈ gGW := gtb_good (ps := 397) (by decide +kernel) rfl
theorem t_398 : Cond.selects "java/lang/String" y_coder y_coder ∈ gGW := gtb_good (ps := 398) (by decide +kernel) rfl
theorem t_399 : Cond.code y_coder prog_18_method_152_code 1 (some .byte) ∈ gGW := gtb_good (ps := 399) (by decide +kernel) rfl
theorem t_400 : Cond.methodLink "java/lang/String" 637 y_indexOfL ∈ gGW := gtb_good (ps := 400) (by decide +kernel) rfl
theorem t_401 : Cond.static y_indexOfL ∈ gGW := gtb_good (ps := 401) (by decide +kernel) rfl
theorem t_402 : Cond.code y_indexOfL prog_19_method_22_code 4 (some .int) ∈ gGW := gtb_good (ps := 402) (by decide +kernel) rfl
theorem t_403 : Cond.methodLink "java/lang/StringLatin1" 88 y_canEncode ∈ gGW := gtb_good (ps := 403) (by decide +kernel) rfl
theorem t_404 : Cond.static y_canEncode ∈ gGW := gtb_good (ps := 404) (by decide +kernel) rfl
theorem t_405 : Cond.code y_canEncode prog_19_method_4_code 1 (some .boolean) ∈ gGW := gtb_good (ps := 405) (by decide +kernel) rfl
theorem t_406 : Cond.methodLink "java/lang/StringLatin1" 92 y_max ∈ gGW := gtb_good (ps := 406) (by decide +kernel) rfl
theorem t_407 : Cond.static y_max ∈ gGW := gtb_good (ps := 407) (by decide +kernel) rfl
theorem t_408 : Cond.code y_max prog_16_method_65_code 2 (some .int) ∈ gGW := gtb_good (ps := 408) (by decide +kernel) rfl
theorem t_409 : Cond.methodLink "java/lang/StringLatin1" 38 y_min ∈ gGW := gtb_good (ps := 409) (by decide +kernel) rfl
theorem t_410 : Cond.static y_min ∈ gGW := gtb_good (ps := 410) (by decide +kernel) rfl
theorem t_411 : Cond.code y_min prog_16_method_69_code 2 (some .int) ∈ gGW := gtb_good (ps := 411) (by decide +kernel) rfl
theorem t_412 : Cond.methodLink "java/lang/StringLatin1" 95 y_indexOfChar ∈ gGW := gtb_good (ps := 412) (by decide +kernel) rfl
theorem t_413 : Cond.static y_indexOfChar ∈ gGW := gtb_good (ps := 413) (by decide +kernel) rfl
theorem t_414 : Cond.code y_indexOfChar prog_19_method_23_code 6 (some .int) ∈ gGW := gtb_good (ps := 414) (by decide +kernel) rfl
theorem t_1293 : Cond.fieldLink "java/lang/String" 15 "java/lang/String" "coder" "B" ∈ gGW := gtb_good (ps := 1293) (by decide +kernel) rfl
theorem t_1294 : Cond.fieldLink "java/lang/String" 9 "java/lang/String" "value" "[B" ∈ gGW := gtb_good (ps := 1294) (by decide +kernel) rfl
theorem t_11 : Cond.initialized "java/lang/String" ∈ gGW := gtb_good (ps := 11) (by decide +kernel) rfl
theorem t_12 : Cond.initialized "java/lang/StringLatin1" ∈ gGW := gtb_good (ps := 12) (by decide +kernel) rfl
theorem t_13 : Cond.initialized "jdk/internal/util/Preconditions" ∈ gGW := gtb_good (ps := 13) (by decide +kernel) rfl
theorem t_15 : Cond.initialized "java/lang/Math" ∈ gGW := gtb_good (ps := 15) (by decide +kernel) rfl
theorem t_29 : Cond.instanceMethod Lib.objectInit ∈ gGW := gtb_good (ps := 29) (by decide +kernel) rfl
theorem t_30 : Cond.code Lib.objectInit ⟨#[0xb1]⟩ 1 none ∈ gGW := gtb_good (ps := 30) (by decide +kernel) rfl
theorem d_isLatin1_0 : decode prog_18_method_154_code 0 = .ok (.getstatic 38, 3) := by decide +kernel
theorem d_isLatin1_3 : decode prog_18_method_154_code 3 = .ok (.ifCond .eq 14, 3) := by decide +kernel
theorem d_isLatin1_6 : decode prog_18_method_154_code 6 = .ok (.aload_n 0, 1) := by decide +kernel
theorem d_isLatin1_7 : decode prog_18_method_154_code 7 = .ok (.getfield 15, 3) := by decide +kernel
theorem d_isLatin1_10 : decode prog_18_method_154_code 10 = .ok (.ifCond .ne 7, 3) := by decide +kernel
theorem d_isLatin1_13 : decode prog_18_method_154_code 13 = .ok (.iconst 1, 1) := by decide +kernel
theorem d_isLatin1_14 : decode prog_18_method_154_code 14 = .ok (.goto 4, 3) := by decide +kernel
theorem d_isLatin1_18 : decode prog_18_method_154_code 18 = .ok (.ireturn, 1) := by decide +kernel
theorem d_charAt_0 : decode prog_18_method_56_code 0 = .ok (.aload_n 0, 1) := by decide +kernel
theorem d_charAt_1 : decode prog_18_method_56_code 1 = .ok (.invokevirtual 492, 3) := by decide +kernel
theorem d_charAt_4 : decode prog_18_method_56_code 4 = .ok (.ifCond .eq 12, 3) := by decide +kernel
theorem d_charAt_7 : decode prog_18_method_56_code 7 = .ok (.aload_n 0, 1) := by decide +kernel
theorem d_charAt_8 : decode prog_18_method_56_code 8 = .ok (.getfield 9, 3) := by decide +kernel
theorem d_charAt_11 : decode prog_18_method_56_code 11 = .ok (.iload_n 1, 1) := by decide +kernel
theorem d_charAt_12 : decode prog_18_method_56_code 12 = .ok (.invokestatic 495, 3) := by decide +kernel
theorem d_charAt_15 : decode prog_18_method_56_code 15 = .ok (.ireturn, 1) := by decide +kernel
theorem d_charAtL_0 : decode prog_19_method_2_code 0 = .ok (.iload_n 1, 1) := by decide +kernel
theorem d_charAtL_1 : decode prog_19_method_2_code 1 = .ok (.aload_n 0, 1) := by decide +kernel
theorem d_charAtL_2 : decode prog_19_method_2_code 2 = .ok (.arraylength, 1) := by decide +kernel
theorem d_charAtL_3 : decode prog_19_method_2_code 3 = .ok (.invokestatic 9, 3) := by decide +kernel
theorem d_charAtL_6 : decode prog_19_method_2_code 6 = .ok (.aload_n 0, 1) := by decide +kernel
theorem d_charAtL_7 : decode prog_19_method_2_code 7 = .ok (.iload_n 1, 1) := by decide +kernel
theorem d_charAtL_8 : decode prog_19_method_2_code 8 = .ok (.baload, 1) := by decide +kernel
theorem d_charAtL_9 : decode prog_19_method_2_code 9 = .ok (.sipush 255, 3) := by decide +kernel
theorem d_charAtL_12 : decode prog_19_method_2_code 12 = .ok (.iand, 1) := by decide +kernel
theorem d_charAtL_13 : decode prog_19_method_2_code 13 = .ok (.i2c, 1) := by decide +kernel
theorem d_charAtL_14 : decode prog_19_method_2_code 14 = .ok (.ireturn, 1) := by decide +kernel
theorem d_check_0 : decode prog_18_method_155_code 0 = .ok (.iload_n 0, 1) := by decide +kernel
theorem d_check_1 : decode prog_18_method_155_code 1 = .ok (.iload_n 1, 1) := by decide +kernel
theorem d_check_2 : decode prog_18_method_155_code 2 = .ok (.getstatic 1053, 3) := by decide +kernel
theorem d_check_5 : decode prog_18_method_155_code 5 = .ok (.invokestatic 1059, 3) := by decide +kernel
theorem d_check_8 : decode prog_18_method_155_code 8 = .ok (.pop, 1) := by decide +kernel
theorem d_check_9 : decode prog_18_method_155_code 9 = .ok (.return_, 1) := by decide +kernel
theorem d_pre_0 : decode prog_23_method_11_code 0 = .ok (.iload_n 0, 1) := by decide +kernel
theorem d_pre_1 : decode prog_23_method_11_code 1 = .ok (.ifCond .lt 8, 3) := by decide +kernel
theorem d_pre_4 : decode prog_23_method_11_code 4 = .ok (.iload_n 0, 1) := by decide +kernel
theorem d_pre_5 : decode prog_23_method_11_code 5 = .ok (.iload_n 1, 1) := by decide +kernel
theorem d_pre_6 : decode prog_23_method_11_code 6 = .ok (.if_icmp .lt 10, 3) := by decide +kernel
theorem d_pre_16 : decode prog_23_method_11_code 16 = .ok (.iload_n 0, 1) := by decide +kernel
theorem d_pre_17 : decode prog_23_method_11_code 17 = .ok (.ireturn, 1) := by decide +kernel
theorem d_indexOf_0 : decode prog_18_method_79_code 0 = .ok (.aload_n 0, 1) := by decide +kernel
theorem d_indexOf_1 : decode prog_18_method_79_code 1 = .ok (.iload_n 1, 1) := by decide +kernel
theorem d_indexOf_2 : decode prog_18_method_79_code 2 = .ok (.iconst 0, 1) := by decide +kernel
theorem d_indexOf_3 : decode prog_18_method_79_code 3 = .ok (.invokevirtual 633, 3) := by decide +kernel
theorem d_indexOf_6 : decode prog_18_method_79_code 6 = .ok (.ireturn, 1) := by decide +kernel
theorem d_indexOf2_0 : decode prog_18_method_80_code 0 = .ok (.aload_n 0, 1) := by decide +kernel
theorem d_indexOf2_1 : decode prog_18_method_80_code 1 = .ok (.invokevirtual 492, 3) := by decide +kernel
theorem d_indexOf2_4 : decode prog_18_method_80_code 4 = .ok (.ifCond .eq 19, 3) := by decide +kernel
theorem d_indexOf2_7 : decode prog_18_method_80_code 7 = .ok (.aload_n 0, 1) := by decide +kernel
theorem d_indexOf2_8 : decode prog_18_method_80_code 8 = .ok (.getfield 9, 3) := by decide +kernel
theorem d_indexOf2_11 : decode prog_18_method_80_code 11 = .ok (.iload_n 1, 1) := by decide +kernel
theorem d_indexOf2_12 : decode prog_18_method_80_code 12 = .ok (.iload_n 2, 1) := by decide +kernel
theorem d_indexOf2_13 : decode prog_18_method_80_code 13 = .ok (.aload_n 0, 1) := by decide +kernel
theorem d_indexOf2_14 : decode prog_18_method_80_code 14 = .ok (.invokevirtual 505, 3) := by decide +kernel
theorem d_indexOf2_17 : decode prog_18_method_80_code 17 = .ok (.invokestatic 637, 3) := by decide +kernel
theorem d_indexOf2_20 : decode prog_18_method_80_code 20 = .ok (.goto 16, 3) := by decide +kernel
theorem d_indexOf2_36 : decode prog_18_method_80_code 36 = .ok (.ireturn, 1) := by decide +kernel
theorem d_length_0 : decode prog_18_method_54_code 0 = .ok (.aload_n 0, 1) := by decide +kernel
theorem d_length_1 : decode prog_18_method_54_code 1 = .ok (.getfield 9, 3) := by decide +kernel
theorem d_length_4 : decode prog_18_method_54_code 4 = .ok (.arraylength, 1) := by decide +kernel
theorem d_length_5 : decode prog_18_method_54_code 5 = .ok (.aload_n 0, 1) := by decide +kernel
theorem d_length_6 : decode prog_18_method_54_code 6 = .ok (.invokevirtual 335, 3) := by decide +kernel
theorem d_length_9 : decode prog_18_method_54_code 9 = .ok (.ishr, 1) := by decide +kernel
theorem d_length_10 : decode prog_18_method_54_code 10 = .ok (.ireturn, 1) := by decide +kernel
theorem d_coder_0 : decode prog_18_method_152_code 0 = .ok (.getstatic 38, 3) := by decide +kernel
theorem d_coder_3 : decode prog_18_method_152_code 3 = .ok (.ifCond .eq 10, 3) := by decide +kernel
theorem d_coder_6 : decode prog_18_method_152_code 6 = .ok (.aload_n 0, 1) := by decide +kernel
theorem d_coder_7 : decode prog_18_method_152_code 7 = .ok (.getfield 15, 3) := by decide +kernel
theorem d_coder_10 : decode prog_18_method_152_code 10 = .ok (.goto 4, 3) := by decide +kernel
theorem d_coder_14 : decode prog_18_method_152_code 14 = .ok (.ireturn, 1) := by decide +kernel
theorem d_indexOfL_0 : decode prog_19_method_22_code 0 = .ok (.iload_n 1, 1) := by decide +kernel
theorem d_indexOfL_1 : decode prog_19_method_22_code 1 = .ok (.invokestatic 88, 3) := by decide +kernel
theorem d_indexOfL_4 : decode prog_19_method_22_code 4 = .ok (.ifCond .ne 5, 3) := by decide +kernel
theorem d_indexOfL_9 : decode prog_19_method_22_code 9 = .ok (.iload_n 2, 1) := by decide +kernel
theorem d_indexOfL_10 : decode prog_19_method_22_code 10 = .ok (.iconst 0, 1) := by decide +kernel
theorem d_indexOfL_11 : decode prog_19_method_22_code 11 = .ok (.invokestatic 92, 3) := by decide +kernel
theorem d_indexOfL_14 : decode prog_19_method_22_code 14 = .ok (.istore_n 2, 1) := by decide +kernel
theorem d_indexOfL_15 : decode prog_19_method_22_code 15 = .ok (.iload_n 3, 1) := by decide +kernel
theorem d_indexOfL_16 : decode prog_19_method_22_code 16 = .ok (.aload_n 0, 1) := by decide +kernel
theorem d_indexOfL_17 : decode prog_19_method_22_code 17 = .ok (.arraylength, 1) := by decide +kernel
theorem d_indexOfL_18 : decode prog_19_method_22_code 18 = .ok (.invokestatic 38, 3) := by decide +kernel
theorem d_indexOfL_21 : decode prog_19_method_22_code 21 = .ok (.istore_n 3, 1) := by decide +kernel
theorem d_indexOfL_22 : decode prog_19_method_22_code 22 = .ok (.iload_n 2, 1) := by decide +kernel
theorem d_indexOfL_23 : decode prog_19_method_22_code 23 = .ok (.iload_n 3, 1) := by decide +kernel
theorem d_indexOfL_24 : decode prog_19_method_22_code 24 = .ok (.if_icmp .lt 5, 3) := by decide +kernel
theorem d_indexOfL_29 : decode prog_19_method_22_code 29 = .ok (.aload_n 0, 1) := by decide +kernel
theorem d_indexOfL_30 : decode prog_19_method_22_code 30 = .ok (.iload_n 1, 1) := by decide +kernel
theorem d_indexOfL_31 : decode prog_19_method_22_code 31 = .ok (.iload_n 2, 1) := by decide +kernel
theorem d_indexOfL_32 : decode prog_19_method_22_code 32 = .ok (.iload_n 3, 1) := by decide +kernel
theorem d_indexOfL_33 : decode prog_19_method_22_code 33 = .ok (.invokestatic 95, 3) := by decide +kernel
theorem d_indexOfL_36 : decode prog_19_method_22_code 36 = .ok (.ireturn, 1) := by decide +kernel
theorem d_canEncode_0 : decode prog_19_method_4_code 0 = .ok (.iload_n 0, 1) := by decide +kernel
theorem d_canEncode_1 : decode prog_19_method_4_code 1 = .ok (.ifCond .lt 14, 3) := by decide +kernel
theorem d_canEncode_4 : decode prog_19_method_4_code 4 = .ok (.iload_n 0, 1) := by decide +kernel
theorem d_canEncode_5 : decode prog_19_method_4_code 5 = .ok (.sipush 255, 3) := by decide +kernel
theorem d_canEncode_8 : decode prog_19_method_4_code 8 = .ok (.if_icmp .gt 7, 3) := by decide +kernel
theorem d_canEncode_11 : decode prog_19_method_4_code 11 = .ok (.iconst 1, 1) := by decide +kernel
theorem d_canEncode_12 : decode prog_19_method_4_code 12 = .ok (.goto 4, 3) := by decide +kernel
theorem d_canEncode_16 : decode prog_19_method_4_code 16 = .ok (.ireturn, 1) := by decide +kernel
theorem d_indexOfChar_0 : decode prog_19_method_23_code 0 = .ok (.iload_n 1, 1) := by decide +kernel
theorem d_indexOfChar_1 : decode prog_19_method_23_code 1 = .ok (.i2b, 1) := by decide +kernel
theorem d_indexOfChar_2 : decode prog_19_method_23_code 2 = .ok (.istore 4, 2) := by decide +kernel
theorem d_indexOfChar_4 : decode prog_19_method_23_code 4 = .ok (.iload_n 2, 1) := by decide +kernel
theorem d_indexOfChar_5 : decode prog_19_method_23_code 5 = .ok (.istore 5, 2) := by decide +kernel
theorem d_indexOfChar_7 : decode prog_19_method_23_code 7 = .ok (.iload 5, 2) := by decide +kernel
theorem d_indexOfChar_9 : decode prog_19_method_23_code 9 = .ok (.iload_n 3, 1) := by decide +kernel
theorem d_indexOfChar_10 : decode prog_19_method_23_code 10 = .ok (.if_icmp .ge 21, 3) := by decide +kernel
theorem d_indexOfChar_13 : decode prog_19_method_23_code 13 = .ok (.aload_n 0, 1) := by decide +kernel
theorem d_indexOfChar_14 : decode prog_19_method_23_code 14 = .ok (.iload 5, 2) := by decide +kernel
theorem d_indexOfChar_16 : decode prog_19_method_23_code 16 = .ok (.baload, 1) := by decide +kernel
theorem d_indexOfChar_17 : decode prog_19_method_23_code 17 = .ok (.iload 4, 2) := by decide +kernel
theorem d_indexOfChar_19 : decode prog_19_method_23_code 19 = .ok (.if_icmp .ne 6, 3) := by decide +kernel
theorem d_indexOfChar_22 : decode prog_19_method_23_code 22 = .ok (.iload 5, 2) := by decide +kernel
theorem d_indexOfChar_24 : decode prog_19_method_23_code 24 = .ok (.ireturn, 1) := by decide +kernel
theorem d_indexOfChar_25 : decode prog_19_method_23_code 25 = .ok (.iinc 5 1, 3) := by decide +kernel
theorem d_indexOfChar_28 : decode prog_19_method_23_code 28 = .ok (.goto (-21), 3) := by decide +kernel
theorem d_indexOfChar_31 : decode prog_19_method_23_code 31 = .ok (.iconst (-1), 1) := by decide +kernel
theorem d_indexOfChar_32 : decode prog_19_method_23_code 32 = .ok (.ireturn, 1) := by decide +kernel
/-! ===== the JDK's leaves: contracts ===== -/
def sJ (B : Nat) (ex adV : Nat → Nat) (U : State) : Prop := va_Z "java/lang/String" "COMPACT_STRINGS" "Z" (.int 1) (fun q => B ≤ q) U U.heap ∧ va_Zq "jdk/internal/util/Preconditions" "SIOOBE_FORMATTER" "Ljava/util/function/BiFunction;" (fun q => B ≤ q) U U.heap ∧ vk_S 2 [96, 7] [gby1, gby2] (fun i => ex (2000000001 + i)) adV (fun q => B ≤ q) U U.heap
theorem sJ_to {B : Nat} {ex adV : Nat → Nat} {u U : State} (hh : U.heap = u.heap) (hvm : u.vm.Alike U.vm) (h : sJ B ex adV u) : sJ B ex adV U := by
  unfold sJ
  rw [hh]
  exact ⟨va_Z.moved hvm h.1, va_Zq.moved hvm h.2.1, vk_S.moved hvm h.2.2⟩
def sPc (B : Nat) (ex adV : Nat → Nat) (as : List Value) : Array Value → State → Prop := fun a U => a = as.toArray ∧ sJ B ex adV U
theorem sPc_blind {B : Nat} {ex adV : Nat → Nat} {as : List Value} : FrameBlind (sPc B ex adV as) := by
  intro a U g mk h
  exact ⟨h.1, sJ_to (u := U) (U := U.calling g mk a) rfl (Vm.Alike.refl U.vm) h.2⟩
def sQc (v : Option Value) : Array Value → State → Outcome → State → Prop := fun _ U o t => o = .returned v ∧ t.heap = U.heap
def srm (d : Nat) : Room := { frames := d, cells := 0, slots := 0, locals := 40 * d }
def sws (y : MethodName) (cc : ByteArray) (nL : Nat) (ret : Option FieldType) : List Cond := .code y cc nL ret :: gGW
def sMet (l : Launch) (B : Nat) (ex adV : Nat → Nat) (d : Nat) (y : MethodName) (cc : ByteArray) (nL : Nat) (ret : Option FieldType) (as : List Value) (v : Option Value) : Prop := Met l y (sws y cc nL ret) (srm d) (sPc B ex adV as) (sQc v) 0 0 (fun q => B ≤ q)
theorem sws_good {y : MethodName} {cc : ByteArray} {nL : Nat} {ret : Option FieldType} (h : Cond.code y cc nL ret ∈ gGW) : GoodIn gGW (sws y cc nL ret) := by
  intro w hw
  rcases List.mem_cons.mp hw with rfl | hw
  · exact ⟨h, gGW_good h⟩
  · exact ⟨hw, gGW_good hw⟩
abbrev sCx (p : Program) (s : State) (m : MethodId) (args : Array Value) (meth : Method) (c : Code) (cc : ByteArray) (nL : Nat) (own : String) (ret : Option FieldType) (B : Nat) (ex adV : Nat → Nat) : Prop :=
  p.tables.exec = Jvm.exec ∧ c.code = cc ∧ c.maxLocals = nL ∧ s.vm.findClass own = some m.cls ∧ (∀ w ∈ gGW, w.before args s = true) ∧ meth.sig.returnType = ret ∧ meth.locks = false ∧ sJ B ex adV s
abbrev sW (p : Program) (l : Launch) (e : Env) (R : Room) (s : State) (m : MethodId) (args : Array Value) (below : List Frame) (meth : Method) (c : Code) (B : Nat) (v : Option Value) (pc : Nat) (ls : Array Slot) (st : List Value) : Prop :=
  ∀ locs : List Loc, (∀ q ∈ locs, B ≤ q.base) → W p l e R s m args below meth c s.heap locs 0 0 (MQ below (sQc v) args s 0 0 (fun q => B ≤ q)) (F0 m pc ls st)
theorem s_at {ls : Array Slot} {nL : Nat} {lv : List (Nat × Value)} (h : lv_has ls nL lv) (k : Nat) {i : Nat} {v : Value} (hk : lv[k]? = some (i, v)) : ls[i]? = some (.val v) := h.2.2 (i, v) (List.mem_of_getElem? hk)
section SMM
variable {l : Launch} {B d : Nat} {ex adV : Nat → Nat}
theorem s_met {y : MethodName} {cc : ByteArray} {nL : Nat} {ret : Option FieldType} {as : List Value} {v : Option Value} (hpl : plainName y.cls = true) (hlen : (lg_sl as).length ≤ nL)
    (body : ∀ (p : Program) (e : Env) (R : Room) (s : State) (m : MethodId) (args : Array Value) (below : List Frame) (meth : Method) (c : Code) (ls : Array Slot), sCx p s m args meth c cc nL y.cls ret B ex adV → d ≤ R.frames → 40 * d ≤ R.locals → lv_has ls nL (lv_args 0 as) → sW p l e R s m args below meth c B v 0 ls []) : sMet l B ex adV d y cc nL ret as v := by
  refine Met.ofW (cc := cc) (maxL := nL) (ret := ret) hpl rfl ?_
  intro p e s m args below meth c s₁ Bd hml hv
  obtain ⟨rfl, hJ⟩ := hv
  have hts0 := atoms_spec (ws := sws y cc nL ret) Bd.pre
  have hts : ∀ w ∈ gGW, w.before _ s = true := fun w hw => hts0 w (List.mem_cons_of_mem _ hw)
  rw [lg_entry_eq]
  exact body p e (headSpec (sws y cc nL ret) (srm d)).room s m _ below meth c _ ⟨Bd.exec, Bd.bytes, hml, findClass_of_methodNamed Bd.named, hts, Bd.returns, Bd.notSynchronized, hJ⟩ (Nat.le_refl _) (Nat.le_refl _) (lv_entry as hlen) [] (fun q h => by cases h)
section SC
variable {p : Program} {e : Env} {R : Room} {s : State} {m : MethodId} {args : Array Value} {below : List Frame} {meth : Method} {c : Code} {cc : ByteArray} {nL : Nat} {own : String} {ret : Option FieldType} {v : Option Value} {pc idx : Nat} {ls : Array Slot} {rest st0 st1 : List Value}
variable {y : MethodName} {cc' : ByteArray} {nL' d' : Nat} {ret' : Option FieldType} {as : List Value} {v' : Option Value}
theorem sc_S (na : Nat) (X : sCx p s m args meth c cc nL own ret B ex adV) (hM : sMet l B ex adV d' y cc' nL' ret' as v') (hcode : Cond.code y cc' nL' ret' ∈ gGW) (hini : Cond.initialized y.cls ∈ gGW) (hlk : Cond.methodLink own idx y ∈ gGW) (hst : Cond.static y ∈ gGW)
    (hy : y.cls ≠ "java/lang/invoke/MethodHandle" ∧ y.cls ≠ "java/lang/invoke/VarHandle" ∧ (parseMethodDescriptor y.desc).map (fun d => d.parameters.length) = some na) (hna : as.length = na) (hdr : d' + 1 ≤ R.frames) (hdl : 8 + (nL' + 11) + 40 * d' ≤ R.locals) (hsz : ls.size = nL) (hroom : (rest.map fun v => v.category).sum ≤ 8) (hd : decode cc pc = .ok (.invokestatic idx, 3))
    (h0 : as.reverse ++ rest = st0) (h1 : v'.toList ++ rest = st1) (k : sW p l e R s m args below meth c B v (pc + 3) ls st1) : sW p l e R s m args below meth c B v pc ls st0 := by
  intro locs hl
  subst h0; subst h1
  obtain ⟨hx, hb, hml, hown, hts, hr, hlk0, hJ⟩ := X
  have hF : CallFix p m c cc nL s args gGW own := ⟨hx, hb, hml, hown, hts⟩
  refine g_callX (va_runS (As := as) (rest := rest) hF hM ⟨callB_of na hts (sws_good hcode) rfl rfl rfl (hts _ hini) (hts _ hlk) hy ⟨hdr, hdl⟩, hts _ hst⟩ ⟨sPc_blind, fun U hU hW => ⟨rfl, sJ_to hU hW.alike hJ⟩⟩ rfl hna hsz rfl (lv_room hroom) hd ⟨Nat.zero_le _, Nat.zero_le _⟩) ?_
  intro w st₀ t L1 hh0 hal hL hq
  obtain ⟨h1, h2⟩ := hq
  cases h1
  rw [h2, hh0]
  exact k (locs ++ L1) (fun q hq => (List.mem_append.mp hq).elim (hl q) (hL q))
theorem sc_V {i : Nat} (na : Nat) (X : sCx p s m args meth c cc nL own ret B ex adV) (hi : i < 2) (hM : sMet l B ex adV d' y cc' nL' ret' (.ref (ex (2000000001 + i)) :: as) v') (hC : y.cls = "java/lang/String") (hcode : Cond.code y cc' nL' ret' ∈ gGW) (hini : Cond.initialized y.cls ∈ gGW) (hlk : Cond.methodLink own idx y ∈ gGW) (hin : Cond.instanceMethod y ∈ gGW) (hse : Cond.selects "java/lang/String" y y ∈ gGW)
    (hy : y.cls ≠ "java/lang/invoke/MethodHandle" ∧ y.cls ≠ "java/lang/invoke/VarHandle" ∧ (parseMethodDescriptor y.desc).map (fun d => d.parameters.length) = some na) (hna : as.length = na) (hdr : d' + 1 ≤ R.frames) (hdl : 8 + (nL' + 11) + 40 * d' ≤ R.locals) (hsz : ls.size = nL) (hroom : (rest.map fun v => v.category).sum ≤ 8) (hd : decode cc pc = .ok (.invokevirtual idx, 3))
    (h0 : as.reverse ++ .ref (ex (2000000001 + i)) :: rest = st0) (h1 : v'.toList ++ rest = st1) (k : sW p l e R s m args below meth c B v (pc + 3) ls st1) : sW p l e R s m args below meth c B v pc ls st0 := by
  intro locs hl
  subst h0; subst h1
  obtain ⟨hx, hb, hml, hown, hts, hr, hlk0, hJ⟩ := X
  have hF : CallFix p m c cc nL s args gGW own := ⟨hx, hb, hml, hown, hts⟩
  refine g_callX (va_runV (As := as) (rest := rest) (b := ex (2000000001 + i)) (C := "java/lang/String") hF hM ⟨callB_of na hts (sws_good hcode) rfl rfl rfl (hts _ hini) (hts _ hlk) hy ⟨hdr, hdl⟩, hts _ hin, hts _ hse⟩ ⟨sPc_blind, vk_recv (adK := fun i => ex (2000000001 + i)) (i := i) hJ.2.2 hi ⟨Nat.le_refl _, fun _ _ _ => rfl, hl⟩, fun U hU hW => ⟨rfl, sJ_to hU hW.alike hJ⟩⟩ rfl hna hsz rfl (lv_room hroom) hd ⟨Nat.zero_le _, Nat.zero_le _⟩) ?_
  intro w st₀ t L1 hh0 hal hL hq
  obtain ⟨h1, h2⟩ := hq
  cases h1
  rw [h2, hh0]
  exact k (locs ++ L1) (fun q hq => (List.mem_append.mp hq).elim (hl q) (hL q))
end SC
theorem s_isLatin1 {i : Nat} (hi : i < 2) : sMet l B ex adV 0 y_isLatin1 prog_18_method_154_code 1 (some .boolean) [.ref (ex (2000000001 + i))] (some (.int 1)) := by
  refine s_met rfl (Nat.le_refl 1) ?_
  intro p e R s m args below meth c ls X hf hlc hL locs hlo
  obtain ⟨hx, hb, hml, hown, hts, hr, hlocks, hJ⟩ := X
  have hS : va_S (fun q => B ≤ q) s.heap s.heap locs := ⟨Nat.le_refl _, fun _ _ _ => rfl, hlo⟩
  refine va_gets hx hb hJ.1 hS hown (hts _ t_347) (fun _ h => h) d_isLatin1_0 ?_
  refine lv_if_eq hx hb d_isLatin1_3 (tgt := 17) (by decide) (fun h => absurd h (by decide)) (fun _ => ?_)
  refine lv_aload_n hx hb d_isLatin1_6 rfl (s_at hL 0 rfl) ?_
  refine vk_getf hx hb (hJ.2.2.1 i hi).2.1 hS hown (hts _ t_1293) (fun _ h => h) d_isLatin1_7 ?_
  refine lv_if_ne hx hb d_isLatin1_10 (tgt := 17) (by decide) (fun h => absurd rfl h) (fun _ => ?_)
  refine lv_iconst hx hb d_isLatin1_13 rfl ?_
  refine lv_goto hx hb d_isLatin1_14 (tgt := 18) (by decide) ?_
  exact W.zret hx hb hr (by decide) (fun t ht hW => ⟨rfl, ht⟩) hlo d_isLatin1_18
theorem s_pre {n N : Nat} (h : n < N) (hN : N < 2 ^ 31) {w : Value} (hw : w = .null ∨ ∃ t, w = .ref t) : sMet l B ex adV 0 y_pre prog_23_method_11_code 3 (some .int) [.int (nI n), .int (nI N), w] (some (.int (nI n))) := by
  refine s_met rfl (by rcases hw with rfl | ⟨t, rfl⟩ <;> exact Nat.le_refl 3) ?_
  intro p e R s m args below meth c ls X hf hlc hL locs hlo
  obtain ⟨hx, hb, hml, hown, hts, hr, hlocks, hJ⟩ := X
  refine lv_iload_n hx hb d_pre_0 rfl (s_at hL 0 rfl) ?_
  refine lv_if_lt hx hb d_pre_1 (tgt := 9) (by decide) (fun h0 => absurd h0 (nI_pos (by omega))) (fun _ => ?_)
  refine lv_iload_n hx hb d_pre_4 rfl (s_at hL 0 rfl) ?_
  refine lv_iload_n hx hb d_pre_5 rfl (s_at hL 1 rfl) ?_
  refine lv_icmp_lt hx hb d_pre_6 (tgt := 16) (by decide) (fun _ => ?_) (fun h0 => absurd (nI_lt h hN) h0)
  refine lv_iload_n hx hb d_pre_16 rfl (s_at hL 0 rfl) ?_
  exact W.iret hx hb hr (fun t ht hW => ⟨rfl, ht⟩) hlo d_pre_17
theorem s_check {n N : Nat} (h : n < N) (hN : N < 2 ^ 31) : sMet l B ex adV 1 y_check prog_18_method_155_code 2 none [.int (nI n), .int (nI N)] none := by
  refine s_met rfl (Nat.le_refl 2) ?_
  intro p e R s m args below meth c ls X hf hlc hL locs hlo
  have X0 := X
  obtain ⟨hx, hb, hml, hown, hts, hr, hlocks, hJ⟩ := X
  have hS : va_S (fun q => B ≤ q) s.heap s.heap locs := ⟨Nat.le_refl _, fun _ _ _ => rfl, hlo⟩
  obtain ⟨w, hw, hZ⟩ : ∃ w : Value, (w = .null ∨ ∃ t, w = .ref t) ∧ va_Z "jdk/internal/util/Preconditions" "SIOOBE_FORMATTER" "Ljava/util/function/BiFunction;" w (fun q => B ≤ q) s s.heap := by
    rcases hJ.2.1 with h | ⟨t, h⟩
    · exact ⟨_, Or.inl rfl, h⟩
    · exact ⟨_, Or.inr ⟨t, rfl⟩, h⟩
  refine lv_iload_n hx hb d_check_0 rfl (s_at hL 0 rfl) ?_
  refine lv_iload_n hx hb d_check_1 rfl (s_at hL 1 rfl) ?_
  refine va_gets hx hb hZ hS hown (hts _ t_355) (fun _ h => h) d_check_2 ?_
  refine sc_S 3 X0 (s_pre h hN hw) t_359 t_13 t_357 t_358 ⟨by decide, by decide, by decide +kernel⟩ rfl (by omega) (by omega) hL.1 (rest := []) (by decide) d_check_5 rfl rfl ?_ locs hlo
  intro locs hlo
  refine lv_pop hx hb d_check_8 rfl ?_
  exact W.vret hx hb hr (fun t ht hW => ⟨rfl, ht⟩) hlo d_check_9
theorem s_chr : ∀ n, n < 96 → ((([gby1, gby2].getD 0 []).getD n 0 &&& 255).toUInt32 % 65536).toInt32 = nI (gtx1.getD n 0) ∧ narrow .char (.int (nI (gtx1.getD n 0))) = .int (nI (gtx1.getD n 0)) := by decide +kernel
theorem s_charAtL {n : Nat} (hn : n < 96) : sMet l B ex adV 2 y_charAtL prog_19_method_2_code 2 (some .char) [.ref (adV 0), .int (nI n)] (some (.int (nI (gtx1.getD n 0)))) := by
  refine s_met rfl (Nat.le_refl 2) ?_
  intro p e R s m args below meth c ls X hf hlc hL locs hlo
  have X0 := X
  obtain ⟨hx, hb, hml, hown, hts, hr, hlocks, hJ⟩ := X
  obtain ⟨cell, h1, h2, h3, h4, h5, h6, h7⟩ := (hJ.2.2.1 0 (by omega)).2.2.2
  refine lv_iload_n hx hb d_charAtL_0 rfl (s_at hL 1 rfl) ?_
  refine lv_aload_n hx hb d_charAtL_1 rfl (s_at hL 0 rfl) ?_
  refine W.alen hx hb h1 h2 h5 rfl rfl d_charAtL_2 ?_
  refine sc_S 2 X0 (s_check (n := n) (N := 96) hn (by decide)) t_354 t_11 t_352 t_353 ⟨by decide, by decide, by decide +kernel⟩ rfl (by omega) (by omega) hL.1 (rest := []) (by decide) d_charAtL_3 rfl rfl ?_ locs hlo
  intro locs hlo
  refine lv_aload_n hx hb d_charAtL_6 rfl (s_at hL 0 rfl) ?_
  refine lv_iload_n hx hb d_charAtL_7 rfl (s_at hL 1 rfl) ?_
  have hc : (nI n).toNatClampNeg = n := nI_clamp (by omega)
  have h4' : 96 ≤ cell.slots.size := h4
  refine W.bald hx hb h1 h2 h3 (by rw [hc]; intro h0; rcases h0 with h0 | h0; exact nI_pos (by omega) h0; omega) (by rw [hc]; exact h6 n hn) rfl rfl d_charAtL_8 ?_
  refine lv_sipush hx hb d_charAtL_9 rfl ?_
  refine lv_iand hx hb d_charAtL_12 ?_
  refine lv_i2c hx hb d_charAtL_13 (s_chr n hn).1 ?_
  exact W.zret hx hb hr (s_chr n hn).2 (fun t ht hW => ⟨rfl, ht⟩) hlo d_charAtL_14
theorem s_charAt {n : Nat} (hn : n < 96) : sMet l B ex adV 3 y_charAt prog_18_method_56_code 2 (some .char) [.ref (ex (2000000001 + 0)), .int (nI n)] (some (.int (nI (gtx1.getD n 0)))) := by
  refine s_met rfl (Nat.le_refl 2) ?_
  intro p e R s m args below meth c ls X hf hlc hL locs hlo
  have X0 := X
  obtain ⟨hx, hb, hml, hown, hts, hr, hlocks, hJ⟩ := X
  refine lv_aload_n hx hb d_charAt_0 rfl (s_at hL 0 rfl) ?_
  refine sc_V 0 X0 (i := 0) (by omega) (s_isLatin1 (i := 0) (by omega)) rfl t_346 t_11 t_343 t_344 t_345 ⟨by decide, by decide, by decide +kernel⟩ rfl (by omega) (by omega) hL.1 (rest := []) (by decide) d_charAt_1 rfl rfl ?_ locs hlo
  intro locs hlo
  refine lv_if_eq hx hb d_charAt_4 (tgt := 16) (by decide) (fun h => absurd h (by decide)) (fun _ => ?_)
  refine lv_aload_n hx hb d_charAt_7 rfl (s_at hL 0 rfl) ?_
  refine vk_getf hx hb (hJ.2.2.1 0 (by omega)).2.2.1 ⟨Nat.le_refl _, fun _ _ _ => rfl, hlo⟩ hown (hts _ t_1294) (fun _ h => h) d_charAt_8 ?_
  refine lv_iload_n hx hb d_charAt_11 rfl (s_at hL 1 rfl) ?_
  refine sc_S 2 X0 (s_charAtL hn) t_351 t_12 t_349 t_350 ⟨by decide, by decide, by decide +kernel⟩ rfl (by omega) (by omega) hL.1 (rest := []) (by decide) d_charAt_12 rfl rfl ?_ locs hlo
  intro locs hlo
  exact W.zret hx hb hr (s_chr n hn).2 (fun t ht hW => ⟨rfl, ht⟩) hlo d_charAt_15
end SMM
section SMI
variable {l : Launch} {B : Nat} {ex adV : Nat → Nat}
theorem s_coder {i : Nat} (hi : i < 2) : sMet l B ex adV 0 y_coder prog_18_method_152_code 1 (some .byte) [.ref (ex (2000000001 + i))] (some (.int 0)) := by
  refine s_met rfl (Nat.le_refl 1) ?_
  intro p e R s m args below meth c ls X hf hlc hL locs hlo
  obtain ⟨hx, hb, hml, hown, hts, hr, hlocks, hJ⟩ := X
  have hS : va_S (fun q => B ≤ q) s.heap s.heap locs := ⟨Nat.le_refl _, fun _ _ _ => rfl, hlo⟩
  refine va_gets hx hb hJ.1 hS hown (hts _ t_347) (fun _ h => h) d_coder_0 ?_
  refine lv_if_eq hx hb d_coder_3 (tgt := 13) (by decide) (fun h => absurd h (by decide)) (fun _ => ?_)
  refine lv_aload_n hx hb d_coder_6 rfl (s_at hL 0 rfl) ?_
  refine vk_getf hx hb (hJ.2.2.1 i hi).2.1 hS hown (hts _ t_1293) (fun _ h => h) d_coder_7 ?_
  refine lv_goto hx hb d_coder_10 (tgt := 14) (by decide) ?_
  exact W.zret hx hb hr (by decide) (fun t ht hW => ⟨rfl, ht⟩) hlo d_coder_14
theorem s_length : sMet l B ex adV 1 y_length prog_18_method_54_code 1 (some .int) [.ref (ex (2000000001 + 1))] (some (.int (nI 7))) := by
  refine s_met rfl (Nat.le_refl 1) ?_
  intro p e R s m args below meth c ls X hf hlc hL locs hlo
  have X0 := X
  obtain ⟨hx, hb, hml, hown, hts, hr, hlocks, hJ⟩ := X
  obtain ⟨cell, h1, h2, h3, h4, h5, h6, h7⟩ := (hJ.2.2.1 1 (by omega)).2.2.2
  refine lv_aload_n hx hb d_length_0 rfl (s_at hL 0 rfl) ?_
  refine vk_getf hx hb (hJ.2.2.1 1 (by omega)).2.2.1 ⟨Nat.le_refl _, fun _ _ _ => rfl, hlo⟩ hown (hts _ t_1294) (fun _ h => h) d_length_1 ?_
  refine W.alen hx hb h1 h2 h5 rfl rfl d_length_4 ?_
  refine lv_aload_n hx hb d_length_5 rfl (s_at hL 0 rfl) ?_
  refine sc_V 0 X0 (i := 1) (by omega) (s_coder (i := 1) (by omega)) rfl t_399 t_11 t_396 t_397 t_398 ⟨by decide, by decide, by decide +kernel⟩ rfl (by omega) (by omega) hL.1 (rest := [.int (nI 7)]) (by decide) d_length_6 rfl rfl ?_ locs hlo
  intro locs hlo
  refine lv_ishr hx hb d_length_9 ?_
  exact W.iret hx hb hr (fun t ht hW => ⟨by decide, ht⟩) hlo d_length_10
theorem s_canEncode {n : Nat} (hn : n < 256) : sMet l B ex adV 0 y_canEncode prog_19_method_4_code 1 (some .boolean) [.int (nI n)] (some (.int 1)) := by
  refine s_met rfl (Nat.le_refl 1) ?_
  intro p e R s m args below meth c ls X hf hlc hL locs hlo
  obtain ⟨hx, hb, hml, hown, hts, hr, hlocks, hJ⟩ := X
  refine lv_iload_n hx hb d_canEncode_0 rfl (s_at hL 0 rfl) ?_
  refine lv_if_lt hx hb d_canEncode_1 (tgt := 15) (by decide) (fun h0 => absurd h0 (nI_pos (by omega))) (fun _ => ?_)
  refine lv_iload_n hx hb d_canEncode_4 rfl (s_at hL 0 rfl) ?_
  refine lv_sipush hx hb d_canEncode_5 rfl ?_
  refine lv_icmp_gt hx hb d_canEncode_8 (tgt := 15) (by decide) (fun h0 => absurd h0 (nI_nlt (a := 255) (b := n) (by omega) (by omega))) (fun _ => ?_)
  refine lv_iconst hx hb d_canEncode_11 rfl ?_
  refine lv_goto hx hb d_canEncode_12 (tgt := 16) (by decide) ?_
  exact W.zret hx hb hr (by decide) (fun t ht hW => ⟨rfl, ht⟩) hlo d_canEncode_16
/-- the place of a sign in the text -/
theorem s_sgn : ∀ n, n < 256 → (∀ j, j < 7 → (∀ i, i < j → ([gby1, gby2].getD 1 []).getD i 0 ≠ (nI n).toInt8.toInt32) → ([gby1, gby2].getD 1 []).getD j 0 = (nI n).toInt8.toInt32 → gsgn (nI n) = nI j) ∧ ((∀ i, i < 7 → ([gby1, gby2].getD 1 []).getD i 0 ≠ (nI n).toInt8.toInt32) → gsgn (nI n) = -1) := by decide +kernel
theorem s_indexOfChar {n : Nat} (hn : n < 256) : sMet l B ex adV 0 y_indexOfChar prog_19_method_23_code 6 (some .int) [.ref (adV 1), .int (nI n), .int 0, .int (nI 7)] (some (.int (gsgn (nI n)))) := by
  refine s_met rfl (by show (4 : Nat) ≤ 6; decide) ?_
  intro p e R s m args below meth c ls X hf hlc hL locs hlo
  obtain ⟨hx, hb, hml, hown, hts, hr, hlocks, hJ⟩ := X
  obtain ⟨cell, h1, h2, h3, h4, h5, h6, h7⟩ := (hJ.2.2.1 1 (by omega)).2.2.2
  refine lv_iload_n hx hb d_indexOfChar_0 rfl (s_at hL 1 rfl) ?_
  refine lv_i2b hx hb d_indexOfChar_1 rfl ?_
  refine lv_istore hx hb d_indexOfChar_2 hL (by decide) rfl (fun ls1 hL1 => ?_)
  have hL1 : lv_has ls1 6 [(4, .int (nI n).toInt8.toInt32), (0, .ref (adV 1)), (1, .int (nI n)), (2, .int 0), (3, .int (nI 7))] := hL1
  refine lv_iload_n hx hb d_indexOfChar_4 rfl (s_at hL1 3 rfl) ?_
  refine lv_istore hx hb d_indexOfChar_5 hL1 (by decide) rfl (fun ls2 hL2 => ?_)
  have hL2 : lv_has ls2 6 [(5, .int (nI 0)), (4, .int (nI n).toInt8.toInt32), (0, .ref (adV 1)), (1, .int (nI n)), (2, .int 0), (3, .int (nI 7))] := hL2
  have key : ∀ (f j : Nat), j + f = 7 → (∀ i, i < j → ([gby1, gby2].getD 1 []).getD i 0 ≠ (nI n).toInt8.toInt32) → ∀ ls : Array Slot, lv_has ls 6 [(5, .int (nI j)), (4, .int (nI n).toInt8.toInt32), (0, .ref (adV 1)), (1, .int (nI n)), (2, .int 0), (3, .int (nI 7))] → W p l e R s m args below meth c s.heap locs 0 0 (MQ below (sQc (some (.int (gsgn (nI n))))) args s 0 0 (fun q => B ≤ q)) (F0 m 7 ls []) := by
    intro f
    induction f with
    | zero =>
      intro j hj hno ls hL
      have e9 : j = 7 := by omega
      subst e9
      refine lv_iload hx hb d_indexOfChar_7 (s_at hL 0 rfl) ?_
      refine lv_iload_n hx hb d_indexOfChar_9 rfl (s_at hL 5 rfl) ?_
      refine lv_icmp_ge hx hb d_indexOfChar_10 (tgt := 31) (by decide) (fun _ => ?_) (fun h0 => absurd (by decide) h0)
      refine lv_iconst hx hb d_indexOfChar_31 rfl ?_
      exact W.iret hx hb hr (fun t ht hW => ⟨by rw [(s_sgn n hn).2 hno]; rfl, ht⟩) hlo d_indexOfChar_32
    | succ f ih =>
      intro j hj hno ls hL
      have hc : (nI j).toNatClampNeg = j := nI_clamp (by omega)
      have h4' : 7 ≤ cell.slots.size := h4
      refine lv_iload hx hb d_indexOfChar_7 (s_at hL 0 rfl) ?_
      refine lv_iload_n hx hb d_indexOfChar_9 rfl (s_at hL 5 rfl) ?_
      refine lv_icmp_ge hx hb d_indexOfChar_10 (tgt := 31) (by decide) (fun h0 => absurd h0 (nI_ge (by omega) (by omega))) (fun _ => ?_)
      refine lv_aload_n hx hb d_indexOfChar_13 rfl (s_at hL 2 rfl) ?_
      refine lv_iload hx hb d_indexOfChar_14 (s_at hL 0 rfl) ?_
      refine W.bald hx hb h1 h2 h3 (by rw [hc]; intro h0; rcases h0 with h0 | h0; exact nI_pos (by omega) h0; omega) (by rw [hc]; exact h6 j (by show j < 7; omega)) rfl rfl d_indexOfChar_16 ?_
      refine lv_iload hx hb d_indexOfChar_17 (s_at hL 1 rfl) ?_
      refine lv_icmp_ne hx hb d_indexOfChar_19 (tgt := 25) (by rfl) (fun h0 => ?_) (fun h0 => ?_)
      · refine lv_iinc hx hb (k := 0) (v := nI (j + 1)) d_indexOfChar_25 hL rfl (nI_succ j).symm (by decide) rfl (fun ls3 hL3 => ?_)
        refine lv_goto hx hb d_indexOfChar_28 (tgt := 7) (by decide) ?_
        refine ih (j + 1) (by omega) (fun i hi => ?_) ls3 hL3
        rcases Nat.lt_or_ge i j with h9 | h9
        · exact hno i h9
        · have e9 : i = j := by omega
          subst e9
          exact h0
      · refine lv_iload hx hb d_indexOfChar_22 (s_at hL 0 rfl) ?_
        exact W.iret hx hb hr (fun t ht hW => ⟨by rw [(s_sgn n hn).1 j (by omega) hno h0], ht⟩) hlo d_indexOfChar_24
  exact key 7 0 rfl (fun i hi => absurd hi (Nat.not_lt_zero i)) ls2 hL2
theorem s_indexOfL {n : Nat} (hn : n < 256) : sMet l B ex adV 1 y_indexOfL prog_19_method_22_code 4 (some .int) [.ref (adV 1), .int (nI n), .int 0, .int (nI 7)] (some (.int (gsgn (nI n)))) := by
  refine s_met rfl (Nat.le_refl 4) ?_
  intro p e R s m args below meth c ls X hf hlc hL locs hlo
  have X0 := X
  obtain ⟨hx, hb, hml, hown, hts, hr, hlocks, hJ⟩ := X
  obtain ⟨cell, h1, h2, h3, h4, h5, h6, h7⟩ := (hJ.2.2.1 1 (by omega)).2.2.2
  refine lv_iload_n hx hb d_indexOfL_0 rfl (s_at hL 1 rfl) ?_
  refine sc_S 1 X0 (s_canEncode hn) t_405 t_12 t_403 t_404 ⟨by decide, by decide, by decide +kernel⟩ rfl (by omega) (by omega) hL.1 (rest := []) (by decide) d_indexOfL_1 rfl rfl ?_ locs hlo
  intro locs hlo
  refine lv_if_ne hx hb d_indexOfL_4 (tgt := 9) (by decide) (fun _ => ?_) (fun h => absurd h (by decide))
  refine lv_iload_n hx hb d_indexOfL_9 rfl (s_at hL 2 rfl) ?_
  refine lv_iconst hx hb d_indexOfL_10 rfl ?_
  refine va_mmax hx hb (hml.trans hL.1.symm) hown (hts _ t_406) (hts _ t_407) (hts _ t_15) (hts _ t_408) (by omega) (by show 13 ≤ R.locals; omega) (Nat.zero_le _) (Nat.zero_le _) d_indexOfL_11 ?_
  refine lv_istore_n hx hb d_indexOfL_14 rfl hL (by decide) rfl (fun ls1 hL1 => ?_)
  have hL1 : lv_has ls1 4 [(2, .int 0), (0, .ref (adV 1)), (1, .int (nI n)), (3, .int (nI 7))] := hL1
  refine lv_iload_n hx hb d_indexOfL_15 rfl (s_at hL1 3 rfl) ?_
  refine lv_aload_n hx hb d_indexOfL_16 rfl (s_at hL1 1 rfl) ?_
  refine W.alen hx hb h1 h2 h5 rfl rfl d_indexOfL_17 ?_
  refine va_mmin hx hb (hml.trans hL1.1.symm) hown (hts _ t_409) (hts _ t_410) (hts _ t_15) (hts _ t_411) (by omega) (by show 13 ≤ R.locals; omega) (Nat.zero_le _) (Nat.zero_le _) d_indexOfL_18 ?_
  refine lv_istore_n hx hb d_indexOfL_21 rfl hL1 (by decide) rfl (fun ls2 hL2 => ?_)
  have hL2 : lv_has ls2 4 [(3, .int (nI 7)), (2, .int 0), (0, .ref (adV 1)), (1, .int (nI n))] := hL2
  refine lv_iload_n hx hb d_indexOfL_22 rfl (s_at hL2 1 rfl) ?_
  refine lv_iload_n hx hb d_indexOfL_23 rfl (s_at hL2 0 rfl) ?_
  refine lv_icmp_lt hx hb d_indexOfL_24 (tgt := 29) (by rfl) (fun _ => ?_) (fun h => absurd (by decide) h)
  refine lv_aload_n hx hb d_indexOfL_29 rfl (s_at hL2 2 rfl) ?_
  refine lv_iload_n hx hb d_indexOfL_30 rfl (s_at hL2 3 rfl) ?_
  refine lv_iload_n hx hb d_indexOfL_31 rfl (s_at hL2 1 rfl) ?_
  refine lv_iload_n hx hb d_indexOfL_32 rfl (s_at hL2 0 rfl) ?_
  refine sc_S 4 X0 (s_indexOfChar hn) t_414 t_12 t_412 t_413 ⟨by decide, by decide, by decide +kernel⟩ rfl (by omega) (by omega) hL2.1 (rest := []) (by decide) d_indexOfL_33 rfl rfl ?_ locs hlo
  intro locs hlo
  exact W.iret hx hb hr (fun t ht hW => ⟨rfl, ht⟩) hlo d_indexOfL_36
theorem s_indexOf2 {n : Nat} (hn : n < 256) : sMet l B ex adV 2 y_indexOf2 prog_18_method_80_code 3 (some .int) [.ref (ex (2000000001 + 1)), .int (nI n), .int 0] (some (.int (gsgn (nI n)))) := by
  refine s_met rfl (Nat.le_refl 3) ?_
  intro p e R s m args below meth c ls X hf hlc hL locs hlo
  have X0 := X
  obtain ⟨hx, hb, hml, hown, hts, hr, hlocks, hJ⟩ := X
  refine lv_aload_n hx hb d_indexOf2_0 rfl (s_at hL 0 rfl) ?_
  refine sc_V 0 X0 (i := 1) (by omega) (s_isLatin1 (i := 1) (by omega)) rfl t_346 t_11 t_343 t_344 t_345 ⟨by decide, by decide, by decide +kernel⟩ rfl (by omega) (by omega) hL.1 (rest := []) (by decide) d_indexOf2_1 rfl rfl ?_ locs hlo
  intro locs hlo
  refine lv_if_eq hx hb d_indexOf2_4 (tgt := 23) (by decide) (fun h => absurd h (by decide)) (fun _ => ?_)
  refine lv_aload_n hx hb d_indexOf2_7 rfl (s_at hL 0 rfl) ?_
  refine vk_getf hx hb (hJ.2.2.1 1 (by omega)).2.2.1 ⟨Nat.le_refl _, fun _ _ _ => rfl, hlo⟩ hown (hts _ t_1294) (fun _ h => h) d_indexOf2_8 ?_
  refine lv_iload_n hx hb d_indexOf2_11 rfl (s_at hL 1 rfl) ?_
  refine lv_iload_n hx hb d_indexOf2_12 rfl (s_at hL 2 rfl) ?_
  refine lv_aload_n hx hb d_indexOf2_13 rfl (s_at hL 0 rfl) ?_
  refine sc_V 0 X0 (i := 1) (by omega) s_length rfl t_395 t_11 t_392 t_393 t_394 ⟨by decide, by decide, by decide +kernel⟩ rfl (by omega) (by omega) hL.1 (rest := [.int 0, .int (nI n), .ref (adV 1)]) (by show (3 : Nat) ≤ 8; decide) d_indexOf2_14 rfl rfl ?_ locs hlo
  intro locs hlo
  refine sc_S 4 X0 (s_indexOfL hn) t_402 t_12 t_400 t_401 ⟨by decide, by decide, by decide +kernel⟩ rfl (by omega) (by omega) hL.1 (rest := []) (by decide) d_indexOf2_17 rfl rfl ?_ locs hlo
  intro locs hlo
  refine lv_goto hx hb d_indexOf2_20 (tgt := 36) (by decide) ?_
  exact W.iret hx hb hr (fun t ht hW => ⟨rfl, ht⟩) hlo d_indexOf2_36
theorem s_indexOf {n : Nat} (hn : n < 256) : sMet l B ex adV 3 y_indexOf prog_18_method_79_code 2 (some .int) [.ref (ex (2000000001 + 1)), .int (nI n)] (some (.int (gsgn (nI n)))) := by
  refine s_met rfl (Nat.le_refl 2) ?_
  intro p e R s m args below meth c ls X hf hlc hL locs hlo
  have X0 := X
  obtain ⟨hx, hb, hml, hown, hts, hr, hlocks, hJ⟩ := X
  refine lv_aload_n hx hb d_indexOf_0 rfl (s_at hL 0 rfl) ?_
  refine lv_iload_n hx hb d_indexOf_1 rfl (s_at hL 1 rfl) ?_
  refine lv_iconst hx hb d_indexOf_2 rfl ?_
  refine sc_V 2 X0 (i := 1) (by omega) (s_indexOf2 hn) rfl t_391 t_11 t_388 t_389 t_390 ⟨by decide, by decide, by decide +kernel⟩ rfl (by omega) (by omega) hL.1 (rest := []) (by decide) d_indexOf_3 rfl rfl ?_ locs hlo
  intro locs hlo
  exact W.iret hx hb hr (fun t ht hW => ⟨rfl, ht⟩) hlo d_indexOf_6
end SMI
