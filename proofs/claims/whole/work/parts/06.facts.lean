theorem q_648 : Cond.fieldLink RJ0 38 "java/lang/String" "COMPACT_STRINGS" "Z" ∈ fm_tb := fm_in 648 (by decide +kernel) (by decide +kernel)
theorem q_1232 : Cond.fieldLink RJ0 15 "java/lang/String" "coder" "B" ∈ fm_tb := fm_in 1232 (by decide +kernel) (by decide +kernel)
theorem q_1231 : Cond.fieldLink RJ0 9 "java/lang/String" "value" "[B" ∈ fm_tb := fm_in 1231 (by decide +kernel) (by decide +kernel)
theorem q_664 : Cond.fieldLink RJ0 1053 "jdk/internal/util/Preconditions" "SIOOBE_FORMATTER" "Ljava/util/function/BiFunction;" ∈ fm_tb := fm_in 664 (by decide +kernel) (by decide +kernel)
theorem q_644 : Cond.methodLink RJ0 335 yJ0_coder_7d493 ∈ fm_tb := fm_in 644 (by decide +kernel) (by decide +kernel)
theorem q_654 : Cond.methodLink RJ0 492 yJ0_isLatin1_aae02 ∈ fm_tb := fm_in 654 (by decide +kernel) (by decide +kernel)
theorem q_658 : Cond.methodLink RJ0 495 yJ1_charAt_3b067 ∈ fm_tb := fm_in 658 (by decide +kernel) (by decide +kernel)
theorem q_661 : Cond.methodLink RJ1 9 yJ0_checkIndex_df160 ∈ fm_tb := fm_in 661 (by decide +kernel) (by decide +kernel)
theorem q_666 : Cond.methodLink RJ0 1059 yJ3_checkIndex_8e157 ∈ fm_tb := fm_in 666 (by decide +kernel) (by decide +kernel)
theorem q_645 : Cond.instanceMethod yJ0_coder_7d493 ∈ fm_tb := fm_in 645 (by decide +kernel) (by decide +kernel)
theorem q_646 : Cond.selects RJ0 yJ0_coder_7d493 yJ0_coder_7d493 ∈ fm_tb := fm_in 646 (by decide +kernel) (by decide +kernel)
theorem q_15 : Cond.initialized RJ0 ∈ fm_tb := fm_in 15 (by decide +kernel) (by decide +kernel)
theorem q_647 : Cond.code yJ0_coder_7d493 cJ0_coder_7d493 1 (some .byte) ∈ fm_tb := fm_in 647 (by decide +kernel) (by decide +kernel)
theorem mV_J0_coder_7d493 : fm_mV RJ0 yJ0_coder_7d493 cJ0_coder_7d493 1 (some .byte) 0 := ⟨q_645, q_646, q_15, q_647, by decide +kernel⟩
theorem q_655 : Cond.instanceMethod yJ0_isLatin1_aae02 ∈ fm_tb := fm_in 655 (by decide +kernel) (by decide +kernel)
theorem q_656 : Cond.selects RJ0 yJ0_isLatin1_aae02 yJ0_isLatin1_aae02 ∈ fm_tb := fm_in 656 (by decide +kernel) (by decide +kernel)
theorem q_657 : Cond.code yJ0_isLatin1_aae02 cJ0_isLatin1_aae02 1 (some .boolean) ∈ fm_tb := fm_in 657 (by decide +kernel) (by decide +kernel)
theorem mV_J0_isLatin1_aae02 : fm_mV RJ0 yJ0_isLatin1_aae02 cJ0_isLatin1_aae02 1 (some .boolean) 0 := ⟨q_655, q_656, q_15, q_657, by decide +kernel⟩
theorem q_641 : Cond.instanceMethod yJ0_length_8abf5 ∈ fm_tb := fm_in 641 (by decide +kernel) (by decide +kernel)
theorem q_642 : Cond.selects RJ0 yJ0_length_8abf5 yJ0_length_8abf5 ∈ fm_tb := fm_in 642 (by decide +kernel) (by decide +kernel)
theorem q_643 : Cond.code yJ0_length_8abf5 cJ0_length_8abf5 1 (some .int) ∈ fm_tb := fm_in 643 (by decide +kernel) (by decide +kernel)
theorem mV_J0_length_8abf5 : fm_mV RJ0 yJ0_length_8abf5 cJ0_length_8abf5 1 (some .int) 0 := ⟨q_641, q_642, q_15, q_643, by decide +kernel⟩
theorem q_651 : Cond.instanceMethod yJ0_charAt_5068e ∈ fm_tb := fm_in 651 (by decide +kernel) (by decide +kernel)
theorem q_652 : Cond.selects RJ0 yJ0_charAt_5068e yJ0_charAt_5068e ∈ fm_tb := fm_in 652 (by decide +kernel) (by decide +kernel)
theorem q_653 : Cond.code yJ0_charAt_5068e cJ0_charAt_5068e 2 (some .char) ∈ fm_tb := fm_in 653 (by decide +kernel) (by decide +kernel)
theorem mV_J0_charAt_5068e : fm_mV RJ0 yJ0_charAt_5068e cJ0_charAt_5068e 2 (some .char) 1 := ⟨q_651, q_652, q_15, q_653, by decide +kernel⟩
theorem q_662 : Cond.static yJ0_checkIndex_df160 ∈ fm_tb := fm_in 662 (by decide +kernel) (by decide +kernel)
theorem q_663 : Cond.code yJ0_checkIndex_df160 cJ0_checkIndex_df160 2 none ∈ fm_tb := fm_in 663 (by decide +kernel) (by decide +kernel)
theorem mS_J0_checkIndex_df160 : fm_mS yJ0_checkIndex_df160 cJ0_checkIndex_df160 2 none 2 := ⟨q_662, q_15, q_663, by decide +kernel⟩
theorem q_659 : Cond.static yJ1_charAt_3b067 ∈ fm_tb := fm_in 659 (by decide +kernel) (by decide +kernel)
theorem q_16 : Cond.initialized RJ1 ∈ fm_tb := fm_in 16 (by decide +kernel) (by decide +kernel)
theorem q_660 : Cond.code yJ1_charAt_3b067 cJ1_charAt_3b067 2 (some .char) ∈ fm_tb := fm_in 660 (by decide +kernel) (by decide +kernel)
theorem mS_J1_charAt_3b067 : fm_mS yJ1_charAt_3b067 cJ1_charAt_3b067 2 (some .char) 2 := ⟨q_659, q_16, q_660, by decide +kernel⟩
theorem q_667 : Cond.static yJ3_checkIndex_8e157 ∈ fm_tb := fm_in 667 (by decide +kernel) (by decide +kernel)
theorem q_17 : Cond.initialized RJ3 ∈ fm_tb := fm_in 17 (by decide +kernel) (by decide +kernel)
theorem q_668 : Cond.code yJ3_checkIndex_8e157 cJ3_checkIndex_8e157 3 (some .int) ∈ fm_tb := fm_in 668 (by decide +kernel) (by decide +kernel)
theorem mS_J3_checkIndex_8e157 : fm_mS yJ3_checkIndex_8e157 cJ3_checkIndex_8e157 3 (some .int) 3 := ⟨q_667, q_17, q_668, by decide +kernel⟩
theorem q_330 : Cond.methodLink RX0 7 yX4_enjoys ∈ fm_tb := fm_in 330 (by decide +kernel) (by decide +kernel)
theorem q_326 : Cond.sameMethod "WrapGifts$Man" "WrapGifts$Man" "enjoys" "(I)I" ∈ fm_tb := fm_in 326 (by decide +kernel) (by decide +kernel)
theorem q_46 : Cond.superclass RX0 RX4 ∈ fm_tb := fm_in 46 (by decide +kernel) (by decide +kernel)
theorem q_324 : Cond.instanceMethod yX4_enjoys ∈ fm_tb := fm_in 324 (by decide +kernel) (by decide +kernel)
theorem q_2 : Cond.initialized RX4 ∈ fm_tb := fm_in 2 (by decide +kernel) (by decide +kernel)
theorem q_346 : Cond.code yX4_enjoys cX4_enjoys 2 (some .int) ∈ fm_tb := fm_in 346 (by decide +kernel) (by decide +kernel)
theorem mP_X0_X4_enjoys : fm_mP RX0 yX4_enjoys cX4_enjoys 2 (some .int) 1 := ⟨q_326, q_46, q_324, q_2, q_346, by decide +kernel⟩
theorem q_375 : Cond.methodLink RX0 11 yX4_passesOn ∈ fm_tb := fm_in 375 (by decide +kernel) (by decide +kernel)
theorem q_371 : Cond.sameMethod "WrapGifts$Man" "WrapGifts$Man" "passesOn" "(II)I" ∈ fm_tb := fm_in 371 (by decide +kernel) (by decide +kernel)
theorem q_369 : Cond.instanceMethod yX4_passesOn ∈ fm_tb := fm_in 369 (by decide +kernel) (by decide +kernel)
theorem q_386 : Cond.code yX4_passesOn cX4_passesOn 3 (some .int) ∈ fm_tb := fm_in 386 (by decide +kernel) (by decide +kernel)
theorem mP_X0_X4_passesOn : fm_mP RX0 yX4_passesOn cX4_passesOn 3 (some .int) 2 := ⟨q_371, q_46, q_369, q_2, q_386, by decide +kernel⟩
theorem q_306 : Cond.methodLink RX1 7 yX4_opens ∈ fm_tb := fm_in 306 (by decide +kernel) (by decide +kernel)
theorem q_299 : Cond.sameMethod "WrapGifts$Man" "WrapGifts$Man" "opens" "(III)I" ∈ fm_tb := fm_in 299 (by decide +kernel) (by decide +kernel)
theorem q_53 : Cond.superclass RX1 RX4 ∈ fm_tb := fm_in 53 (by decide +kernel) (by decide +kernel)
theorem q_297 : Cond.instanceMethod yX4_opens ∈ fm_tb := fm_in 297 (by decide +kernel) (by decide +kernel)
theorem q_318 : Cond.code yX4_opens cX4_opens 4 (some .int) ∈ fm_tb := fm_in 318 (by decide +kernel) (by decide +kernel)
theorem mP_X1_X4_opens : fm_mP RX1 yX4_opens cX4_opens 4 (some .int) 3 := ⟨q_299, q_53, q_297, q_2, q_318, by decide +kernel⟩
theorem q_334 : Cond.methodLink RX1 11 yX4_enjoys ∈ fm_tb := fm_in 334 (by decide +kernel) (by decide +kernel)
theorem mP_X1_X4_enjoys : fm_mP RX1 yX4_enjoys cX4_enjoys 2 (some .int) 1 := ⟨q_326, q_53, q_324, q_2, q_346, by decide +kernel⟩
theorem q_357 : Cond.methodLink RX1 15 yX4_isStruck ∈ fm_tb := fm_in 357 (by decide +kernel) (by decide +kernel)
theorem q_350 : Cond.sameMethod "WrapGifts$Man" "WrapGifts$Man" "isStruck" "(I)I" ∈ fm_tb := fm_in 350 (by decide +kernel) (by decide +kernel)
theorem q_348 : Cond.instanceMethod yX4_isStruck ∈ fm_tb := fm_in 348 (by decide +kernel) (by decide +kernel)
theorem q_367 : Cond.code yX4_isStruck cX4_isStruck 2 (some .int) ∈ fm_tb := fm_in 367 (by decide +kernel) (by decide +kernel)
theorem mP_X1_X4_isStruck : fm_mP RX1 yX4_isStruck cX4_isStruck 2 (some .int) 1 := ⟨q_350, q_53, q_348, q_2, q_367, by decide +kernel⟩
theorem q_317 : Cond.methodLink RX6 9 yX4_opens ∈ fm_tb := fm_in 317 (by decide +kernel) (by decide +kernel)
theorem q_60 : Cond.superclass RX6 RX4 ∈ fm_tb := fm_in 60 (by decide +kernel) (by decide +kernel)
theorem mP_X6_X4_opens : fm_mP RX6 yX4_opens cX4_opens 4 (some .int) 3 := ⟨q_299, q_60, q_297, q_2, q_318, by decide +kernel⟩
theorem q_345 : Cond.methodLink RX6 13 yX4_enjoys ∈ fm_tb := fm_in 345 (by decide +kernel) (by decide +kernel)
theorem mP_X6_X4_enjoys : fm_mP RX6 yX4_enjoys cX4_enjoys 2 (some .int) 1 := ⟨q_326, q_60, q_324, q_2, q_346, by decide +kernel⟩
theorem q_310 : Cond.methodLink RX2 7 yX0_opens ∈ fm_tb := fm_in 310 (by decide +kernel) (by decide +kernel)
theorem q_1220 : Cond.sameMethod "WrapGifts$Aunt" "WrapGifts$Aunt" "opens" "(III)I" ∈ fm_tb := fm_in 1220 (by decide +kernel) (by decide +kernel)
theorem q_74 : Cond.superclass RX2 RX0 ∈ fm_tb := fm_in 74 (by decide +kernel) (by decide +kernel)
theorem q_301 : Cond.instanceMethod yX0_opens ∈ fm_tb := fm_in 301 (by decide +kernel) (by decide +kernel)
theorem q_3 : Cond.initialized RX0 ∈ fm_tb := fm_in 3 (by decide +kernel) (by decide +kernel)
theorem q_302 : Cond.code yX0_opens cX0_opens 4 (some .int) ∈ fm_tb := fm_in 302 (by decide +kernel) (by decide +kernel)
theorem mP_X2_X0_opens : fm_mP RX2 yX0_opens cX0_opens 4 (some .int) 3 := ⟨q_1220, q_74, q_301, q_3, q_302, by decide +kernel⟩
theorem q_338 : Cond.methodLink RX2 11 yX0_enjoys ∈ fm_tb := fm_in 338 (by decide +kernel) (by decide +kernel)
theorem q_1221 : Cond.sameMethod "WrapGifts$Aunt" "WrapGifts$Aunt" "enjoys" "(I)I" ∈ fm_tb := fm_in 1221 (by decide +kernel) (by decide +kernel)
theorem q_328 : Cond.instanceMethod yX0_enjoys ∈ fm_tb := fm_in 328 (by decide +kernel) (by decide +kernel)
theorem q_329 : Cond.code yX0_enjoys cX0_enjoys 2 (some .int) ∈ fm_tb := fm_in 329 (by decide +kernel) (by decide +kernel)
theorem mP_X2_X0_enjoys : fm_mP RX2 yX0_enjoys cX0_enjoys 2 (some .int) 1 := ⟨q_1221, q_74, q_328, q_3, q_329, by decide +kernel⟩
theorem q_361 : Cond.methodLink RX2 15 yX0_isStruck ∈ fm_tb := fm_in 361 (by decide +kernel) (by decide +kernel)
theorem q_1222 : Cond.sameMethod "WrapGifts$Aunt" "WrapGifts$Aunt" "isStruck" "(I)I" ∈ fm_tb := fm_in 1222 (by decide +kernel) (by decide +kernel)
theorem q_352 : Cond.instanceMethod yX0_isStruck ∈ fm_tb := fm_in 352 (by decide +kernel) (by decide +kernel)
theorem q_353 : Cond.code yX0_isStruck cX0_isStruck 2 (some .int) ∈ fm_tb := fm_in 353 (by decide +kernel) (by decide +kernel)
theorem mP_X2_X0_isStruck : fm_mP RX2 yX0_isStruck cX0_isStruck 2 (some .int) 1 := ⟨q_1222, q_74, q_352, q_3, q_353, by decide +kernel⟩
theorem q_365 : Cond.methodLink RX3 7 yX1_isStruck ∈ fm_tb := fm_in 365 (by decide +kernel) (by decide +kernel)
theorem q_1223 : Cond.sameMethod "WrapGifts$Child" "WrapGifts$Child" "isStruck" "(I)I" ∈ fm_tb := fm_in 1223 (by decide +kernel) (by decide +kernel)
theorem q_67 : Cond.superclass RX3 RX1 ∈ fm_tb := fm_in 67 (by decide +kernel) (by decide +kernel)
theorem q_355 : Cond.instanceMethod yX1_isStruck ∈ fm_tb := fm_in 355 (by decide +kernel) (by decide +kernel)
theorem q_4 : Cond.initialized RX1 ∈ fm_tb := fm_in 4 (by decide +kernel) (by decide +kernel)
theorem q_356 : Cond.code yX1_isStruck cX1_isStruck 2 (some .int) ∈ fm_tb := fm_in 356 (by decide +kernel) (by decide +kernel)
theorem mP_X3_X1_isStruck : fm_mP RX3 yX1_isStruck cX1_isStruck 2 (some .int) 1 := ⟨q_1223, q_67, q_355, q_4, q_356, by decide +kernel⟩
theorem q_88 : Cond.fieldLink RX5 9 "WrapGifts$Person" "kind" "I" ∈ fm_tb := fm_in 88 (by decide +kernel) (by decide +kernel)
theorem in_X5 : ∀ w ∈ u_ws RX5 TX5 2, w ∈ fm_tb := fm_inL [94, 96] (by decide +kernel) (by decide +kernel)
theorem fd_X5_0 : fm_fd RX5 TX5 2 5 0 0 := ⟨rfl, in_X5, by decide, by decide, by decide⟩
theorem fp_X5_0 : fm_fp RX5 TX5 2 5 0 0 tyX5 .int := ⟨fd_X5_0, tyX5_ok, nmX5, rfl, by decide +kernel⟩
theorem q_91 : Cond.fieldLink RX5 15 "WrapGifts$Person" "joy" "I" ∈ fm_tb := fm_in 91 (by decide +kernel) (by decide +kernel)
theorem fd_X5_1 : fm_fd RX5 TX5 2 5 1 0 := ⟨rfl, in_X5, by decide, by decide, by decide⟩
theorem fp_X5_1 : fm_fp RX5 TX5 2 5 1 0 tyX5 .int := ⟨fd_X5_1, tyX5_ok, nmX5, rfl, by decide +kernel⟩
theorem q_485 : Cond.methodLink RX5 18 yJ9_min_7cf53 ∈ fm_tb := fm_in 485 (by decide +kernel) (by decide +kernel)
theorem q_320 : Cond.static Lib.Math.min.name ∈ fm_tb := fm_in 320 (by decide +kernel) (by decide +kernel)
theorem q_14 : Cond.initialized "java/lang/Math" ∈ fm_tb := fm_in 14 (by decide +kernel) (by decide +kernel)
theorem q_321 : Cond.code Lib.Math.min.name Lib.Math.min.code 2 (some .int) ∈ fm_tb := fm_in 321 (by decide +kernel) (by decide +kernel)
theorem q_107 : Cond.fieldLink RX7 15 "WrapGifts$Present" "layers" "I" ∈ fm_tb := fm_in 107 (by decide +kernel) (by decide +kernel)
theorem in_X7 : ∀ w ∈ u_ws RX7 TX7 5, w ∈ fm_tb := fm_inL [119, 121, 123, 125, 127] (by decide +kernel) (by decide +kernel)
theorem fd_X7_1 : fm_fd RX7 TX7 5 7 1 0 := ⟨rfl, in_X7, by decide, by decide, by decide⟩
theorem fp_X7_1 : fm_fp RX7 TX7 5 7 1 0 tyX7 .int := ⟨fd_X7_1, tyX7_ok, nmX7, rfl, by decide +kernel⟩
theorem q_110 : Cond.fieldLink RX7 19 "WrapGifts$Present" "thing" "I" ∈ fm_tb := fm_in 110 (by decide +kernel) (by decide +kernel)
theorem fd_X7_2 : fm_fd RX7 TX7 5 7 2 0 := ⟨rfl, in_X7, by decide, by decide, by decide⟩
theorem fp_X7_2 : fm_fp RX7 TX7 5 7 2 0 tyX7 .int := ⟨fd_X7_2, tyX7_ok, nmX7, rfl, by decide +kernel⟩
theorem q_113 : Cond.fieldLink RX7 22 "WrapGifts$Present" "with" "I" ∈ fm_tb := fm_in 113 (by decide +kernel) (by decide +kernel)
theorem fd_X7_3 : fm_fd RX7 TX7 5 7 3 0 := ⟨rfl, in_X7, by decide, by decide, by decide⟩
theorem fp_X7_3 : fm_fp RX7 TX7 5 7 3 0 tyX7 .int := ⟨fd_X7_3, tyX7_ok, nmX7, rfl, by decide +kernel⟩
theorem q_116 : Cond.fieldLink RX7 25 "WrapGifts$Present" "isFound" "Z" ∈ fm_tb := fm_in 116 (by decide +kernel) (by decide +kernel)
theorem fd_X7_4 : fm_fd RX7 TX7 5 7 4 0 := ⟨rfl, in_X7, by decide, by decide, by decide⟩
theorem fp_X7_4 : fm_fp RX7 TX7 5 7 4 0 tyX7 .boolean := ⟨fd_X7_4, tyX7_ok, nmX7, rfl, by decide +kernel⟩
theorem q_106 : Cond.fieldLink RX7 9 "WrapGifts$Present" "papers" "[I" ∈ fm_tb := fm_in 106 (by decide +kernel) (by decide +kernel)
theorem fd_X7_0 : fm_fd RX7 TX7 5 7 0 2 := ⟨rfl, in_X7, by decide, by decide, by decide⟩
theorem q_292 : Cond.methodLink RX7 29 yX7_paperAt ∈ fm_tb := fm_in 292 (by decide +kernel) (by decide +kernel)
theorem q_293 : Cond.instanceMethod yX7_paperAt ∈ fm_tb := fm_in 293 (by decide +kernel) (by decide +kernel)
theorem q_294 : Cond.selects RX7 yX7_paperAt yX7_paperAt ∈ fm_tb := fm_in 294 (by decide +kernel) (by decide +kernel)
theorem q_10 : Cond.initialized RX7 ∈ fm_tb := fm_in 10 (by decide +kernel) (by decide +kernel)
theorem q_295 : Cond.code yX7_paperAt cX7_paperAt 2 (some .int) ∈ fm_tb := fm_in 295 (by decide +kernel) (by decide +kernel)
theorem mV_X7_paperAt : fm_mV RX7 yX7_paperAt cX7_paperAt 2 (some .int) 1 := ⟨q_293, q_294, q_10, q_295, by decide +kernel⟩
theorem fc_95 : fm_ct 95 = 14 := by decide +kernel
theorem fl_95 : fm_ln 95 = 6 := by decide +kernel
theorem q_570 : Cond.methodLink RX7 33 yX7_layInnermost ∈ fm_tb := fm_in 570 (by decide +kernel) (by decide +kernel)
theorem q_571 : Cond.instanceMethod yX7_layInnermost ∈ fm_tb := fm_in 571 (by decide +kernel) (by decide +kernel)
theorem q_572 : Cond.selects RX7 yX7_layInnermost yX7_layInnermost ∈ fm_tb := fm_in 572 (by decide +kernel) (by decide +kernel)
theorem q_573 : Cond.code yX7_layInnermost cX7_layInnermost 3 none ∈ fm_tb := fm_in 573 (by decide +kernel) (by decide +kernel)
theorem mV_X7_layInnermost : fm_mV RX7 yX7_layInnermost cX7_layInnermost 3 none 1 := ⟨q_571, q_572, q_10, q_573, by decide +kernel⟩
theorem q_451 : Cond.methodLink RX7 37 yX7_outermost ∈ fm_tb := fm_in 451 (by decide +kernel) (by decide +kernel)
theorem q_289 : Cond.instanceMethod yX7_outermost ∈ fm_tb := fm_in 289 (by decide +kernel) (by decide +kernel)
theorem q_290 : Cond.selects RX7 yX7_outermost yX7_outermost ∈ fm_tb := fm_in 290 (by decide +kernel) (by decide +kernel)
theorem q_291 : Cond.code yX7_outermost cX7_outermost 1 (some .int) ∈ fm_tb := fm_in 291 (by decide +kernel) (by decide +kernel)
theorem mV_X7_outermost : fm_mV RX7 yX7_outermost cX7_outermost 1 (some .int) 0 := ⟨q_289, q_290, q_10, q_291, by decide +kernel⟩
theorem q_167 : Cond.fieldLink RX8 15 "WrapGifts$Sheet" "bits" "I" ∈ fm_tb := fm_in 167 (by decide +kernel) (by decide +kernel)
theorem in_X8 : ∀ w ∈ u_ws RX8 TX8 3, w ∈ fm_tb := fm_inL [171, 173, 175] (by decide +kernel) (by decide +kernel)
theorem fd_X8_1 : fm_fd RX8 TX8 3 8 1 0 := ⟨rfl, in_X8, by decide, by decide, by decide⟩
theorem fp_X8_1 : fm_fp RX8 TX8 3 8 1 0 tyX8 .int := ⟨fd_X8_1, tyX8_ok, nmX8, rfl, by decide +kernel⟩
theorem q_169 : Cond.fieldLink RX8 19 "WrapGifts$Sheet" "size" "I" ∈ fm_tb := fm_in 169 (by decide +kernel) (by decide +kernel)
theorem fd_X8_2 : fm_fd RX8 TX8 3 8 2 0 := ⟨rfl, in_X8, by decide, by decide, by decide⟩
theorem fp_X8_2 : fm_fp RX8 TX8 3 8 2 0 tyX8 .int := ⟨fd_X8_2, tyX8_ok, nmX8, rfl, by decide +kernel⟩
theorem q_165 : Cond.fieldLink RX8 9 "WrapGifts$Sheet" "numbers" "[J" ∈ fm_tb := fm_in 165 (by decide +kernel) (by decide +kernel)
theorem fd_X8_0 : fm_fd RX8 TX8 3 8 0 2 := ⟨rfl, in_X8, by decide, by decide, by decide⟩
theorem q_137 : Cond.fieldLink RX10 29 "WrapGifts$Town" "day" "I" ∈ fm_tb := fm_in 137 (by decide +kernel) (by decide +kernel)
theorem in_X10 : ∀ w ∈ u_ws RX10 TX10 6, w ∈ fm_tb := fm_inL [145, 147, 149, 151, 153, 155] (by decide +kernel) (by decide +kernel)
theorem fd_X10_3 : fm_fd RX10 TX10 6 10 3 0 := ⟨rfl, in_X10, by decide, by decide, by decide⟩
theorem fp_X10_3 : fm_fp RX10 TX10 6 10 3 0 tyX10 .int := ⟨fd_X10_3, tyX10_ok, nmX10, rfl, by decide +kernel⟩
theorem q_139 : Cond.fieldLink RX10 33 "WrapGifts$Town" "people" "I" ∈ fm_tb := fm_in 139 (by decide +kernel) (by decide +kernel)
theorem fd_X10_4 : fm_fd RX10 TX10 6 10 4 0 := ⟨rfl, in_X10, by decide, by decide, by decide⟩
theorem fp_X10_4 : fm_fp RX10 TX10 6 10 4 0 tyX10 .int := ⟨fd_X10_4, tyX10_ok, nmX10, rfl, by decide +kernel⟩
theorem q_142 : Cond.fieldLink RX10 36 "WrapGifts$Town" "presents" "I" ∈ fm_tb := fm_in 142 (by decide +kernel) (by decide +kernel)
theorem fd_X10_5 : fm_fd RX10 TX10 6 10 5 0 := ⟨rfl, in_X10, by decide, by decide, by decide⟩
theorem fp_X10_5 : fm_fp RX10 TX10 6 10 5 0 tyX10 .int := ⟨fd_X10_5, tyX10_ok, nmX10, rfl, by decide +kernel⟩
theorem q_132 : Cond.fieldLink RX10 17 "WrapGifts$Town" "folk" "[LWrapGifts$Person;" ∈ fm_tb := fm_in 132 (by decide +kernel) (by decide +kernel)
theorem fd_X10_1 : fm_fd RX10 TX10 6 10 1 2 := ⟨rfl, in_X10, by decide, by decide, by decide⟩
theorem q_516 : Cond.methodLink RX10 39 yX5_become ∈ fm_tb := fm_in 516 (by decide +kernel) (by decide +kernel)
theorem q_517 : Cond.instanceMethod yX5_become ∈ fm_tb := fm_in 517 (by decide +kernel) (by decide +kernel)
theorem q_518 : Cond.selects RX5 yX5_become yX5_become ∈ fm_tb := fm_in 518 (by decide +kernel) (by decide +kernel)
theorem q_9 : Cond.initialized RX5 ∈ fm_tb := fm_in 9 (by decide +kernel) (by decide +kernel)
theorem q_519 : Cond.code yX5_become cX5_become 2 none ∈ fm_tb := fm_in 519 (by decide +kernel) (by decide +kernel)
theorem mV_X5_become : fm_mV RX5 yX5_become cX5_become 2 none 1 := ⟨q_517, q_518, q_9, q_519, by decide +kernel⟩
theorem q_134 : Cond.fieldLink RX10 24 "WrapGifts$Town" "gifts" "[LWrapGifts$Present;" ∈ fm_tb := fm_in 134 (by decide +kernel) (by decide +kernel)
theorem fd_X10_2 : fm_fd RX10 TX10 6 10 2 2 := ⟨rfl, in_X10, by decide, by decide, by decide⟩
theorem q_520 : Cond.methodLink RX10 43 yX7_become ∈ fm_tb := fm_in 520 (by decide +kernel) (by decide +kernel)
theorem q_521 : Cond.instanceMethod yX7_become ∈ fm_tb := fm_in 521 (by decide +kernel) (by decide +kernel)
theorem q_522 : Cond.selects RX7 yX7_become yX7_become ∈ fm_tb := fm_in 522 (by decide +kernel) (by decide +kernel)
theorem q_523 : Cond.code yX7_become cX7_become 3 none ∈ fm_tb := fm_in 523 (by decide +kernel) (by decide +kernel)
theorem mV_X7_become : fm_mV RX7 yX7_become cX7_become 3 none 1 := ⟨q_521, q_522, q_10, q_523, by decide +kernel⟩
theorem q_89 : Cond.fieldLink RX10 46 "WrapGifts$Person" "kind" "I" ∈ fm_tb := fm_in 89 (by decide +kernel) (by decide +kernel)
theorem q_92 : Cond.fieldLink RX10 49 "WrapGifts$Person" "joy" "I" ∈ fm_tb := fm_in 92 (by decide +kernel) (by decide +kernel)
theorem q_414 : Cond.methodLink RX10 52 yX7_begin ∈ fm_tb := fm_in 414 (by decide +kernel) (by decide +kernel)
theorem q_415 : Cond.instanceMethod yX7_begin ∈ fm_tb := fm_in 415 (by decide +kernel) (by decide +kernel)
theorem q_416 : Cond.selects RX7 yX7_begin yX7_begin ∈ fm_tb := fm_in 416 (by decide +kernel) (by decide +kernel)
theorem q_417 : Cond.code yX7_begin cX7_begin 3 none ∈ fm_tb := fm_in 417 (by decide +kernel) (by decide +kernel)
theorem mV_X7_begin : fm_mV RX7 yX7_begin cX7_begin 3 none 2 := ⟨q_415, q_416, q_10, q_417, by decide +kernel⟩
theorem q_131 : Cond.fieldLink RX10 9 "WrapGifts$Town" "manners" "[LWrapGifts$Man;" ∈ fm_tb := fm_in 131 (by decide +kernel) (by decide +kernel)
theorem fd_X10_0 : fm_fd RX10 TX10 6 10 0 2 := ⟨rfl, in_X10, by decide, by decide, by decide⟩
theorem fc_1 : fm_ct 1 = 16 := by decide +kernel
theorem fl_1 : fm_ln 1 = 6 := by decide +kernel
theorem q_114 : Cond.fieldLink RX10 56 "WrapGifts$Present" "with" "I" ∈ fm_tb := fm_in 114 (by decide +kernel) (by decide +kernel)
theorem q_117 : Cond.fieldLink RX10 59 "WrapGifts$Present" "isFound" "Z" ∈ fm_tb := fm_in 117 (by decide +kernel) (by decide +kernel)
theorem q_266 : Cond.methodLink RX10 63 yX10_opened ∈ fm_tb := fm_in 266 (by decide +kernel) (by decide +kernel)
theorem q_267 : Cond.instanceMethod yX10_opened ∈ fm_tb := fm_in 267 (by decide +kernel) (by decide +kernel)
theorem q_268 : Cond.selects RX10 yX10_opened yX10_opened ∈ fm_tb := fm_in 268 (by decide +kernel) (by decide +kernel)
theorem q_8 : Cond.initialized RX10 ∈ fm_tb := fm_in 8 (by decide +kernel) (by decide +kernel)
theorem q_269 : Cond.code yX10_opened cX10_opened 3 (some .int) ∈ fm_tb := fm_in 269 (by decide +kernel) (by decide +kernel)
theorem mV_X10_opened : fm_mV RX10 yX10_opened cX10_opened 3 (some .int) 0 := ⟨q_267, q_268, q_8, q_269, by decide +kernel⟩
theorem q_109 : Cond.fieldLink RX10 67 "WrapGifts$Present" "layers" "I" ∈ fm_tb := fm_in 109 (by decide +kernel) (by decide +kernel)
theorem q_112 : Cond.fieldLink RX10 70 "WrapGifts$Present" "thing" "I" ∈ fm_tb := fm_in 112 (by decide +kernel) (by decide +kernel)
theorem q_287 : Cond.methodLink RX10 84 yX10_mannerOf ∈ fm_tb := fm_in 287 (by decide +kernel) (by decide +kernel)
theorem q_279 : Cond.instanceMethod yX10_mannerOf ∈ fm_tb := fm_in 279 (by decide +kernel) (by decide +kernel)
theorem q_280 : Cond.selects RX10 yX10_mannerOf yX10_mannerOf ∈ fm_tb := fm_in 280 (by decide +kernel) (by decide +kernel)
theorem q_281 : Cond.code yX10_mannerOf cX10_mannerOf 2 (some (.object "WrapGifts$Man")) ∈ fm_tb := fm_in 281 (by decide +kernel) (by decide +kernel)
theorem mV_X10_mannerOf : fm_mV RX10 yX10_mannerOf cX10_mannerOf 2 (some (.object "WrapGifts$Man")) 1 := ⟨q_279, q_280, q_8, q_281, by decide +kernel⟩
theorem q_472 : Cond.methodLink RX10 88 yX4_passesOn ∈ fm_tb := fm_in 472 (by decide +kernel) (by decide +kernel)
theorem q_370 : Cond.selects RX4 yX4_passesOn yX4_passesOn ∈ fm_tb := fm_in 370 (by decide +kernel) (by decide +kernel)
theorem mV_X4_passesOn : fm_mV RX4 yX4_passesOn cX4_passesOn 3 (some .int) 2 := ⟨q_369, q_370, q_2, q_386, by decide +kernel⟩
theorem fc_2 : fm_ct 2 = 4 := by decide +kernel
theorem q_372 : Cond.selects RX0 yX4_passesOn yX0_passesOn ∈ fm_tb := fm_in 372 (by decide +kernel) (by decide +kernel)
theorem q_373 : Cond.instanceMethod yX0_passesOn ∈ fm_tb := fm_in 373 (by decide +kernel) (by decide +kernel)
theorem q_374 : Cond.code yX0_passesOn cX0_passesOn 3 (some .int) ∈ fm_tb := fm_in 374 (by decide +kernel) (by decide +kernel)
theorem mU_X0_passesOn : fm_mU RX0 yX4_passesOn yX0_passesOn cX0_passesOn 3 (some .int) 2 := ⟨q_371, q_369, q_372, q_373, q_3, q_374, ⟨_, _, _, q_386⟩, by decide +kernel⟩
theorem fc_3 : fm_ct 3 = 0 := by decide +kernel
theorem q_376 : Cond.selects RX1 yX4_passesOn yX1_passesOn ∈ fm_tb := fm_in 376 (by decide +kernel) (by decide +kernel)
theorem q_377 : Cond.instanceMethod yX1_passesOn ∈ fm_tb := fm_in 377 (by decide +kernel) (by decide +kernel)
theorem q_378 : Cond.code yX1_passesOn cX1_passesOn 3 (some .int) ∈ fm_tb := fm_in 378 (by decide +kernel) (by decide +kernel)
theorem mU_X1_passesOn : fm_mU RX1 yX4_passesOn yX1_passesOn cX1_passesOn 3 (some .int) 2 := ⟨q_371, q_369, q_376, q_377, q_4, q_378, ⟨_, _, _, q_386⟩, by decide +kernel⟩
theorem fc_4 : fm_ct 4 = 1 := by decide +kernel
theorem q_383 : Cond.selects RX6 yX4_passesOn yX6_passesOn ∈ fm_tb := fm_in 383 (by decide +kernel) (by decide +kernel)
theorem q_384 : Cond.instanceMethod yX6_passesOn ∈ fm_tb := fm_in 384 (by decide +kernel) (by decide +kernel)
theorem q_5 : Cond.initialized RX6 ∈ fm_tb := fm_in 5 (by decide +kernel) (by decide +kernel)
theorem q_385 : Cond.code yX6_passesOn cX6_passesOn 3 (some .int) ∈ fm_tb := fm_in 385 (by decide +kernel) (by decide +kernel)
theorem mU_X6_passesOn : fm_mU RX6 yX4_passesOn yX6_passesOn cX6_passesOn 3 (some .int) 2 := ⟨q_371, q_369, q_383, q_384, q_5, q_385, ⟨_, _, _, q_386⟩, by decide +kernel⟩
theorem fc_5 : fm_ct 5 = 6 := by decide +kernel
theorem q_382 : Cond.selects RX3 yX4_passesOn yX1_passesOn ∈ fm_tb := fm_in 382 (by decide +kernel) (by decide +kernel)
theorem mU_X3_passesOn : fm_mU RX3 yX4_passesOn yX1_passesOn cX1_passesOn 3 (some .int) 2 := ⟨q_371, q_369, q_382, q_377, q_4, q_378, ⟨_, _, _, q_386⟩, by decide +kernel⟩
theorem fc_6 : fm_ct 6 = 3 := by decide +kernel
theorem q_379 : Cond.selects RX2 yX4_passesOn yX2_passesOn ∈ fm_tb := fm_in 379 (by decide +kernel) (by decide +kernel)
theorem q_380 : Cond.instanceMethod yX2_passesOn ∈ fm_tb := fm_in 380 (by decide +kernel) (by decide +kernel)
theorem q_7 : Cond.initialized RX2 ∈ fm_tb := fm_in 7 (by decide +kernel) (by decide +kernel)
theorem q_381 : Cond.code yX2_passesOn cX2_passesOn 3 (some .int) ∈ fm_tb := fm_in 381 (by decide +kernel) (by decide +kernel)
theorem mU_X2_passesOn : fm_mU RX2 yX4_passesOn yX2_passesOn cX2_passesOn 3 (some .int) 2 := ⟨q_371, q_369, q_379, q_380, q_7, q_381, ⟨_, _, _, q_386⟩, by decide +kernel⟩
theorem fc_7 : fm_ct 7 = 2 := by decide +kernel
theorem q_473 : Cond.methodLink RX10 94 yX7_layAbout ∈ fm_tb := fm_in 473 (by decide +kernel) (by decide +kernel)
theorem q_440 : Cond.instanceMethod yX7_layAbout ∈ fm_tb := fm_in 440 (by decide +kernel) (by decide +kernel)
theorem q_441 : Cond.selects RX7 yX7_layAbout yX7_layAbout ∈ fm_tb := fm_in 441 (by decide +kernel) (by decide +kernel)
theorem q_442 : Cond.code yX7_layAbout cX7_layAbout 2 none ∈ fm_tb := fm_in 442 (by decide +kernel) (by decide +kernel)
theorem mV_X7_layAbout : fm_mV RX7 yX7_layAbout cX7_layAbout 2 none 1 := ⟨q_440, q_441, q_10, q_442, by decide +kernel⟩
theorem q_288 : Cond.methodLink RX10 98 yX7_outermost ∈ fm_tb := fm_in 288 (by decide +kernel) (by decide +kernel)
theorem q_296 : Cond.methodLink RX10 101 yX4_opens ∈ fm_tb := fm_in 296 (by decide +kernel) (by decide +kernel)
theorem q_298 : Cond.selects RX4 yX4_opens yX4_opens ∈ fm_tb := fm_in 298 (by decide +kernel) (by decide +kernel)
theorem mV_X4_opens : fm_mV RX4 yX4_opens cX4_opens 4 (some .int) 3 := ⟨q_297, q_298, q_2, q_318, by decide +kernel⟩
theorem q_300 : Cond.selects RX0 yX4_opens yX0_opens ∈ fm_tb := fm_in 300 (by decide +kernel) (by decide +kernel)
theorem mU_X0_opens : fm_mU RX0 yX4_opens yX0_opens cX0_opens 4 (some .int) 3 := ⟨q_299, q_297, q_300, q_301, q_3, q_302, ⟨_, _, _, q_318⟩, by decide +kernel⟩
theorem q_303 : Cond.selects RX1 yX4_opens yX1_opens ∈ fm_tb := fm_in 303 (by decide +kernel) (by decide +kernel)
theorem q_304 : Cond.instanceMethod yX1_opens ∈ fm_tb := fm_in 304 (by decide +kernel) (by decide +kernel)
theorem q_305 : Cond.code yX1_opens cX1_opens 4 (some .int) ∈ fm_tb := fm_in 305 (by decide +kernel) (by decide +kernel)
theorem mU_X1_opens : fm_mU RX1 yX4_opens yX1_opens cX1_opens 4 (some .int) 3 := ⟨q_299, q_297, q_303, q_304, q_4, q_305, ⟨_, _, _, q_318⟩, by decide +kernel⟩
theorem q_314 : Cond.selects RX6 yX4_opens yX6_opens ∈ fm_tb := fm_in 314 (by decide +kernel) (by decide +kernel)
theorem q_315 : Cond.instanceMethod yX6_opens ∈ fm_tb := fm_in 315 (by decide +kernel) (by decide +kernel)
theorem q_316 : Cond.code yX6_opens cX6_opens 4 (some .int) ∈ fm_tb := fm_in 316 (by decide +kernel) (by decide +kernel)
theorem mU_X6_opens : fm_mU RX6 yX4_opens yX6_opens cX6_opens 4 (some .int) 3 := ⟨q_299, q_297, q_314, q_315, q_5, q_316, ⟨_, _, _, q_318⟩, by decide +kernel⟩
theorem q_311 : Cond.selects RX3 yX4_opens yX3_opens ∈ fm_tb := fm_in 311 (by decide +kernel) (by decide +kernel)
theorem q_312 : Cond.instanceMethod yX3_opens ∈ fm_tb := fm_in 312 (by decide +kernel) (by decide +kernel)
theorem q_6 : Cond.initialized RX3 ∈ fm_tb := fm_in 6 (by decide +kernel) (by decide +kernel)
theorem q_313 : Cond.code yX3_opens cX3_opens 4 (some .int) ∈ fm_tb := fm_in 313 (by decide +kernel) (by decide +kernel)
theorem mU_X3_opens : fm_mU RX3 yX4_opens yX3_opens cX3_opens 4 (some .int) 3 := ⟨q_299, q_297, q_311, q_312, q_6, q_313, ⟨_, _, _, q_318⟩, by decide +kernel⟩
theorem q_307 : Cond.selects RX2 yX4_opens yX2_opens ∈ fm_tb := fm_in 307 (by decide +kernel) (by decide +kernel)
theorem q_308 : Cond.instanceMethod yX2_opens ∈ fm_tb := fm_in 308 (by decide +kernel) (by decide +kernel)
theorem q_309 : Cond.code yX2_opens cX2_opens 4 (some .int) ∈ fm_tb := fm_in 309 (by decide +kernel) (by decide +kernel)
theorem mU_X2_opens : fm_mU RX2 yX4_opens yX2_opens cX2_opens 4 (some .int) 3 := ⟨q_299, q_297, q_307, q_308, q_7, q_309, ⟨_, _, _, q_318⟩, by decide +kernel⟩
theorem q_319 : Cond.methodLink RX10 105 yJ9_min_7cf53 ∈ fm_tb := fm_in 319 (by decide +kernel) (by decide +kernel)
theorem q_478 : Cond.methodLink RX10 110 yX10_takesOff ∈ fm_tb := fm_in 478 (by decide +kernel) (by decide +kernel)
theorem q_284 : Cond.instanceMethod yX10_takesOff ∈ fm_tb := fm_in 284 (by decide +kernel) (by decide +kernel)
theorem q_285 : Cond.selects RX10 yX10_takesOff yX10_takesOff ∈ fm_tb := fm_in 285 (by decide +kernel) (by decide +kernel)
theorem q_286 : Cond.code yX10_takesOff cX10_takesOff 4 (some .int) ∈ fm_tb := fm_in 286 (by decide +kernel) (by decide +kernel)
theorem mV_X10_takesOff : fm_mV RX10 yX10_takesOff cX10_takesOff 4 (some .int) 2 := ⟨q_284, q_285, q_8, q_286, by decide +kernel⟩
theorem q_479 : Cond.methodLink RX10 114 yX7_takeOff ∈ fm_tb := fm_in 479 (by decide +kernel) (by decide +kernel)
theorem q_448 : Cond.instanceMethod yX7_takeOff ∈ fm_tb := fm_in 448 (by decide +kernel) (by decide +kernel)
theorem q_449 : Cond.selects RX7 yX7_takeOff yX7_takeOff ∈ fm_tb := fm_in 449 (by decide +kernel) (by decide +kernel)
theorem q_450 : Cond.code yX7_takeOff cX7_takeOff 2 (some .int) ∈ fm_tb := fm_in 450 (by decide +kernel) (by decide +kernel)
theorem mV_X7_takeOff : fm_mV RX7 yX7_takeOff cX7_takeOff 2 (some .int) 0 := ⟨q_448, q_449, q_10, q_450, by decide +kernel⟩
theorem q_480 : Cond.methodLink RX10 117 yX4_enjoys ∈ fm_tb := fm_in 480 (by decide +kernel) (by decide +kernel)
theorem q_325 : Cond.selects RX4 yX4_enjoys yX4_enjoys ∈ fm_tb := fm_in 325 (by decide +kernel) (by decide +kernel)
theorem mV_X4_enjoys : fm_mV RX4 yX4_enjoys cX4_enjoys 2 (some .int) 1 := ⟨q_324, q_325, q_2, q_346, by decide +kernel⟩
theorem q_327 : Cond.selects RX0 yX4_enjoys yX0_enjoys ∈ fm_tb := fm_in 327 (by decide +kernel) (by decide +kernel)
theorem mU_X0_enjoys : fm_mU RX0 yX4_enjoys yX0_enjoys cX0_enjoys 2 (some .int) 1 := ⟨q_326, q_324, q_327, q_328, q_3, q_329, ⟨_, _, _, q_346⟩, by decide +kernel⟩
theorem q_331 : Cond.selects RX1 yX4_enjoys yX1_enjoys ∈ fm_tb := fm_in 331 (by decide +kernel) (by decide +kernel)
theorem q_332 : Cond.instanceMethod yX1_enjoys ∈ fm_tb := fm_in 332 (by decide +kernel) (by decide +kernel)
theorem q_333 : Cond.code yX1_enjoys cX1_enjoys 2 (some .int) ∈ fm_tb := fm_in 333 (by decide +kernel) (by decide +kernel)
theorem mU_X1_enjoys : fm_mU RX1 yX4_enjoys yX1_enjoys cX1_enjoys 2 (some .int) 1 := ⟨q_326, q_324, q_331, q_332, q_4, q_333, ⟨_, _, _, q_346⟩, by decide +kernel⟩
theorem q_342 : Cond.selects RX6 yX4_enjoys yX6_enjoys ∈ fm_tb := fm_in 342 (by decide +kernel) (by decide +kernel)
theorem q_343 : Cond.instanceMethod yX6_enjoys ∈ fm_tb := fm_in 343 (by decide +kernel) (by decide +kernel)
theorem q_344 : Cond.code yX6_enjoys cX6_enjoys 2 (some .int) ∈ fm_tb := fm_in 344 (by decide +kernel) (by decide +kernel)
theorem mU_X6_enjoys : fm_mU RX6 yX4_enjoys yX6_enjoys cX6_enjoys 2 (some .int) 1 := ⟨q_326, q_324, q_342, q_343, q_5, q_344, ⟨_, _, _, q_346⟩, by decide +kernel⟩
theorem q_339 : Cond.selects RX3 yX4_enjoys yX3_enjoys ∈ fm_tb := fm_in 339 (by decide +kernel) (by decide +kernel)
theorem q_340 : Cond.instanceMethod yX3_enjoys ∈ fm_tb := fm_in 340 (by decide +kernel) (by decide +kernel)
theorem q_341 : Cond.code yX3_enjoys cX3_enjoys 2 (some .int) ∈ fm_tb := fm_in 341 (by decide +kernel) (by decide +kernel)
theorem mU_X3_enjoys : fm_mU RX3 yX4_enjoys yX3_enjoys cX3_enjoys 2 (some .int) 1 := ⟨q_326, q_324, q_339, q_340, q_6, q_341, ⟨_, _, _, q_346⟩, by decide +kernel⟩
theorem q_335 : Cond.selects RX2 yX4_enjoys yX2_enjoys ∈ fm_tb := fm_in 335 (by decide +kernel) (by decide +kernel)
theorem q_336 : Cond.instanceMethod yX2_enjoys ∈ fm_tb := fm_in 336 (by decide +kernel) (by decide +kernel)
theorem q_337 : Cond.code yX2_enjoys cX2_enjoys 2 (some .int) ∈ fm_tb := fm_in 337 (by decide +kernel) (by decide +kernel)
theorem mU_X2_enjoys : fm_mU RX2 yX4_enjoys yX2_enjoys cX2_enjoys 2 (some .int) 1 := ⟨q_326, q_324, q_335, q_336, q_7, q_337, ⟨_, _, _, q_346⟩, by decide +kernel⟩
theorem q_481 : Cond.methodLink RX10 121 yX5_pleaseBy ∈ fm_tb := fm_in 481 (by decide +kernel) (by decide +kernel)
theorem q_482 : Cond.instanceMethod yX5_pleaseBy ∈ fm_tb := fm_in 482 (by decide +kernel) (by decide +kernel)
theorem q_483 : Cond.selects RX5 yX5_pleaseBy yX5_pleaseBy ∈ fm_tb := fm_in 483 (by decide +kernel) (by decide +kernel)
theorem q_484 : Cond.code yX5_pleaseBy cX5_pleaseBy 2 none ∈ fm_tb := fm_in 484 (by decide +kernel) (by decide +kernel)
theorem mV_X5_pleaseBy : fm_mV RX5 yX5_pleaseBy cX5_pleaseBy 2 none 1 := ⟨q_482, q_483, q_9, q_484, by decide +kernel⟩
theorem q_486 : Cond.methodLink RX10 124 yX4_isStruck ∈ fm_tb := fm_in 486 (by decide +kernel) (by decide +kernel)
theorem q_349 : Cond.selects RX4 yX4_isStruck yX4_isStruck ∈ fm_tb := fm_in 349 (by decide +kernel) (by decide +kernel)
theorem mV_X4_isStruck : fm_mV RX4 yX4_isStruck cX4_isStruck 2 (some .int) 1 := ⟨q_348, q_349, q_2, q_367, by decide +kernel⟩
theorem q_351 : Cond.selects RX0 yX4_isStruck yX0_isStruck ∈ fm_tb := fm_in 351 (by decide +kernel) (by decide +kernel)
theorem mU_X0_isStruck : fm_mU RX0 yX4_isStruck yX0_isStruck cX0_isStruck 2 (some .int) 1 := ⟨q_350, q_348, q_351, q_352, q_3, q_353, ⟨_, _, _, q_367⟩, by decide +kernel⟩
theorem q_354 : Cond.selects RX1 yX4_isStruck yX1_isStruck ∈ fm_tb := fm_in 354 (by decide +kernel) (by decide +kernel)
theorem mU_X1_isStruck : fm_mU RX1 yX4_isStruck yX1_isStruck cX1_isStruck 2 (some .int) 1 := ⟨q_350, q_348, q_354, q_355, q_4, q_356, ⟨_, _, _, q_367⟩, by decide +kernel⟩
theorem q_366 : Cond.selects RX6 yX4_isStruck yX4_isStruck ∈ fm_tb := fm_in 366 (by decide +kernel) (by decide +kernel)
theorem mU_X6_isStruck : fm_mU RX6 yX4_isStruck yX4_isStruck cX4_isStruck 2 (some .int) 1 := ⟨q_350, q_348, q_366, q_348, q_2, q_367, ⟨_, _, _, q_367⟩, by decide +kernel⟩
theorem q_362 : Cond.selects RX3 yX4_isStruck yX3_isStruck ∈ fm_tb := fm_in 362 (by decide +kernel) (by decide +kernel)
theorem q_363 : Cond.instanceMethod yX3_isStruck ∈ fm_tb := fm_in 363 (by decide +kernel) (by decide +kernel)
theorem q_364 : Cond.code yX3_isStruck cX3_isStruck 2 (some .int) ∈ fm_tb := fm_in 364 (by decide +kernel) (by decide +kernel)
theorem mU_X3_isStruck : fm_mU RX3 yX4_isStruck yX3_isStruck cX3_isStruck 2 (some .int) 1 := ⟨q_350, q_348, q_362, q_363, q_6, q_364, ⟨_, _, _, q_367⟩, by decide +kernel⟩
theorem q_358 : Cond.selects RX2 yX4_isStruck yX2_isStruck ∈ fm_tb := fm_in 358 (by decide +kernel) (by decide +kernel)
theorem q_359 : Cond.instanceMethod yX2_isStruck ∈ fm_tb := fm_in 359 (by decide +kernel) (by decide +kernel)
theorem q_360 : Cond.code yX2_isStruck cX2_isStruck 2 (some .int) ∈ fm_tb := fm_in 360 (by decide +kernel) (by decide +kernel)
theorem mU_X2_isStruck : fm_mU RX2 yX4_isStruck yX2_isStruck cX2_isStruck 2 (some .int) 1 := ⟨q_350, q_348, q_358, q_359, q_7, q_360, ⟨_, _, _, q_367⟩, by decide +kernel⟩
theorem q_468 : Cond.methodLink RX10 76 yX10_handsOn ∈ fm_tb := fm_in 468 (by decide +kernel) (by decide +kernel)
theorem q_470 : Cond.instanceMethod yX10_handsOn ∈ fm_tb := fm_in 470 (by decide +kernel) (by decide +kernel)
theorem qs_3 : Cond.selects RX10 yX10_handsOn yX10_handsOn ∈ fm_tb := fm_inS 3 (by decide +kernel) (by decide +kernel)
theorem q_471 : Cond.code yX10_handsOn cX10_handsOn 4 (some .boolean) ∈ fm_tb := fm_in 471 (by decide +kernel) (by decide +kernel)
theorem mV_X10_handsOn : fm_mV RX10 yX10_handsOn cX10_handsOn 4 (some .boolean) 2 := ⟨q_470, qs_3, q_8, q_471, by decide +kernel⟩
theorem q_474 : Cond.methodLink RX10 80 yX10_openBy ∈ fm_tb := fm_in 474 (by decide +kernel) (by decide +kernel)
theorem q_476 : Cond.instanceMethod yX10_openBy ∈ fm_tb := fm_in 476 (by decide +kernel) (by decide +kernel)
theorem qs_4 : Cond.selects RX10 yX10_openBy yX10_openBy ∈ fm_tb := fm_inS 4 (by decide +kernel) (by decide +kernel)
theorem q_477 : Cond.code yX10_openBy cX10_openBy 6 none ∈ fm_tb := fm_in 477 (by decide +kernel) (by decide +kernel)
theorem mV_X10_openBy : fm_mV RX10 yX10_openBy cX10_openBy 6 none 2 := ⟨q_476, qs_4, q_8, q_477, by decide +kernel⟩
theorem q_464 : Cond.methodLink RX10 73 yX10_oneDay ∈ fm_tb := fm_in 464 (by decide +kernel) (by decide +kernel)
theorem q_465 : Cond.instanceMethod yX10_oneDay ∈ fm_tb := fm_in 465 (by decide +kernel) (by decide +kernel)
theorem q_466 : Cond.selects RX10 yX10_oneDay yX10_oneDay ∈ fm_tb := fm_in 466 (by decide +kernel) (by decide +kernel)
theorem q_467 : Cond.code yX10_oneDay cX10_oneDay 5 none ∈ fm_tb := fm_in 467 (by decide +kernel) (by decide +kernel)
theorem mV_X10_oneDay : fm_mV RX10 yX10_oneDay cX10_oneDay 5 none 0 := ⟨q_465, q_466, q_8, q_467, by decide +kernel⟩
theorem fc_92 : fm_ct 92 = 9 := by decide +kernel
theorem q_186 : Cond.fieldLink RX9 15 "WrapGifts$Tape" "length" "I" ∈ fm_tb := fm_in 186 (by decide +kernel) (by decide +kernel)
theorem in_X9 : ∀ w ∈ u_ws RX9 TX9 6, w ∈ fm_tb := fm_inL [192, 194, 196, 198, 200, 202] (by decide +kernel) (by decide +kernel)
theorem fd_X9_1 : fm_fd RX9 TX9 6 9 1 0 := ⟨rfl, in_X9, by decide, by decide, by decide⟩
theorem q_185 : Cond.fieldLink RX9 9 "WrapGifts$Tape" "bytes" "[I" ∈ fm_tb := fm_in 185 (by decide +kernel) (by decide +kernel)
theorem fd_X9_0 : fm_fd RX9 TX9 6 9 0 2 := ⟨rfl, in_X9, by decide, by decide, by decide⟩
theorem fc_93 : fm_ct 93 = 14 := by decide +kernel
theorem fl_93 : fm_ln 93 = 120 := by decide +kernel
theorem fr_92_0 : fm_rf 92 0 = 93 := by decide +kernel
theorem fp_X9_1 : fm_fp RX9 TX9 6 9 1 0 tyX9 .int := ⟨fd_X9_1, tyX9_ok, nmX9, rfl, by decide +kernel⟩
theorem q_640 : Cond.methodLink RX9 97 yJ0_length_8abf5 ∈ fm_tb := fm_in 640 (by decide +kernel) (by decide +kernel)
theorem q_189 : Cond.fieldLink RX9 19 "WrapGifts$Tape" "end" "I" ∈ fm_tb := fm_in 189 (by decide +kernel) (by decide +kernel)
theorem fd_X9_3 : fm_fd RX9 TX9 6 9 3 0 := ⟨rfl, in_X9, by decide, by decide, by decide⟩
theorem q_188 : Cond.fieldLink RX9 32 "WrapGifts$Tape" "start" "I" ∈ fm_tb := fm_in 188 (by decide +kernel) (by decide +kernel)
theorem fd_X9_2 : fm_fd RX9 TX9 6 9 2 0 := ⟨rfl, in_X9, by decide, by decide, by decide⟩
theorem q_650 : Cond.methodLink RX9 102 yJ0_charAt_5068e ∈ fm_tb := fm_in 650 (by decide +kernel) (by decide +kernel)
theorem q_614 : Cond.methodLink RX9 71 yX9_isLetter ∈ fm_tb := fm_in 614 (by decide +kernel) (by decide +kernel)
theorem q_615 : Cond.static yX9_isLetter ∈ fm_tb := fm_in 615 (by decide +kernel) (by decide +kernel)
theorem q_12 : Cond.initialized RX9 ∈ fm_tb := fm_in 12 (by decide +kernel) (by decide +kernel)
theorem q_616 : Cond.code yX9_isLetter cX9_isLetter 1 (some .boolean) ∈ fm_tb := fm_in 616 (by decide +kernel) (by decide +kernel)
theorem mS_X9_isLetter : fm_mS yX9_isLetter cX9_isLetter 1 (some .boolean) 1 := ⟨q_615, q_12, q_616, by decide +kernel⟩
theorem fp_X9_3 : fm_fp RX9 TX9 6 9 3 0 tyX9 .int := ⟨fd_X9_3, tyX9_ok, nmX9, rfl, by decide +kernel⟩
theorem q_190 : Cond.fieldLink RX9 29 "WrapGifts$Tape" "token" "I" ∈ fm_tb := fm_in 190 (by decide +kernel) (by decide +kernel)
theorem fd_X9_4 : fm_fd RX9 TX9 6 9 4 0 := ⟨rfl, in_X9, by decide, by decide, by decide⟩
theorem fp_X9_4 : fm_fp RX9 TX9 6 9 4 0 tyX9 .int := ⟨fd_X9_4, tyX9_ok, nmX9, rfl, by decide +kernel⟩
theorem q_621 : Cond.methodLink RX9 84 yX9_nameOf ∈ fm_tb := fm_in 621 (by decide +kernel) (by decide +kernel)
theorem q_622 : Cond.static yX9_nameOf ∈ fm_tb := fm_in 622 (by decide +kernel) (by decide +kernel)
theorem q_623 : Cond.code yX9_nameOf cX9_nameOf 1 (some (.object "java/lang/String")) ∈ fm_tb := fm_in 623 (by decide +kernel) (by decide +kernel)
theorem mS_X9_nameOf : fm_mS yX9_nameOf cX9_nameOf 1 (some (.object "java/lang/String")) 1 := ⟨q_622, q_12, q_623, by decide +kernel⟩
theorem q_636 : Cond.methodLink RX9 88 yX9_reads ∈ fm_tb := fm_in 636 (by decide +kernel) (by decide +kernel)
theorem q_638 : Cond.instanceMethod yX9_reads ∈ fm_tb := fm_in 638 (by decide +kernel) (by decide +kernel)
theorem qs_12 : Cond.selects RX9 yX9_reads yX9_reads ∈ fm_tb := fm_inS 12 (by decide +kernel) (by decide +kernel)
theorem q_639 : Cond.code yX9_reads cX9_reads 3 (some .boolean) ∈ fm_tb := fm_in 639 (by decide +kernel) (by decide +kernel)
theorem mV_X9_reads : fm_mV RX9 yX9_reads cX9_reads 3 (some .boolean) 1 := ⟨q_638, qs_12, q_12, q_639, by decide +kernel⟩
theorem q_191 : Cond.fieldLink RX9 47 "WrapGifts$Tape" "value" "I" ∈ fm_tb := fm_in 191 (by decide +kernel) (by decide +kernel)
theorem fd_X9_5 : fm_fd RX9 TX9 6 9 5 0 := ⟨rfl, in_X9, by decide, by decide, by decide⟩
theorem fp_X9_5 : fm_fp RX9 TX9 6 9 5 0 tyX9 .int := ⟨fd_X9_5, tyX9_ok, nmX9, rfl, by decide +kernel⟩
theorem q_688 : Cond.methodLink RX9 78 yX9_isDigit ∈ fm_tb := fm_in 688 (by decide +kernel) (by decide +kernel)
theorem q_689 : Cond.static yX9_isDigit ∈ fm_tb := fm_in 689 (by decide +kernel) (by decide +kernel)
theorem q_690 : Cond.code yX9_isDigit cX9_isDigit 1 (some .boolean) ∈ fm_tb := fm_in 690 (by decide +kernel) (by decide +kernel)
theorem mS_X9_isDigit : fm_mS yX9_isDigit cX9_isDigit 1 (some .boolean) 1 := ⟨q_689, q_12, q_690, by decide +kernel⟩
theorem q_695 : Cond.methodLink RX9 92 yJ9_min_7cf53 ∈ fm_tb := fm_in 695 (by decide +kernel) (by decide +kernel)
theorem fp_X9_2 : fm_fp RX9 TX9 6 9 2 0 tyX9 .int := ⟨fd_X9_2, tyX9_ok, nmX9, rfl, by decide +kernel⟩
theorem q_691 : Cond.methodLink RX9 81 yX9_stepOverNumber ∈ fm_tb := fm_in 691 (by decide +kernel) (by decide +kernel)
theorem q_693 : Cond.instanceMethod yX9_stepOverNumber ∈ fm_tb := fm_in 693 (by decide +kernel) (by decide +kernel)
theorem qs_13 : Cond.selects RX9 yX9_stepOverNumber yX9_stepOverNumber ∈ fm_tb := fm_inS 13 (by decide +kernel) (by decide +kernel)
theorem q_694 : Cond.code yX9_stepOverNumber cX9_stepOverNumber 1 none ∈ fm_tb := fm_in 694 (by decide +kernel) (by decide +kernel)
theorem mV_X9_stepOverNumber : fm_mV RX9 yX9_stepOverNumber cX9_stepOverNumber 1 none 0 := ⟨q_693, qs_13, q_12, q_694, by decide +kernel⟩
theorem q_617 : Cond.methodLink RX9 75 yX9_stepOverWord ∈ fm_tb := fm_in 617 (by decide +kernel) (by decide +kernel)
theorem q_619 : Cond.instanceMethod yX9_stepOverWord ∈ fm_tb := fm_in 619 (by decide +kernel) (by decide +kernel)
theorem qs_11 : Cond.selects RX9 yX9_stepOverWord yX9_stepOverWord ∈ fm_tb := fm_inS 11 (by decide +kernel) (by decide +kernel)
theorem q_620 : Cond.code yX9_stepOverWord cX9_stepOverWord 2 none ∈ fm_tb := fm_in 620 (by decide +kernel) (by decide +kernel)
theorem mV_X9_stepOverWord : fm_mV RX9 yX9_stepOverWord cX9_stepOverWord 2 none 0 := ⟨q_619, qs_11, q_12, q_620, by decide +kernel⟩
theorem q_141 : Cond.fieldLink RX9 50 "WrapGifts$Town" "people" "I" ∈ fm_tb := fm_in 141 (by decide +kernel) (by decide +kernel)
theorem q_610 : Cond.methodLink RX9 22 yX9_step ∈ fm_tb := fm_in 610 (by decide +kernel) (by decide +kernel)
theorem q_612 : Cond.instanceMethod yX9_step ∈ fm_tb := fm_in 612 (by decide +kernel) (by decide +kernel)
theorem qs_10 : Cond.selects RX9 yX9_step yX9_step ∈ fm_tb := fm_inS 10 (by decide +kernel) (by decide +kernel)
theorem q_613 : Cond.code yX9_step cX9_step 1 none ∈ fm_tb := fm_in 613 (by decide +kernel) (by decide +kernel)
theorem mV_X9_step : fm_mV RX9 yX9_step cX9_step 1 none 0 := ⟨q_612, qs_10, q_12, q_613, by decide +kernel⟩
theorem q_705 : Cond.methodLink RX9 53 yX10_addPresent ∈ fm_tb := fm_in 705 (by decide +kernel) (by decide +kernel)
theorem q_411 : Cond.instanceMethod yX10_addPresent ∈ fm_tb := fm_in 411 (by decide +kernel) (by decide +kernel)
theorem q_412 : Cond.selects RX10 yX10_addPresent yX10_addPresent ∈ fm_tb := fm_in 412 (by decide +kernel) (by decide +kernel)
theorem q_413 : Cond.code yX10_addPresent cX10_addPresent 3 (some .int) ∈ fm_tb := fm_in 413 (by decide +kernel) (by decide +kernel)
theorem mV_X10_addPresent : fm_mV RX10 yX10_addPresent cX10_addPresent 3 (some .int) 2 := ⟨q_411, q_412, q_8, q_413, by decide +kernel⟩
theorem q_706 : Cond.methodLink RX9 57 yX9_isPaperName ∈ fm_tb := fm_in 706 (by decide +kernel) (by decide +kernel)
theorem q_708 : Cond.instanceMethod yX9_isPaperName ∈ fm_tb := fm_in 708 (by decide +kernel) (by decide +kernel)
theorem qs_16 : Cond.selects RX9 yX9_isPaperName yX9_isPaperName ∈ fm_tb := fm_inS 16 (by decide +kernel) (by decide +kernel)
theorem q_709 : Cond.code yX9_isPaperName cX9_isPaperName 1 (some .boolean) ∈ fm_tb := fm_in 709 (by decide +kernel) (by decide +kernel)
theorem mV_X9_isPaperName : fm_mV RX9 yX9_isPaperName cX9_isPaperName 1 (some .boolean) 0 := ⟨q_708, qs_16, q_12, q_709, by decide +kernel⟩
theorem q_136 : Cond.fieldLink RX9 61 "WrapGifts$Town" "gifts" "[LWrapGifts$Present;" ∈ fm_tb := fm_in 136 (by decide +kernel) (by decide +kernel)
theorem q_710 : Cond.methodLink RX9 65 yX7_layInnermost ∈ fm_tb := fm_in 710 (by decide +kernel) (by decide +kernel)
theorem q_143 : Cond.fieldLink RX9 41 "WrapGifts$Town" "presents" "I" ∈ fm_tb := fm_in 143 (by decide +kernel) (by decide +kernel)
theorem q_701 : Cond.methodLink RX9 44 yX9_readPresent ∈ fm_tb := fm_in 701 (by decide +kernel) (by decide +kernel)
theorem q_703 : Cond.instanceMethod yX9_readPresent ∈ fm_tb := fm_in 703 (by decide +kernel) (by decide +kernel)
theorem qs_15 : Cond.selects RX9 yX9_readPresent yX9_readPresent ∈ fm_tb := fm_inS 15 (by decide +kernel) (by decide +kernel)
theorem q_704 : Cond.code yX9_readPresent cX9_readPresent 6 (some .boolean) ∈ fm_tb := fm_in 704 (by decide +kernel) (by decide +kernel)
theorem mV_X9_readPresent : fm_mV RX9 yX9_readPresent cX9_readPresent 6 (some .boolean) 1 := ⟨q_703, qs_15, q_12, q_704, by decide +kernel⟩
theorem q_700 : Cond.methodLink RX9 35 yX10_addPerson ∈ fm_tb := fm_in 700 (by decide +kernel) (by decide +kernel)
theorem q_247 : Cond.instanceMethod yX10_addPerson ∈ fm_tb := fm_in 247 (by decide +kernel) (by decide +kernel)
theorem q_248 : Cond.selects RX10 yX10_addPerson yX10_addPerson ∈ fm_tb := fm_in 248 (by decide +kernel) (by decide +kernel)
theorem q_249 : Cond.code yX10_addPerson cX10_addPerson 2 (some .int) ∈ fm_tb := fm_in 249 (by decide +kernel) (by decide +kernel)
theorem mV_X10_addPerson : fm_mV RX10 yX10_addPerson cX10_addPerson 2 (some .int) 1 := ⟨q_247, q_248, q_8, q_249, by decide +kernel⟩
theorem q_696 : Cond.methodLink RX9 25 yX9_readItem ∈ fm_tb := fm_in 696 (by decide +kernel) (by decide +kernel)
theorem q_698 : Cond.instanceMethod yX9_readItem ∈ fm_tb := fm_in 698 (by decide +kernel) (by decide +kernel)
theorem qs_14 : Cond.selects RX9 yX9_readItem yX9_readItem ∈ fm_tb := fm_inS 14 (by decide +kernel) (by decide +kernel)
theorem q_699 : Cond.code yX9_readItem cX9_readItem 2 (some .boolean) ∈ fm_tb := fm_in 699 (by decide +kernel) (by decide +kernel)
theorem mV_X9_readItem : fm_mV RX9 yX9_readItem cX9_readItem 2 (some .boolean) 1 := ⟨q_698, qs_14, q_12, q_699, by decide +kernel⟩
theorem q_785 : Cond.constant RJ6 265 (1431655765 : Int32) ∈ fm_tb := fm_in 785 (by decide +kernel) (by decide +kernel)
theorem q_786 : Cond.constant RJ6 266 (858993459 : Int32) ∈ fm_tb := fm_in 786 (by decide +kernel) (by decide +kernel)
theorem q_787 : Cond.constant RJ6 267 (252645135 : Int32) ∈ fm_tb := fm_in 787 (by decide +kernel) (by decide +kernel)
theorem q_237 : Cond.methodLink RX11 92 yX11_within ∈ fm_tb := fm_in 237 (by decide +kernel) (by decide +kernel)
theorem q_238 : Cond.static yX11_within ∈ fm_tb := fm_in 238 (by decide +kernel) (by decide +kernel)
theorem q_1 : Cond.initialized RX11 ∈ fm_tb := fm_in 1 (by decide +kernel) (by decide +kernel)
theorem q_239 : Cond.code yX11_within cX11_within 3 (some .boolean) ∈ fm_tb := fm_in 239 (by decide +kernel) (by decide +kernel)
theorem mS_X11_within : fm_mS yX11_within cX11_within 3 (some .boolean) 3 := ⟨q_238, q_1, q_239, by decide +kernel⟩
theorem fc_0 : fm_ct 0 = 11 := by decide +kernel
theorem q_240 : Cond.constant RX11 57 (-1000000001 : Int32) ∈ fm_tb := fm_in 240 (by decide +kernel) (by decide +kernel)
theorem q_211 : Cond.fieldLink RX11 46 "WrapGifts" "told" "[I" ∈ fm_tb := fm_in 211 (by decide +kernel) (by decide +kernel)
theorem in_X11 : ∀ w ∈ u_ws RX11 TX11 8, w ∈ fm_tb := fm_inL [213, 215, 217, 219, 221, 223, 225, 227] (by decide +kernel) (by decide +kernel)
theorem fd_X11_6 : fm_fd RX11 TX11 8 11 6 2 := ⟨rfl, in_X11, by decide, by decide, by decide⟩
theorem fc_94 : fm_ct 94 = 14 := by decide +kernel
theorem fl_94 : fm_ln 94 = 7 := by decide +kernel
theorem fr_0_6 : fm_rf 0 6 = 94 := by decide +kernel
theorem q_234 : Cond.methodLink RX11 53 yX11_isKind ∈ fm_tb := fm_in 234 (by decide +kernel) (by decide +kernel)
theorem q_235 : Cond.static yX11_isKind ∈ fm_tb := fm_in 235 (by decide +kernel) (by decide +kernel)
theorem q_236 : Cond.code yX11_isKind cX11_isKind 1 (some .boolean) ∈ fm_tb := fm_in 236 (by decide +kernel) (by decide +kernel)
theorem mS_X11_isKind : fm_mS yX11_isKind cX11_isKind 1 (some .boolean) 1 := ⟨q_235, q_1, q_236, by decide +kernel⟩
theorem q_205 : Cond.fieldLink RX11 18 "WrapGifts" "town" "LWrapGifts$Town;" ∈ fm_tb := fm_in 205 (by decide +kernel) (by decide +kernel)
theorem fd_X11_0 : fm_fd RX11 TX11 8 11 0 2 := ⟨rfl, in_X11, by decide, by decide, by decide⟩
theorem fc_8 : fm_ct 8 = 10 := by decide +kernel
theorem fr_0_0 : fm_rf 0 0 = 8 := by decide +kernel
theorem q_140 : Cond.fieldLink RX11 62 "WrapGifts$Town" "people" "I" ∈ fm_tb := fm_in 140 (by decide +kernel) (by decide +kernel)
theorem q_246 : Cond.methodLink RX11 67 yX10_addPerson ∈ fm_tb := fm_in 246 (by decide +kernel) (by decide +kernel)
theorem q_245 : Cond.constant RX11 66 (-1000000002 : Int32) ∈ fm_tb := fm_in 245 (by decide +kernel) (by decide +kernel)
theorem q_241 : Cond.methodLink RX11 58 yX11_tell ∈ fm_tb := fm_in 241 (by decide +kernel) (by decide +kernel)
theorem q_243 : Cond.instanceMethod yX11_tell ∈ fm_tb := fm_in 243 (by decide +kernel) (by decide +kernel)
theorem qs_0 : Cond.selects RX11 yX11_tell yX11_tell ∈ fm_tb := fm_inS 0 (by decide +kernel) (by decide +kernel)
theorem q_244 : Cond.code yX11_tell cX11_tell 3 (some .int) ∈ fm_tb := fm_in 244 (by decide +kernel) (by decide +kernel)
theorem mV_X11_tell : fm_mV RX11 yX11_tell cX11_tell 3 (some .int) 1 := ⟨q_243, qs_0, q_1, q_244, by decide +kernel⟩
theorem q_254 : Cond.methodLink RX11 70 yX11_isPerson ∈ fm_tb := fm_in 254 (by decide +kernel) (by decide +kernel)
theorem q_256 : Cond.instanceMethod yX11_isPerson ∈ fm_tb := fm_in 256 (by decide +kernel) (by decide +kernel)
theorem qs_1 : Cond.selects RX11 yX11_isPerson yX11_isPerson ∈ fm_tb := fm_inS 1 (by decide +kernel) (by decide +kernel)
theorem q_257 : Cond.code yX11_isPerson cX11_isPerson 2 (some .boolean) ∈ fm_tb := fm_in 257 (by decide +kernel) (by decide +kernel)
theorem mV_X11_isPerson : fm_mV RX11 yX11_isPerson cX11_isPerson 2 (some .boolean) 1 := ⟨q_256, qs_1, q_1, q_257, by decide +kernel⟩
theorem q_133 : Cond.fieldLink RX11 73 "WrapGifts$Town" "folk" "[LWrapGifts$Person;" ∈ fm_tb := fm_in 133 (by decide +kernel) (by decide +kernel)
theorem fc_9 : fm_ct 9 = 17 := by decide +kernel
theorem fl_9 : fm_ln 9 = 6 := by decide +kernel
theorem fr_8_1 : fm_rf 8 1 = 9 := by decide +kernel
theorem q_90 : Cond.fieldLink RX11 77 "WrapGifts$Person" "kind" "I" ∈ fm_tb := fm_in 90 (by decide +kernel) (by decide +kernel)
theorem q_93 : Cond.fieldLink RX11 82 "WrapGifts$Person" "joy" "I" ∈ fm_tb := fm_in 93 (by decide +kernel) (by decide +kernel)
theorem q_258 : Cond.methodLink RX11 85 yX10_giftsWith ∈ fm_tb := fm_in 258 (by decide +kernel) (by decide +kernel)
theorem q_259 : Cond.instanceMethod yX10_giftsWith ∈ fm_tb := fm_in 259 (by decide +kernel) (by decide +kernel)
theorem q_260 : Cond.selects RX10 yX10_giftsWith yX10_giftsWith ∈ fm_tb := fm_in 260 (by decide +kernel) (by decide +kernel)
theorem q_261 : Cond.code yX10_giftsWith cX10_giftsWith 4 (some .int) ∈ fm_tb := fm_in 261 (by decide +kernel) (by decide +kernel)
theorem mV_X10_giftsWith : fm_mV RX10 yX10_giftsWith cX10_giftsWith 4 (some .int) 1 := ⟨q_259, q_260, q_8, q_261, by decide +kernel⟩
theorem q_262 : Cond.methodLink RX11 88 yX10_unopened ∈ fm_tb := fm_in 262 (by decide +kernel) (by decide +kernel)
theorem q_263 : Cond.instanceMethod yX10_unopened ∈ fm_tb := fm_in 263 (by decide +kernel) (by decide +kernel)
theorem q_264 : Cond.selects RX10 yX10_unopened yX10_unopened ∈ fm_tb := fm_in 264 (by decide +kernel) (by decide +kernel)
theorem q_265 : Cond.code yX10_unopened cX10_unopened 1 (some .int) ∈ fm_tb := fm_in 265 (by decide +kernel) (by decide +kernel)
theorem mV_X10_unopened : fm_mV RX10 yX10_unopened cX10_unopened 1 (some .int) 0 := ⟨q_263, q_264, q_8, q_265, by decide +kernel⟩
theorem q_144 : Cond.fieldLink RX11 146 "WrapGifts$Town" "presents" "I" ∈ fm_tb := fm_in 144 (by decide +kernel) (by decide +kernel)
theorem q_274 : Cond.methodLink RX11 96 yX11_isPresent ∈ fm_tb := fm_in 274 (by decide +kernel) (by decide +kernel)
theorem q_276 : Cond.instanceMethod yX11_isPresent ∈ fm_tb := fm_in 276 (by decide +kernel) (by decide +kernel)
theorem qs_2 : Cond.selects RX11 yX11_isPresent yX11_isPresent ∈ fm_tb := fm_inS 2 (by decide +kernel) (by decide +kernel)
theorem q_277 : Cond.code yX11_isPresent cX11_isPresent 2 (some .boolean) ∈ fm_tb := fm_in 277 (by decide +kernel) (by decide +kernel)
theorem mV_X11_isPresent : fm_mV RX11 yX11_isPresent cX11_isPresent 2 (some .boolean) 1 := ⟨q_276, qs_2, q_1, q_277, by decide +kernel⟩
theorem q_278 : Cond.methodLink RX11 99 yX10_mannerOf ∈ fm_tb := fm_in 278 (by decide +kernel) (by decide +kernel)
theorem q_135 : Cond.fieldLink RX11 103 "WrapGifts$Town" "gifts" "[LWrapGifts$Present;" ∈ fm_tb := fm_in 135 (by decide +kernel) (by decide +kernel)
theorem fc_16 : fm_ct 16 = 18 := by decide +kernel
theorem fl_16 : fm_ln 16 = 8 := by decide +kernel
theorem fr_8_2 : fm_rf 8 2 = 16 := by decide +kernel
theorem q_283 : Cond.methodLink RX11 113 yX10_takesOff ∈ fm_tb := fm_in 283 (by decide +kernel) (by decide +kernel)
theorem q_322 : Cond.methodLink RX11 117 yX7_outermost ∈ fm_tb := fm_in 322 (by decide +kernel) (by decide +kernel)
theorem q_323 : Cond.methodLink RX11 120 yX4_enjoys ∈ fm_tb := fm_in 323 (by decide +kernel) (by decide +kernel)
theorem q_111 : Cond.fieldLink RX11 125 "WrapGifts$Present" "thing" "I" ∈ fm_tb := fm_in 111 (by decide +kernel) (by decide +kernel)
theorem q_347 : Cond.methodLink RX11 128 yX4_isStruck ∈ fm_tb := fm_in 347 (by decide +kernel) (by decide +kernel)
theorem q_108 : Cond.fieldLink RX11 107 "WrapGifts$Present" "layers" "I" ∈ fm_tb := fm_in 108 (by decide +kernel) (by decide +kernel)
theorem q_138 : Cond.fieldLink RX11 131 "WrapGifts$Town" "day" "I" ∈ fm_tb := fm_in 138 (by decide +kernel) (by decide +kernel)
theorem q_368 : Cond.methodLink RX11 134 yX4_passesOn ∈ fm_tb := fm_in 368 (by decide +kernel) (by decide +kernel)
theorem q_282 : Cond.constant RX11 112 (-1000000004 : Int32) ∈ fm_tb := fm_in 282 (by decide +kernel) (by decide +kernel)
theorem q_40 : Cond.classLink RX11 279 "WrapGifts$Aunt" ∈ fm_tb := fm_in 40 (by decide +kernel) (by decide +kernel)
theorem ix_Aunt {i : Nat} (hm : fm_man i) : ∀ (ci : Nat) (C : String) (T : u_T) (N : Nat), fm_ct i = ci → vwCl[ci]? = some (C, T, N) → (i ∈ ([3, 7] : List Nat) → C = "WrapGifts$Aunt" ∨ (C, "WrapGifts$Aunt") ∈ fm_yc) ∧ (¬ i ∈ ([3, 7] : List Nat) → (C, "WrapGifts$Aunt") ∈ fm_nc) := by
  obtain ⟨h1, h2⟩ := hm
  have h3 : i = 2 ∨ i = 3 ∨ i = 4 ∨ i = 5 ∨ i = 6 ∨ i = 7 := by omega
  intro ci C T N hc hcl
  rcases h3 with rfl | rfl | rfl | rfl | rfl | rfl
  · rw [fc_2] at hc; subst hc; cases hcl
    exact ⟨fun h => absurd h (by decide), fun _ => by decide +kernel⟩
  · rw [fc_3] at hc; subst hc; cases hcl
    exact ⟨fun _ => Or.inl rfl, fun h => absurd (by decide) h⟩
  · rw [fc_4] at hc; subst hc; cases hcl
    exact ⟨fun h => absurd h (by decide), fun _ => by decide +kernel⟩
  · rw [fc_5] at hc; subst hc; cases hcl
    exact ⟨fun h => absurd h (by decide), fun _ => by decide +kernel⟩
  · rw [fc_6] at hc; subst hc; cases hcl
    exact ⟨fun h => absurd h (by decide), fun _ => by decide +kernel⟩
  · rw [fc_7] at hc; subst hc; cases hcl
    exact ⟨fun _ => Or.inr (by decide +kernel), fun h => absurd (by decide) h⟩
theorem q_47 : Cond.classLink RX11 281 "WrapGifts$Child" ∈ fm_tb := fm_in 47 (by decide +kernel) (by decide +kernel)
theorem ix_Child {i : Nat} (hm : fm_man i) : ∀ (ci : Nat) (C : String) (T : u_T) (N : Nat), fm_ct i = ci → vwCl[ci]? = some (C, T, N) → (i ∈ ([4, 6] : List Nat) → C = "WrapGifts$Child" ∨ (C, "WrapGifts$Child") ∈ fm_yc) ∧ (¬ i ∈ ([4, 6] : List Nat) → (C, "WrapGifts$Child") ∈ fm_nc) := by
  obtain ⟨h1, h2⟩ := hm
  have h3 : i = 2 ∨ i = 3 ∨ i = 4 ∨ i = 5 ∨ i = 6 ∨ i = 7 := by omega
  intro ci C T N hc hcl
  rcases h3 with rfl | rfl | rfl | rfl | rfl | rfl
  · rw [fc_2] at hc; subst hc; cases hcl
    exact ⟨fun h => absurd h (by decide), fun _ => by decide +kernel⟩
  · rw [fc_3] at hc; subst hc; cases hcl
    exact ⟨fun h => absurd h (by decide), fun _ => by decide +kernel⟩
  · rw [fc_4] at hc; subst hc; cases hcl
    exact ⟨fun _ => Or.inl rfl, fun h => absurd (by decide) h⟩
  · rw [fc_5] at hc; subst hc; cases hcl
    exact ⟨fun h => absurd h (by decide), fun _ => by decide +kernel⟩
  · rw [fc_6] at hc; subst hc; cases hcl
    exact ⟨fun _ => Or.inr (by decide +kernel), fun h => absurd (by decide) h⟩
  · rw [fc_7] at hc; subst hc; cases hcl
    exact ⟨fun h => absurd h (by decide), fun _ => by decide +kernel⟩
theorem q_54 : Cond.classLink RX11 283 "WrapGifts$Poor" ∈ fm_tb := fm_in 54 (by decide +kernel) (by decide +kernel)
theorem ix_Poor {i : Nat} (hm : fm_man i) : ∀ (ci : Nat) (C : String) (T : u_T) (N : Nat), fm_ct i = ci → vwCl[ci]? = some (C, T, N) → (i ∈ ([5] : List Nat) → C = "WrapGifts$Poor" ∨ (C, "WrapGifts$Poor") ∈ fm_yc) ∧ (¬ i ∈ ([5] : List Nat) → (C, "WrapGifts$Poor") ∈ fm_nc) := by
  obtain ⟨h1, h2⟩ := hm
  have h3 : i = 2 ∨ i = 3 ∨ i = 4 ∨ i = 5 ∨ i = 6 ∨ i = 7 := by omega
  intro ci C T N hc hcl
  rcases h3 with rfl | rfl | rfl | rfl | rfl | rfl
  · rw [fc_2] at hc; subst hc; cases hcl
    exact ⟨fun h => absurd h (by decide), fun _ => by decide +kernel⟩
  · rw [fc_3] at hc; subst hc; cases hcl
    exact ⟨fun h => absurd h (by decide), fun _ => by decide +kernel⟩
  · rw [fc_4] at hc; subst hc; cases hcl
    exact ⟨fun h => absurd h (by decide), fun _ => by decide +kernel⟩
  · rw [fc_5] at hc; subst hc; cases hcl
    exact ⟨fun _ => Or.inl rfl, fun h => absurd (by decide) h⟩
  · rw [fc_6] at hc; subst hc; cases hcl
    exact ⟨fun h => absurd h (by decide), fun _ => by decide +kernel⟩
  · rw [fc_7] at hc; subst hc; cases hcl
    exact ⟨fun h => absurd h (by decide), fun _ => by decide +kernel⟩
theorem q_61 : Cond.classLink RX11 285 "WrapGifts$Girl" ∈ fm_tb := fm_in 61 (by decide +kernel) (by decide +kernel)
theorem ix_Girl {i : Nat} (hm : fm_man i) : ∀ (ci : Nat) (C : String) (T : u_T) (N : Nat), fm_ct i = ci → vwCl[ci]? = some (C, T, N) → (i ∈ ([6] : List Nat) → C = "WrapGifts$Girl" ∨ (C, "WrapGifts$Girl") ∈ fm_yc) ∧ (¬ i ∈ ([6] : List Nat) → (C, "WrapGifts$Girl") ∈ fm_nc) := by
  obtain ⟨h1, h2⟩ := hm
  have h3 : i = 2 ∨ i = 3 ∨ i = 4 ∨ i = 5 ∨ i = 6 ∨ i = 7 := by omega
  intro ci C T N hc hcl
  rcases h3 with rfl | rfl | rfl | rfl | rfl | rfl
  · rw [fc_2] at hc; subst hc; cases hcl
    exact ⟨fun h => absurd h (by decide), fun _ => by decide +kernel⟩
  · rw [fc_3] at hc; subst hc; cases hcl
    exact ⟨fun h => absurd h (by decide), fun _ => by decide +kernel⟩
  · rw [fc_4] at hc; subst hc; cases hcl
    exact ⟨fun h => absurd h (by decide), fun _ => by decide +kernel⟩
  · rw [fc_5] at hc; subst hc; cases hcl
    exact ⟨fun h => absurd h (by decide), fun _ => by decide +kernel⟩
  · rw [fc_6] at hc; subst hc; cases hcl
    exact ⟨fun _ => Or.inl rfl, fun h => absurd (by decide) h⟩
  · rw [fc_7] at hc; subst hc; cases hcl
    exact ⟨fun h => absurd h (by decide), fun _ => by decide +kernel⟩
theorem q_68 : Cond.classLink RX11 287 "WrapGifts$Clerk" ∈ fm_tb := fm_in 68 (by decide +kernel) (by decide +kernel)
theorem ix_Clerk {i : Nat} (hm : fm_man i) : ∀ (ci : Nat) (C : String) (T : u_T) (N : Nat), fm_ct i = ci → vwCl[ci]? = some (C, T, N) → (i ∈ ([7] : List Nat) → C = "WrapGifts$Clerk" ∨ (C, "WrapGifts$Clerk") ∈ fm_yc) ∧ (¬ i ∈ ([7] : List Nat) → (C, "WrapGifts$Clerk") ∈ fm_nc) := by
  obtain ⟨h1, h2⟩ := hm
  have h3 : i = 2 ∨ i = 3 ∨ i = 4 ∨ i = 5 ∨ i = 6 ∨ i = 7 := by omega
  intro ci C T N hc hcl
  rcases h3 with rfl | rfl | rfl | rfl | rfl | rfl
  · rw [fc_2] at hc; subst hc; cases hcl
    exact ⟨fun h => absurd h (by decide), fun _ => by decide +kernel⟩
  · rw [fc_3] at hc; subst hc; cases hcl
    exact ⟨fun h => absurd h (by decide), fun _ => by decide +kernel⟩
  · rw [fc_4] at hc; subst hc; cases hcl
    exact ⟨fun h => absurd h (by decide), fun _ => by decide +kernel⟩
  · rw [fc_5] at hc; subst hc; cases hcl
    exact ⟨fun h => absurd h (by decide), fun _ => by decide +kernel⟩
  · rw [fc_6] at hc; subst hc; cases hcl
    exact ⟨fun h => absurd h (by decide), fun _ => by decide +kernel⟩
  · rw [fc_7] at hc; subst hc; cases hcl
    exact ⟨fun _ => Or.inl rfl, fun h => absurd (by decide) h⟩
theorem q_399 : Cond.methodLink RX11 138 yX11_isOf ∈ fm_tb := fm_in 399 (by decide +kernel) (by decide +kernel)
theorem q_400 : Cond.static yX11_isOf ∈ fm_tb := fm_in 400 (by decide +kernel) (by decide +kernel)
theorem q_401 : Cond.code yX11_isOf cX11_isOf 2 (some .boolean) ∈ fm_tb := fm_in 401 (by decide +kernel) (by decide +kernel)
theorem mS_X11_isOf : fm_mS yX11_isOf cX11_isOf 2 (some .boolean) 2 := ⟨q_400, q_1, q_401, by decide +kernel⟩
theorem q_402 : Cond.constant RX11 142 (-1000000003 : Int32) ∈ fm_tb := fm_in 402 (by decide +kernel) (by decide +kernel)
theorem q_407 : Cond.methodLink RX11 143 yX11_isThing ∈ fm_tb := fm_in 407 (by decide +kernel) (by decide +kernel)
theorem q_408 : Cond.static yX11_isThing ∈ fm_tb := fm_in 408 (by decide +kernel) (by decide +kernel)
theorem q_409 : Cond.code yX11_isThing cX11_isThing 1 (some .boolean) ∈ fm_tb := fm_in 409 (by decide +kernel) (by decide +kernel)
theorem mS_X11_isThing : fm_mS yX11_isThing cX11_isThing 1 (some .boolean) 1 := ⟨q_408, q_1, q_409, by decide +kernel⟩
theorem q_410 : Cond.methodLink RX11 149 yX10_addPresent ∈ fm_tb := fm_in 410 (by decide +kernel) (by decide +kernel)
theorem q_422 : Cond.methodLink RX11 152 yX7_tells ∈ fm_tb := fm_in 422 (by decide +kernel) (by decide +kernel)
theorem q_423 : Cond.instanceMethod yX7_tells ∈ fm_tb := fm_in 423 (by decide +kernel) (by decide +kernel)
theorem q_424 : Cond.selects RX7 yX7_tells yX7_tells ∈ fm_tb := fm_in 424 (by decide +kernel) (by decide +kernel)
theorem q_425 : Cond.code yX7_tells cX7_tells 2 (some .int) ∈ fm_tb := fm_in 425 (by decide +kernel) (by decide +kernel)
theorem mV_X7_tells : fm_mV RX7 yX7_tells cX7_tells 2 (some .int) 1 := ⟨q_423, q_424, q_10, q_425, by decide +kernel⟩
theorem q_430 : Cond.methodLink RX11 155 yX7_paperAt ∈ fm_tb := fm_in 430 (by decide +kernel) (by decide +kernel)
theorem q_435 : Cond.methodLink RX11 158 yX11_isPaper ∈ fm_tb := fm_in 435 (by decide +kernel) (by decide +kernel)
theorem q_436 : Cond.static yX11_isPaper ∈ fm_tb := fm_in 436 (by decide +kernel) (by decide +kernel)
theorem q_437 : Cond.code yX11_isPaper cX11_isPaper 1 (some .boolean) ∈ fm_tb := fm_in 437 (by decide +kernel) (by decide +kernel)
theorem mS_X11_isPaper : fm_mS yX11_isPaper cX11_isPaper 1 (some .boolean) 1 := ⟨q_436, q_1, q_437, by decide +kernel⟩
theorem q_118 : Cond.fieldLink RX11 161 "WrapGifts$Present" "isFound" "Z" ∈ fm_tb := fm_in 118 (by decide +kernel) (by decide +kernel)
theorem q_439 : Cond.methodLink RX11 165 yX7_layAbout ∈ fm_tb := fm_in 439 (by decide +kernel) (by decide +kernel)
theorem q_438 : Cond.constant RX11 164 (-1000000005 : Int32) ∈ fm_tb := fm_in 438 (by decide +kernel) (by decide +kernel)
theorem q_447 : Cond.methodLink RX11 169 yX7_takeOff ∈ fm_tb := fm_in 447 (by decide +kernel) (by decide +kernel)
theorem q_115 : Cond.fieldLink RX11 172 "WrapGifts$Present" "with" "I" ∈ fm_tb := fm_in 115 (by decide +kernel) (by decide +kernel)
theorem q_460 : Cond.methodLink RX11 175 yX10_goOn ∈ fm_tb := fm_in 460 (by decide +kernel) (by decide +kernel)
theorem q_461 : Cond.instanceMethod yX10_goOn ∈ fm_tb := fm_in 461 (by decide +kernel) (by decide +kernel)
theorem q_462 : Cond.selects RX10 yX10_goOn yX10_goOn ∈ fm_tb := fm_in 462 (by decide +kernel) (by decide +kernel)
theorem q_463 : Cond.code yX10_goOn cX10_goOn 3 none ∈ fm_tb := fm_in 463 (by decide +kernel) (by decide +kernel)
theorem mV_X10_goOn : fm_mV RX10 yX10_goOn cX10_goOn 3 none 1 := ⟨q_461, q_462, q_8, q_463, by decide +kernel⟩
theorem q_491 : Cond.methodLink RX11 178 yX10_joyOfAll ∈ fm_tb := fm_in 491 (by decide +kernel) (by decide +kernel)
theorem q_492 : Cond.instanceMethod yX10_joyOfAll ∈ fm_tb := fm_in 492 (by decide +kernel) (by decide +kernel)
theorem q_493 : Cond.selects RX10 yX10_joyOfAll yX10_joyOfAll ∈ fm_tb := fm_in 493 (by decide +kernel) (by decide +kernel)
theorem q_494 : Cond.code yX10_joyOfAll cX10_joyOfAll 3 (some .int) ∈ fm_tb := fm_in 494 (by decide +kernel) (by decide +kernel)
theorem mV_X10_joyOfAll : fm_mV RX10 yX10_joyOfAll cX10_joyOfAll 3 (some .int) 0 := ⟨q_492, q_493, q_8, q_494, by decide +kernel⟩
theorem q_495 : Cond.methodLink RX11 181 yX10_opened ∈ fm_tb := fm_in 495 (by decide +kernel) (by decide +kernel)
theorem q_496 : Cond.methodLink RX11 184 yX10_layersOfAll ∈ fm_tb := fm_in 496 (by decide +kernel) (by decide +kernel)
theorem q_497 : Cond.instanceMethod yX10_layersOfAll ∈ fm_tb := fm_in 497 (by decide +kernel) (by decide +kernel)
theorem q_498 : Cond.selects RX10 yX10_layersOfAll yX10_layersOfAll ∈ fm_tb := fm_in 498 (by decide +kernel) (by decide +kernel)
theorem q_499 : Cond.code yX10_layersOfAll cX10_layersOfAll 3 (some .int) ∈ fm_tb := fm_in 499 (by decide +kernel) (by decide +kernel)
theorem mV_X10_layersOfAll : fm_mV RX10 yX10_layersOfAll cX10_layersOfAll 3 (some .int) 0 := ⟨q_497, q_498, q_8, q_499, by decide +kernel⟩
theorem q_500 : Cond.methodLink RX11 187 yX10_thingsFound ∈ fm_tb := fm_in 500 (by decide +kernel) (by decide +kernel)
theorem q_501 : Cond.instanceMethod yX10_thingsFound ∈ fm_tb := fm_in 501 (by decide +kernel) (by decide +kernel)
theorem q_502 : Cond.selects RX10 yX10_thingsFound yX10_thingsFound ∈ fm_tb := fm_in 502 (by decide +kernel) (by decide +kernel)
theorem q_503 : Cond.code yX10_thingsFound cX10_thingsFound 3 (some .int) ∈ fm_tb := fm_in 503 (by decide +kernel) (by decide +kernel)
theorem mV_X10_thingsFound : fm_mV RX10 yX10_thingsFound cX10_thingsFound 3 (some .int) 0 := ⟨q_501, q_502, q_8, q_503, by decide +kernel⟩
theorem q_207 : Cond.fieldLink RX11 25 "WrapGifts" "trial" "LWrapGifts$Town;" ∈ fm_tb := fm_in 207 (by decide +kernel) (by decide +kernel)
theorem fd_X11_2 : fm_fd RX11 TX11 8 11 2 2 := ⟨rfl, in_X11, by decide, by decide, by decide⟩
theorem fc_58 : fm_ct 58 = 10 := by decide +kernel
theorem fr_0_2 : fm_rf 0 2 = 58 := by decide +kernel
theorem q_512 : Cond.methodLink RX11 221 yX10_become ∈ fm_tb := fm_in 512 (by decide +kernel) (by decide +kernel)
theorem q_513 : Cond.instanceMethod yX10_become ∈ fm_tb := fm_in 513 (by decide +kernel) (by decide +kernel)
theorem q_514 : Cond.selects RX10 yX10_become yX10_become ∈ fm_tb := fm_in 514 (by decide +kernel) (by decide +kernel)
theorem q_515 : Cond.code yX10_become cX10_become 3 none ∈ fm_tb := fm_in 515 (by decide +kernel) (by decide +kernel)
theorem mV_X10_become : fm_mV RX10 yX10_become cX10_become 3 none 1 := ⟨q_513, q_514, q_8, q_515, by decide +kernel⟩
theorem q_508 : Cond.methodLink RX11 190 yX11_startTrial ∈ fm_tb := fm_in 508 (by decide +kernel) (by decide +kernel)
theorem q_510 : Cond.instanceMethod yX11_startTrial ∈ fm_tb := fm_in 510 (by decide +kernel) (by decide +kernel)
theorem qs_5 : Cond.selects RX11 yX11_startTrial yX11_startTrial ∈ fm_tb := fm_inS 5 (by decide +kernel) (by decide +kernel)
theorem q_511 : Cond.code yX11_startTrial cX11_startTrial 1 none ∈ fm_tb := fm_in 511 (by decide +kernel) (by decide +kernel)
theorem mV_X11_startTrial : fm_mV RX11 yX11_startTrial cX11_startTrial 1 none 0 := ⟨q_510, qs_5, q_1, q_511, by decide +kernel⟩
theorem fc_66 : fm_ct 66 = 18 := by decide +kernel
theorem fl_66 : fm_ln 66 = 8 := by decide +kernel
theorem fr_58_2 : fm_rf 58 2 = 66 := by decide +kernel
theorem fc_59 : fm_ct 59 = 17 := by decide +kernel
theorem fl_59 : fm_ln 59 = 6 := by decide +kernel
theorem fr_58_1 : fm_rf 58 1 = 59 := by decide +kernel
theorem q_532 : Cond.methodLink RX11 193 yX10_oneDay ∈ fm_tb := fm_in 532 (by decide +kernel) (by decide +kernel)
theorem q_212 : Cond.fieldLink RX11 50 "WrapGifts" "row" "[I" ∈ fm_tb := fm_in 212 (by decide +kernel) (by decide +kernel)
theorem fd_X11_7 : fm_fd RX11 TX11 8 11 7 2 := ⟨rfl, in_X11, by decide, by decide, by decide⟩
theorem fr_0_7 : fm_rf 0 7 = 95 := by decide +kernel
theorem q_562 : Cond.methodLink RX11 295 yX11_swapInRow ∈ fm_tb := fm_in 562 (by decide +kernel) (by decide +kernel)
theorem q_564 : Cond.instanceMethod yX11_swapInRow ∈ fm_tb := fm_in 564 (by decide +kernel) (by decide +kernel)
theorem qs_7 : Cond.selects RX11 yX11_swapInRow yX11_swapInRow ∈ fm_tb := fm_inS 7 (by decide +kernel) (by decide +kernel)
theorem q_565 : Cond.code yX11_swapInRow cX11_swapInRow 4 none ∈ fm_tb := fm_in 565 (by decide +kernel) (by decide +kernel)
theorem mV_X11_swapInRow : fm_mV RX11 yX11_swapInRow cX11_swapInRow 4 none 2 := ⟨q_564, qs_7, q_1, q_565, by decide +kernel⟩
theorem q_558 : Cond.methodLink RX11 197 yX11_startRow ∈ fm_tb := fm_in 558 (by decide +kernel) (by decide +kernel)
theorem q_560 : Cond.instanceMethod yX11_startRow ∈ fm_tb := fm_in 560 (by decide +kernel) (by decide +kernel)
theorem qs_6 : Cond.selects RX11 yX11_startRow yX11_startRow ∈ fm_tb := fm_inS 6 (by decide +kernel) (by decide +kernel)
theorem q_561 : Cond.code yX11_startRow cX11_startRow 5 none ∈ fm_tb := fm_in 561 (by decide +kernel) (by decide +kernel)
theorem mV_X11_startRow : fm_mV RX11 yX11_startRow cX11_startRow 5 none 2 := ⟨q_560, qs_6, q_1, q_561, by decide +kernel⟩
theorem q_566 : Cond.methodLink RX11 201 yX7_layAnew ∈ fm_tb := fm_in 566 (by decide +kernel) (by decide +kernel)
theorem q_567 : Cond.instanceMethod yX7_layAnew ∈ fm_tb := fm_in 567 (by decide +kernel) (by decide +kernel)
theorem q_568 : Cond.selects RX7 yX7_layAnew yX7_layAnew ∈ fm_tb := fm_in 568 (by decide +kernel) (by decide +kernel)
theorem q_569 : Cond.code yX7_layAnew cX7_layAnew 4 none ∈ fm_tb := fm_in 569 (by decide +kernel) (by decide +kernel)
theorem mV_X7_layAnew : fm_mV RX7 yX7_layAnew cX7_layAnew 4 none 2 := ⟨q_567, q_568, q_10, q_569, by decide +kernel⟩
theorem q_578 : Cond.methodLink RX11 208 yX11_nextRow ∈ fm_tb := fm_in 578 (by decide +kernel) (by decide +kernel)
theorem q_580 : Cond.instanceMethod yX11_nextRow ∈ fm_tb := fm_in 580 (by decide +kernel) (by decide +kernel)
theorem qs_9 : Cond.selects RX11 yX11_nextRow yX11_nextRow ∈ fm_tb := fm_inS 9 (by decide +kernel) (by decide +kernel)
theorem q_581 : Cond.code yX11_nextRow cX11_nextRow 6 (some .boolean) ∈ fm_tb := fm_in 581 (by decide +kernel) (by decide +kernel)
theorem mV_X11_nextRow : fm_mV RX11 yX11_nextRow cX11_nextRow 6 (some .boolean) 1 := ⟨q_580, qs_9, q_1, q_581, by decide +kernel⟩
theorem q_574 : Cond.methodLink RX11 205 yX11_rowAsNumber ∈ fm_tb := fm_in 574 (by decide +kernel) (by decide +kernel)
theorem q_576 : Cond.instanceMethod yX11_rowAsNumber ∈ fm_tb := fm_in 576 (by decide +kernel) (by decide +kernel)
theorem qs_8 : Cond.selects RX11 yX11_rowAsNumber yX11_rowAsNumber ∈ fm_tb := fm_inS 8 (by decide +kernel) (by decide +kernel)
theorem q_577 : Cond.code yX11_rowAsNumber cX11_rowAsNumber 4 (some .int) ∈ fm_tb := fm_in 577 (by decide +kernel) (by decide +kernel)
theorem mV_X11_rowAsNumber : fm_mV RX11 yX11_rowAsNumber cX11_rowAsNumber 4 (some .int) 1 := ⟨q_576, qs_8, q_1, q_577, by decide +kernel⟩
theorem q_557 : Cond.constant RX11 196 (-1000000007 : Int32) ∈ fm_tb := fm_in 557 (by decide +kernel) (by decide +kernel)
theorem q_210 : Cond.fieldLink RX11 42 "WrapGifts" "tape" "LWrapGifts$Tape;" ∈ fm_tb := fm_in 210 (by decide +kernel) (by decide +kernel)
theorem fd_X11_5 : fm_fd RX11 TX11 8 11 5 2 := ⟨rfl, in_X11, by decide, by decide, by decide⟩
theorem fr_0_5 : fm_rf 0 5 = 92 := by decide +kernel
theorem q_187 : Cond.fieldLink RX11 211 "WrapGifts$Tape" "length" "I" ∈ fm_tb := fm_in 187 (by decide +kernel) (by decide +kernel)
theorem q_594 : Cond.methodLink RX11 214 yX9_add ∈ fm_tb := fm_in 594 (by decide +kernel) (by decide +kernel)
theorem q_595 : Cond.instanceMethod yX9_add ∈ fm_tb := fm_in 595 (by decide +kernel) (by decide +kernel)
theorem q_596 : Cond.selects RX9 yX9_add yX9_add ∈ fm_tb := fm_in 596 (by decide +kernel) (by decide +kernel)
theorem q_597 : Cond.code yX9_add cX9_add 2 none ∈ fm_tb := fm_in 597 (by decide +kernel) (by decide +kernel)
theorem mV_X9_add : fm_mV RX9 yX9_add cX9_add 2 none 1 := ⟨q_595, q_596, q_12, q_597, by decide +kernel⟩
theorem q_606 : Cond.methodLink RX11 217 yX9_readTown ∈ fm_tb := fm_in 606 (by decide +kernel) (by decide +kernel)
theorem q_607 : Cond.instanceMethod yX9_readTown ∈ fm_tb := fm_in 607 (by decide +kernel) (by decide +kernel)
theorem q_608 : Cond.selects RX9 yX9_readTown yX9_readTown ∈ fm_tb := fm_in 608 (by decide +kernel) (by decide +kernel)
theorem q_609 : Cond.code yX9_readTown cX9_readTown 3 (some .int) ∈ fm_tb := fm_in 609 (by decide +kernel) (by decide +kernel)
theorem mV_X9_readTown : fm_mV RX9 yX9_readTown cX9_readTown 3 (some .int) 1 := ⟨q_607, q_608, q_12, q_609, by decide +kernel⟩
theorem q_716 : Cond.methodLink RX11 225 yX11_isSheet ∈ fm_tb := fm_in 716 (by decide +kernel) (by decide +kernel)
theorem q_717 : Cond.static yX11_isSheet ∈ fm_tb := fm_in 717 (by decide +kernel) (by decide +kernel)
theorem q_718 : Cond.code yX11_isSheet cX11_isSheet 1 (some .boolean) ∈ fm_tb := fm_in 718 (by decide +kernel) (by decide +kernel)
theorem mS_X11_isSheet : fm_mS yX11_isSheet cX11_isSheet 1 (some .boolean) 1 := ⟨q_717, q_1, q_718, by decide +kernel⟩
theorem q_209 : Cond.fieldLink RX11 34 "WrapGifts" "sheets" "[LWrapGifts$Sheet;" ∈ fm_tb := fm_in 209 (by decide +kernel) (by decide +kernel)
theorem fd_X11_4 : fm_fd RX11 TX11 8 11 4 2 := ⟨rfl, in_X11, by decide, by decide, by decide⟩
theorem fc_83 : fm_ct 83 = 19 := by decide +kernel
theorem fl_83 : fm_ln 83 = 4 := by decide +kernel
theorem fr_0_4 : fm_rf 0 4 = 83 := by decide +kernel
theorem q_719 : Cond.methodLink RX11 228 yX8_begin ∈ fm_tb := fm_in 719 (by decide +kernel) (by decide +kernel)
theorem q_720 : Cond.instanceMethod yX8_begin ∈ fm_tb := fm_in 720 (by decide +kernel) (by decide +kernel)
theorem q_721 : Cond.selects RX8 yX8_begin yX8_begin ∈ fm_tb := fm_in 721 (by decide +kernel) (by decide +kernel)
theorem q_11 : Cond.initialized RX8 ∈ fm_tb := fm_in 11 (by decide +kernel) (by decide +kernel)
theorem q_722 : Cond.code yX8_begin cX8_begin 4 none ∈ fm_tb := fm_in 722 (by decide +kernel) (by decide +kernel)
theorem mV_X8_begin : fm_mV RX8 yX8_begin cX8_begin 4 none 2 := ⟨q_720, q_721, q_11, q_722, by decide +kernel⟩
theorem q_170 : Cond.fieldLink RX11 231 "WrapGifts$Sheet" "size" "I" ∈ fm_tb := fm_in 170 (by decide +kernel) (by decide +kernel)
theorem q_727 : Cond.methodLink RX11 234 yX8_isMissing ∈ fm_tb := fm_in 727 (by decide +kernel) (by decide +kernel)
theorem q_728 : Cond.instanceMethod yX8_isMissing ∈ fm_tb := fm_in 728 (by decide +kernel) (by decide +kernel)
theorem q_729 : Cond.selects RX8 yX8_isMissing yX8_isMissing ∈ fm_tb := fm_in 729 (by decide +kernel) (by decide +kernel)
theorem q_730 : Cond.code yX8_isMissing cX8_isMissing 1 (some .boolean) ∈ fm_tb := fm_in 730 (by decide +kernel) (by decide +kernel)
theorem mV_X8_isMissing : fm_mV RX8 yX8_isMissing cX8_isMissing 1 (some .boolean) 0 := ⟨q_728, q_729, q_11, q_730, by decide +kernel⟩
theorem q_166 : Cond.fieldLink RX11 239 "WrapGifts$Sheet" "numbers" "[J" ∈ fm_tb := fm_in 166 (by decide +kernel) (by decide +kernel)
theorem q_732 : Cond.methodLink RX11 243 yX8_put ∈ fm_tb := fm_in 732 (by decide +kernel) (by decide +kernel)
theorem q_733 : Cond.instanceMethod yX8_put ∈ fm_tb := fm_in 733 (by decide +kernel) (by decide +kernel)
theorem q_734 : Cond.selects RX8 yX8_put yX8_put ∈ fm_tb := fm_in 734 (by decide +kernel) (by decide +kernel)
theorem q_735 : Cond.code yX8_put cX8_put 4 none ∈ fm_tb := fm_in 735 (by decide +kernel) (by decide +kernel)
theorem mV_X8_put : fm_mV RX8 yX8_put cX8_put 4 none 2 := ⟨q_733, q_734, q_11, q_735, by decide +kernel⟩
theorem q_731 : Cond.constant RX11 238 (-1000000006 : Int32) ∈ fm_tb := fm_in 731 (by decide +kernel) (by decide +kernel)
theorem q_168 : Cond.fieldLink RX11 247 "WrapGifts$Sheet" "bits" "I" ∈ fm_tb := fm_in 168 (by decide +kernel) (by decide +kernel)
theorem q_740 : Cond.methodLink RX11 250 yX8_holds ∈ fm_tb := fm_in 740 (by decide +kernel) (by decide +kernel)
theorem q_741 : Cond.instanceMethod yX8_holds ∈ fm_tb := fm_in 741 (by decide +kernel) (by decide +kernel)
theorem q_742 : Cond.selects RX8 yX8_holds yX8_holds ∈ fm_tb := fm_in 742 (by decide +kernel) (by decide +kernel)
theorem q_743 : Cond.code yX8_holds cX8_holds 3 (some .boolean) ∈ fm_tb := fm_in 743 (by decide +kernel) (by decide +kernel)
theorem mV_X8_holds : fm_mV RX8 yX8_holds cX8_holds 3 (some .boolean) 2 := ⟨q_741, q_742, q_11, q_743, by decide +kernel⟩
theorem q_744 : Cond.methodLink RX11 254 arraycopyName ∈ fm_tb := fm_in 744 (by decide +kernel) (by decide +kernel)
theorem q_746 : Cond.native arraycopyName ∈ fm_tb := fm_in 746 (by decide +kernel) (by decide +kernel)
theorem q_745 : Cond.static arraycopyName ∈ fm_tb := fm_in 745 (by decide +kernel) (by decide +kernel)
theorem q_19 : Cond.initialized "java/lang/System" ∈ fm_tb := fm_in 19 (by decide +kernel) (by decide +kernel)
theorem q_751 : Cond.methodLink RX11 260 yJ9_min_7cf53 ∈ fm_tb := fm_in 751 (by decide +kernel) (by decide +kernel)
theorem q_752 : Cond.constantLong RX11 265 (4 : Int64) ∈ fm_tb := fm_in 752 (by decide +kernel) (by decide +kernel)
theorem q_753 : Cond.methodLink RX11 267 yX7_layInnermost ∈ fm_tb := fm_in 753 (by decide +kernel) (by decide +kernel)
theorem q_762 : Cond.methodLink RX11 270 yX11_trialGoesAs ∈ fm_tb := fm_in 762 (by decide +kernel) (by decide +kernel)
theorem q_764 : Cond.instanceMethod yX11_trialGoesAs ∈ fm_tb := fm_in 764 (by decide +kernel) (by decide +kernel)
theorem qs_17 : Cond.selects RX11 yX11_trialGoesAs yX11_trialGoesAs ∈ fm_tb := fm_inS 17 (by decide +kernel) (by decide +kernel)
theorem q_765 : Cond.code yX11_trialGoesAs cX11_trialGoesAs 4 (some .boolean) ∈ fm_tb := fm_in 765 (by decide +kernel) (by decide +kernel)
theorem mV_X11_trialGoesAs : fm_mV RX11 yX11_trialGoesAs cX11_trialGoesAs 4 (some .boolean) 2 := ⟨q_764, qs_17, q_1, q_765, by decide +kernel⟩
theorem q_206 : Cond.fieldLink RX11 22 "WrapGifts" "kept" "LWrapGifts$Town;" ∈ fm_tb := fm_in 206 (by decide +kernel) (by decide +kernel)
theorem fd_X11_1 : fm_fd RX11 TX11 8 11 1 2 := ⟨rfl, in_X11, by decide, by decide, by decide⟩
theorem fc_33 : fm_ct 33 = 10 := by decide +kernel
theorem fr_0_1 : fm_rf 0 1 = 33 := by decide +kernel
theorem q_208 : Cond.fieldLink RX11 28 "WrapGifts" "isKept" "Z" ∈ fm_tb := fm_in 208 (by decide +kernel) (by decide +kernel)
theorem fd_X11_3 : fm_fd RX11 TX11 8 11 3 0 := ⟨rfl, in_X11, by decide, by decide, by decide⟩
theorem fp_X11_3 : fm_fp RX11 TX11 8 11 3 0 tyX11 .boolean := ⟨fd_X11_3, tyX11_ok, nmX11, rfl, by decide +kernel⟩
theorem q_782 : Cond.methodLink RX11 274 yJ6_bitCount_0f7a4 ∈ fm_tb := fm_in 782 (by decide +kernel) (by decide +kernel)
theorem q_783 : Cond.static yJ6_bitCount_0f7a4 ∈ fm_tb := fm_in 783 (by decide +kernel) (by decide +kernel)
theorem q_20 : Cond.initialized RJ6 ∈ fm_tb := fm_in 20 (by decide +kernel) (by decide +kernel)
theorem q_784 : Cond.code yJ6_bitCount_0f7a4 cJ6_bitCount_0f7a4 1 (some .int) ∈ fm_tb := fm_in 784 (by decide +kernel) (by decide +kernel)
theorem mS_J6_bitCount_0f7a4 : fm_mS yJ6_bitCount_0f7a4 cJ6_bitCount_0f7a4 1 (some .int) 1 := ⟨q_783, q_20, q_784, by decide +kernel⟩
theorem fc_96 : fm_ct 96 = 12 := by decide +kernel
theorem q_802 : Cond.fieldLink RX12 19 "WrapGiftsModel" "found" "[I" ∈ fm_tb := fm_in 802 (by decide +kernel) (by decide +kernel)
theorem in_X12 : ∀ w ∈ u_ws RX12 TX12 20, w ∈ fm_tb := fm_inL [818, 820, 822, 824, 826, 828, 830, 832, 834, 836, 838, 840, 842, 844, 846, 848, 850, 852, 854, 856] (by decide +kernel) (by decide +kernel)
theorem fd_X12_4 : fm_fd RX12 TX12 20 12 4 2 := ⟨rfl, in_X12, by decide, by decide, by decide⟩
theorem fc_100 : fm_ct 100 = 14 := by decide +kernel
theorem fl_100 : fm_ln 100 = 7 := by decide +kernel
theorem fr_96_4 : fm_rf 96 4 = 100 := by decide +kernel
theorem q_871 : Cond.constant RX12 51 (-1000000001 : Int32) ∈ fm_tb := fm_in 871 (by decide +kernel) (by decide +kernel)
theorem q_798 : Cond.fieldLink RX12 9 "WrapGiftsModel" "s" "[I" ∈ fm_tb := fm_in 798 (by decide +kernel) (by decide +kernel)
theorem fd_X12_0 : fm_fd RX12 TX12 20 12 0 2 := ⟨rfl, in_X12, by decide, by decide, by decide⟩
theorem fc_97 : fm_ct 97 = 14 := by decide +kernel
theorem fl_97 : fm_ln 97 = 96 := by decide +kernel
theorem fr_96_0 : fm_rf 96 0 = 97 := by decide +kernel
theorem q_864 : Cond.methodLink RX12 52 yX12_in1 ∈ fm_tb := fm_in 864 (by decide +kernel) (by decide +kernel)
theorem q_865 : Cond.static yX12_in1 ∈ fm_tb := fm_in 865 (by decide +kernel) (by decide +kernel)
theorem q_13 : Cond.initialized RX12 ∈ fm_tb := fm_in 13 (by decide +kernel) (by decide +kernel)
theorem q_866 : Cond.code yX12_in1 cX12_in1 3 (some .boolean) ∈ fm_tb := fm_in 866 (by decide +kernel) (by decide +kernel)
theorem mS_X12_in1 : fm_mS yX12_in1 cX12_in1 3 (some .boolean) 3 := ⟨q_865, q_13, q_866, by decide +kernel⟩
theorem q_800 : Cond.fieldLink RX12 16 "WrapGiftsModel" "aside" "[I" ∈ fm_tb := fm_in 800 (by decide +kernel) (by decide +kernel)
theorem fd_X12_2 : fm_fd RX12 TX12 20 12 2 2 := ⟨rfl, in_X12, by decide, by decide, by decide⟩
theorem fc_99 : fm_ct 99 = 14 := by decide +kernel
theorem fl_99 : fm_ln 99 = 96 := by decide +kernel
theorem fr_96_2 : fm_rf 96 2 = 99 := by decide +kernel
theorem q_896 : Cond.methodLink RX12 56 yX12_of1 ∈ fm_tb := fm_in 896 (by decide +kernel) (by decide +kernel)
theorem q_898 : Cond.instanceMethod yX12_of1 ∈ fm_tb := fm_in 898 (by decide +kernel) (by decide +kernel)
theorem qs_24 : Cond.selects RX12 yX12_of1 yX12_of1 ∈ fm_tb := fm_inS 24 (by decide +kernel) (by decide +kernel)
theorem q_899 : Cond.code yX12_of1 cX12_of1 3 (some .int) ∈ fm_tb := fm_in 899 (by decide +kernel) (by decide +kernel)
theorem mV_X12_of1 : fm_mV RX12 yX12_of1 cX12_of1 3 (some .int) 2 := ⟨q_898, qs_24, q_13, q_899, by decide +kernel⟩
theorem q_947 : Cond.methodLink RX12 60 yX12_lays1 ∈ fm_tb := fm_in 947 (by decide +kernel) (by decide +kernel)
theorem q_949 : Cond.instanceMethod yX12_lays1 ∈ fm_tb := fm_in 949 (by decide +kernel) (by decide +kernel)
theorem qs_31 : Cond.selects RX12 yX12_lays1 yX12_lays1 ∈ fm_tb := fm_inS 31 (by decide +kernel) (by decide +kernel)
theorem q_950 : Cond.code yX12_lays1 cX12_lays1 4 none ∈ fm_tb := fm_in 950 (by decide +kernel) (by decide +kernel)
theorem mV_X12_lays1 : fm_mV RX12 yX12_lays1 cX12_lays1 4 none 3 := ⟨q_949, qs_31, q_13, q_950, by decide +kernel⟩
theorem q_888 : Cond.methodLink RX12 64 yX12_get ∈ fm_tb := fm_in 888 (by decide +kernel) (by decide +kernel)
theorem q_890 : Cond.instanceMethod yX12_get ∈ fm_tb := fm_in 890 (by decide +kernel) (by decide +kernel)
theorem qs_22 : Cond.selects RX12 yX12_get yX12_get ∈ fm_tb := fm_inS 22 (by decide +kernel) (by decide +kernel)
theorem q_891 : Cond.code yX12_get cX12_get 3 (some .int) ∈ fm_tb := fm_in 891 (by decide +kernel) (by decide +kernel)
theorem mV_X12_get : fm_mV RX12 yX12_get cX12_get 3 (some .int) 2 := ⟨q_890, qs_22, q_13, q_891, by decide +kernel⟩
theorem q_912 : Cond.methodLink RX12 67 yX12_less ∈ fm_tb := fm_in 912 (by decide +kernel) (by decide +kernel)
theorem q_913 : Cond.static yX12_less ∈ fm_tb := fm_in 913 (by decide +kernel) (by decide +kernel)
theorem q_914 : Cond.code yX12_less cX12_less 2 (some .int) ∈ fm_tb := fm_in 914 (by decide +kernel) (by decide +kernel)
theorem mS_X12_less : fm_mS yX12_less cX12_less 2 (some .int) 2 := ⟨q_913, q_13, q_914, by decide +kernel⟩
theorem q_803 : Cond.fieldLink RX12 70 "WrapGiftsModel" "passed" "I" ∈ fm_tb := fm_in 803 (by decide +kernel) (by decide +kernel)
theorem fd_X12_5 : fm_fd RX12 TX12 20 12 5 0 := ⟨rfl, in_X12, by decide, by decide, by decide⟩
theorem q_876 : Cond.methodLink RX12 74 yX12_puts ∈ fm_tb := fm_in 876 (by decide +kernel) (by decide +kernel)
theorem q_878 : Cond.instanceMethod yX12_puts ∈ fm_tb := fm_in 878 (by decide +kernel) (by decide +kernel)
theorem qs_20 : Cond.selects RX12 yX12_puts yX12_puts ∈ fm_tb := fm_inS 20 (by decide +kernel) (by decide +kernel)
theorem q_879 : Cond.code yX12_puts cX12_puts 4 none ∈ fm_tb := fm_in 879 (by decide +kernel) (by decide +kernel)
theorem mV_X12_puts : fm_mV RX12 yX12_puts cX12_puts 4 none 3 := ⟨q_878, qs_20, q_13, q_879, by decide +kernel⟩
theorem q_908 : Cond.methodLink RX12 77 yX12_opensOf ∈ fm_tb := fm_in 908 (by decide +kernel) (by decide +kernel)
theorem q_910 : Cond.instanceMethod yX12_opensOf ∈ fm_tb := fm_in 910 (by decide +kernel) (by decide +kernel)
theorem qs_26 : Cond.selects RX12 yX12_opensOf yX12_opensOf ∈ fm_tb := fm_inS 26 (by decide +kernel) (by decide +kernel)
theorem q_911 : Cond.code yX12_opensOf cX12_opensOf 4 (some .int) ∈ fm_tb := fm_in 911 (by decide +kernel) (by decide +kernel)
theorem mV_X12_opensOf : fm_mV RX12 yX12_opensOf cX12_opensOf 4 (some .int) 2 := ⟨q_910, qs_26, q_13, q_911, by decide +kernel⟩
theorem q_978 : Cond.methodLink RX12 80 yX12_takesLayer ∈ fm_tb := fm_in 978 (by decide +kernel) (by decide +kernel)
theorem q_980 : Cond.instanceMethod yX12_takesLayer ∈ fm_tb := fm_in 980 (by decide +kernel) (by decide +kernel)
theorem qs_34 : Cond.selects RX12 yX12_takesLayer yX12_takesLayer ∈ fm_tb := fm_inS 34 (by decide +kernel) (by decide +kernel)
theorem q_981 : Cond.code yX12_takesLayer cX12_takesLayer 4 (some .int) ∈ fm_tb := fm_in 981 (by decide +kernel) (by decide +kernel)
theorem mV_X12_takesLayer : fm_mV RX12 yX12_takesLayer cX12_takesLayer 4 (some .int) 1 := ⟨q_980, qs_34, q_13, q_981, by decide +kernel⟩
theorem q_915 : Cond.methodLink RX12 84 yX12_enjoysOf ∈ fm_tb := fm_in 915 (by decide +kernel) (by decide +kernel)
theorem q_917 : Cond.instanceMethod yX12_enjoysOf ∈ fm_tb := fm_in 917 (by decide +kernel) (by decide +kernel)
theorem qs_27 : Cond.selects RX12 yX12_enjoysOf yX12_enjoysOf ∈ fm_tb := fm_inS 27 (by decide +kernel) (by decide +kernel)
theorem q_918 : Cond.code yX12_enjoysOf cX12_enjoysOf 3 (some .int) ∈ fm_tb := fm_in 918 (by decide +kernel) (by decide +kernel)
theorem mV_X12_enjoysOf : fm_mV RX12 yX12_enjoysOf cX12_enjoysOf 3 (some .int) 2 := ⟨q_917, qs_27, q_13, q_918, by decide +kernel⟩
theorem q_1010 : Cond.methodLink RX12 87 yX12_enjoys ∈ fm_tb := fm_in 1010 (by decide +kernel) (by decide +kernel)
theorem q_1012 : Cond.instanceMethod yX12_enjoys ∈ fm_tb := fm_in 1012 (by decide +kernel) (by decide +kernel)
theorem qs_40 : Cond.selects RX12 yX12_enjoys yX12_enjoys ∈ fm_tb := fm_inS 40 (by decide +kernel) (by decide +kernel)
theorem q_1013 : Cond.code yX12_enjoys cX12_enjoys 3 none ∈ fm_tb := fm_in 1013 (by decide +kernel) (by decide +kernel)
theorem mV_X12_enjoys : fm_mV RX12 yX12_enjoys cX12_enjoys 3 none 2 := ⟨q_1012, qs_40, q_13, q_1013, by decide +kernel⟩
theorem q_919 : Cond.methodLink RX12 91 yX12_struckOf ∈ fm_tb := fm_in 919 (by decide +kernel) (by decide +kernel)
theorem q_921 : Cond.instanceMethod yX12_struckOf ∈ fm_tb := fm_in 921 (by decide +kernel) (by decide +kernel)
theorem qs_28 : Cond.selects RX12 yX12_struckOf yX12_struckOf ∈ fm_tb := fm_inS 28 (by decide +kernel) (by decide +kernel)
theorem q_922 : Cond.code yX12_struckOf cX12_struckOf 4 (some .int) ∈ fm_tb := fm_in 922 (by decide +kernel) (by decide +kernel)
theorem mV_X12_struckOf : fm_mV RX12 yX12_struckOf cX12_struckOf 4 (some .int) 2 := ⟨q_921, qs_28, q_13, q_922, by decide +kernel⟩
theorem q_923 : Cond.methodLink RX12 94 yX12_passesOf ∈ fm_tb := fm_in 923 (by decide +kernel) (by decide +kernel)
theorem q_925 : Cond.instanceMethod yX12_passesOf ∈ fm_tb := fm_in 925 (by decide +kernel) (by decide +kernel)
theorem qs_29 : Cond.selects RX12 yX12_passesOf yX12_passesOf ∈ fm_tb := fm_inS 29 (by decide +kernel) (by decide +kernel)
theorem q_926 : Cond.code yX12_passesOf cX12_passesOf 4 (some .int) ∈ fm_tb := fm_in 926 (by decide +kernel) (by decide +kernel)
theorem mV_X12_passesOf : fm_mV RX12 yX12_passesOf cX12_passesOf 4 (some .int) 2 := ⟨q_925, qs_29, q_13, q_926, by decide +kernel⟩
theorem q_1006 : Cond.methodLink RX12 97 yX12_opens ∈ fm_tb := fm_in 1006 (by decide +kernel) (by decide +kernel)
theorem q_1008 : Cond.instanceMethod yX12_opens ∈ fm_tb := fm_in 1008 (by decide +kernel) (by decide +kernel)
theorem qs_39 : Cond.selects RX12 yX12_opens yX12_opens ∈ fm_tb := fm_inS 39 (by decide +kernel) (by decide +kernel)
theorem q_1009 : Cond.code yX12_opens cX12_opens 4 none ∈ fm_tb := fm_in 1009 (by decide +kernel) (by decide +kernel)
theorem mV_X12_opens : fm_mV RX12 yX12_opens cX12_opens 4 none 2 := ⟨q_1008, qs_39, q_13, q_1009, by decide +kernel⟩
theorem fp_X12_5 : fm_fp RX12 TX12 20 12 5 0 tyX12 .int := ⟨fd_X12_5, tyX12_ok, nmX12, rfl, by decide +kernel⟩
theorem q_970 : Cond.methodLink RX12 100 yX12_addsLayer ∈ fm_tb := fm_in 970 (by decide +kernel) (by decide +kernel)
theorem q_972 : Cond.instanceMethod yX12_addsLayer ∈ fm_tb := fm_in 972 (by decide +kernel) (by decide +kernel)
theorem qs_33 : Cond.selects RX12 yX12_addsLayer yX12_addsLayer ∈ fm_tb := fm_inS 33 (by decide +kernel) (by decide +kernel)
theorem q_973 : Cond.code yX12_addsLayer cX12_addsLayer 4 none ∈ fm_tb := fm_in 973 (by decide +kernel) (by decide +kernel)
theorem mV_X12_addsLayer : fm_mV RX12 yX12_addsLayer cX12_addsLayer 4 none 2 := ⟨q_972, qs_33, q_13, q_973, by decide +kernel⟩
theorem q_998 : Cond.methodLink RX12 103 yX12_presentFor ∈ fm_tb := fm_in 998 (by decide +kernel) (by decide +kernel)
theorem q_1000 : Cond.instanceMethod yX12_presentFor ∈ fm_tb := fm_in 1000 (by decide +kernel) (by decide +kernel)
theorem qs_37 : Cond.selects RX12 yX12_presentFor yX12_presentFor ∈ fm_tb := fm_inS 37 (by decide +kernel) (by decide +kernel)
theorem q_1001 : Cond.code yX12_presentFor cX12_presentFor 3 (some .int) ∈ fm_tb := fm_in 1001 (by decide +kernel) (by decide +kernel)
theorem mV_X12_presentFor : fm_mV RX12 yX12_presentFor cX12_presentFor 3 (some .int) 1 := ⟨q_1000, qs_37, q_13, q_1001, by decide +kernel⟩
theorem q_1002 : Cond.methodLink RX12 106 yX12_takesTurn ∈ fm_tb := fm_in 1002 (by decide +kernel) (by decide +kernel)
theorem q_1004 : Cond.instanceMethod yX12_takesTurn ∈ fm_tb := fm_in 1004 (by decide +kernel) (by decide +kernel)
theorem qs_38 : Cond.selects RX12 yX12_takesTurn yX12_takesTurn ∈ fm_tb := fm_inS 38 (by decide +kernel) (by decide +kernel)
theorem q_1005 : Cond.code yX12_takesTurn cX12_takesTurn 4 none ∈ fm_tb := fm_in 1005 (by decide +kernel) (by decide +kernel)
theorem mV_X12_takesTurn : fm_mV RX12 yX12_takesTurn cX12_takesTurn 4 none 2 := ⟨q_1004, qs_38, q_13, q_1005, by decide +kernel⟩
theorem q_994 : Cond.methodLink RX12 109 yX12_day ∈ fm_tb := fm_in 994 (by decide +kernel) (by decide +kernel)
theorem q_996 : Cond.instanceMethod yX12_day ∈ fm_tb := fm_in 996 (by decide +kernel) (by decide +kernel)
theorem qs_36 : Cond.selects RX12 yX12_day yX12_day ∈ fm_tb := fm_inS 36 (by decide +kernel) (by decide +kernel)
theorem q_997 : Cond.code yX12_day cX12_day 3 none ∈ fm_tb := fm_in 997 (by decide +kernel) (by decide +kernel)
theorem mV_X12_day : fm_mV RX12 yX12_day cX12_day 3 none 0 := ⟨q_996, qs_36, q_13, q_997, by decide +kernel⟩
theorem q_872 : Cond.methodLink RX12 115 yX12_addsPerson ∈ fm_tb := fm_in 872 (by decide +kernel) (by decide +kernel)
theorem q_874 : Cond.instanceMethod yX12_addsPerson ∈ fm_tb := fm_in 874 (by decide +kernel) (by decide +kernel)
theorem qs_19 : Cond.selects RX12 yX12_addsPerson yX12_addsPerson ∈ fm_tb := fm_inS 19 (by decide +kernel) (by decide +kernel)
theorem q_875 : Cond.code yX12_addsPerson cX12_addsPerson 2 none ∈ fm_tb := fm_in 875 (by decide +kernel) (by decide +kernel)
theorem mV_X12_addsPerson : fm_mV RX12 yX12_addsPerson cX12_addsPerson 2 none 1 := ⟨q_874, qs_19, q_13, q_875, by decide +kernel⟩
theorem q_867 : Cond.methodLink RX12 112 yX12_no ∈ fm_tb := fm_in 867 (by decide +kernel) (by decide +kernel)
theorem q_869 : Cond.instanceMethod yX12_no ∈ fm_tb := fm_in 869 (by decide +kernel) (by decide +kernel)
theorem qs_18 : Cond.selects RX12 yX12_no yX12_no ∈ fm_tb := fm_inS 18 (by decide +kernel) (by decide +kernel)
theorem q_870 : Cond.code yX12_no cX12_no 2 (some .int) ∈ fm_tb := fm_in 870 (by decide +kernel) (by decide +kernel)
theorem mV_X12_no : fm_mV RX12 yX12_no cX12_no 2 (some .int) 1 := ⟨q_869, qs_18, q_13, q_870, by decide +kernel⟩
theorem q_884 : Cond.methodLink RX12 119 yX12_isPerson ∈ fm_tb := fm_in 884 (by decide +kernel) (by decide +kernel)
theorem q_886 : Cond.instanceMethod yX12_isPerson ∈ fm_tb := fm_in 886 (by decide +kernel) (by decide +kernel)
theorem qs_21 : Cond.selects RX12 yX12_isPerson yX12_isPerson ∈ fm_tb := fm_inS 21 (by decide +kernel) (by decide +kernel)
theorem q_887 : Cond.code yX12_isPerson cX12_isPerson 2 (some .boolean) ∈ fm_tb := fm_in 887 (by decide +kernel) (by decide +kernel)
theorem mV_X12_isPerson : fm_mV RX12 yX12_isPerson cX12_isPerson 2 (some .boolean) 1 := ⟨q_886, qs_21, q_13, q_887, by decide +kernel⟩
theorem q_892 : Cond.methodLink RX12 123 yX12_presentsWith ∈ fm_tb := fm_in 892 (by decide +kernel) (by decide +kernel)
theorem q_894 : Cond.instanceMethod yX12_presentsWith ∈ fm_tb := fm_in 894 (by decide +kernel) (by decide +kernel)
theorem qs_23 : Cond.selects RX12 yX12_presentsWith yX12_presentsWith ∈ fm_tb := fm_inS 23 (by decide +kernel) (by decide +kernel)
theorem q_895 : Cond.code yX12_presentsWith cX12_presentsWith 5 (some .int) ∈ fm_tb := fm_in 895 (by decide +kernel) (by decide +kernel)
theorem mV_X12_presentsWith : fm_mV RX12 yX12_presentsWith cX12_presentsWith 5 (some .int) 2 := ⟨q_894, qs_23, q_13, q_895, by decide +kernel⟩
theorem q_904 : Cond.methodLink RX12 127 yX12_isPresent ∈ fm_tb := fm_in 904 (by decide +kernel) (by decide +kernel)
theorem q_906 : Cond.instanceMethod yX12_isPresent ∈ fm_tb := fm_in 906 (by decide +kernel) (by decide +kernel)
theorem qs_25 : Cond.selects RX12 yX12_isPresent yX12_isPresent ∈ fm_tb := fm_inS 25 (by decide +kernel) (by decide +kernel)
theorem q_907 : Cond.code yX12_isPresent cX12_isPresent 2 (some .boolean) ∈ fm_tb := fm_in 907 (by decide +kernel) (by decide +kernel)
theorem mV_X12_isPresent : fm_mV RX12 yX12_isPresent cX12_isPresent 2 (some .boolean) 1 := ⟨q_906, qs_25, q_13, q_907, by decide +kernel⟩
theorem q_943 : Cond.methodLink RX12 130 yX12_addsPresent ∈ fm_tb := fm_in 943 (by decide +kernel) (by decide +kernel)
theorem q_945 : Cond.instanceMethod yX12_addsPresent ∈ fm_tb := fm_in 945 (by decide +kernel) (by decide +kernel)
theorem qs_30 : Cond.selects RX12 yX12_addsPresent yX12_addsPresent ∈ fm_tb := fm_inS 30 (by decide +kernel) (by decide +kernel)
theorem q_946 : Cond.code yX12_addsPresent cX12_addsPresent 4 none ∈ fm_tb := fm_in 946 (by decide +kernel) (by decide +kernel)
theorem mV_X12_addsPresent : fm_mV RX12 yX12_addsPresent cX12_addsPresent 4 none 2 := ⟨q_945, qs_30, q_13, q_946, by decide +kernel⟩
theorem q_963 : Cond.methodLink RX12 133 yX12_isPaper ∈ fm_tb := fm_in 963 (by decide +kernel) (by decide +kernel)
theorem q_964 : Cond.static yX12_isPaper ∈ fm_tb := fm_in 964 (by decide +kernel) (by decide +kernel)
theorem q_965 : Cond.code yX12_isPaper cX12_isPaper 1 (some .boolean) ∈ fm_tb := fm_in 965 (by decide +kernel) (by decide +kernel)
theorem mS_X12_isPaper : fm_mS yX12_isPaper cX12_isPaper 1 (some .boolean) 1 := ⟨q_964, q_13, q_965, by decide +kernel⟩
theorem q_966 : Cond.methodLink RX12 136 yX12_whyNoLayer ∈ fm_tb := fm_in 966 (by decide +kernel) (by decide +kernel)
theorem q_968 : Cond.instanceMethod yX12_whyNoLayer ∈ fm_tb := fm_in 968 (by decide +kernel) (by decide +kernel)
theorem qs_32 : Cond.selects RX12 yX12_whyNoLayer yX12_whyNoLayer ∈ fm_tb := fm_inS 32 (by decide +kernel) (by decide +kernel)
theorem q_969 : Cond.code yX12_whyNoLayer cX12_whyNoLayer 2 (some .int) ∈ fm_tb := fm_in 969 (by decide +kernel) (by decide +kernel)
theorem mV_X12_whyNoLayer : fm_mV RX12 yX12_whyNoLayer cX12_whyNoLayer 2 (some .int) 1 := ⟨q_968, qs_32, q_13, q_969, by decide +kernel⟩
theorem q_990 : Cond.methodLink RX12 139 yX12_goes ∈ fm_tb := fm_in 990 (by decide +kernel) (by decide +kernel)
theorem q_992 : Cond.instanceMethod yX12_goes ∈ fm_tb := fm_in 992 (by decide +kernel) (by decide +kernel)
theorem qs_35 : Cond.selects RX12 yX12_goes yX12_goes ∈ fm_tb := fm_inS 35 (by decide +kernel) (by decide +kernel)
theorem q_993 : Cond.code yX12_goes cX12_goes 3 none ∈ fm_tb := fm_in 993 (by decide +kernel) (by decide +kernel)
theorem mV_X12_goes : fm_mV RX12 yX12_goes cX12_goes 3 none 1 := ⟨q_992, qs_35, q_13, q_993, by decide +kernel⟩
theorem q_1014 : Cond.methodLink RX12 142 yX12_foundOnes ∈ fm_tb := fm_in 1014 (by decide +kernel) (by decide +kernel)
theorem q_1016 : Cond.instanceMethod yX12_foundOnes ∈ fm_tb := fm_in 1016 (by decide +kernel) (by decide +kernel)
theorem qs_41 : Cond.selects RX12 yX12_foundOnes yX12_foundOnes ∈ fm_tb := fm_inS 41 (by decide +kernel) (by decide +kernel)
theorem q_1017 : Cond.code yX12_foundOnes cX12_foundOnes 3 (some .int) ∈ fm_tb := fm_in 1017 (by decide +kernel) (by decide +kernel)
theorem mV_X12_foundOnes : fm_mV RX12 yX12_foundOnes cX12_foundOnes 3 (some .int) 0 := ⟨q_1016, qs_41, q_13, q_1017, by decide +kernel⟩
theorem q_1022 : Cond.methodLink RX12 146 yX12_allJoy ∈ fm_tb := fm_in 1022 (by decide +kernel) (by decide +kernel)
theorem q_1024 : Cond.instanceMethod yX12_allJoy ∈ fm_tb := fm_in 1024 (by decide +kernel) (by decide +kernel)
theorem qs_42 : Cond.selects RX12 yX12_allJoy yX12_allJoy ∈ fm_tb := fm_inS 42 (by decide +kernel) (by decide +kernel)
theorem q_1025 : Cond.code yX12_allJoy cX12_allJoy 3 (some .int) ∈ fm_tb := fm_in 1025 (by decide +kernel) (by decide +kernel)
theorem mV_X12_allJoy : fm_mV RX12 yX12_allJoy cX12_allJoy 3 (some .int) 0 := ⟨q_1024, qs_42, q_13, q_1025, by decide +kernel⟩
theorem q_1026 : Cond.methodLink RX12 149 yX12_allOf ∈ fm_tb := fm_in 1026 (by decide +kernel) (by decide +kernel)
theorem q_1028 : Cond.instanceMethod yX12_allOf ∈ fm_tb := fm_in 1028 (by decide +kernel) (by decide +kernel)
theorem qs_43 : Cond.selects RX12 yX12_allOf yX12_allOf ∈ fm_tb := fm_inS 43 (by decide +kernel) (by decide +kernel)
theorem q_1029 : Cond.code yX12_allOf cX12_allOf 5 (some .int) ∈ fm_tb := fm_in 1029 (by decide +kernel) (by decide +kernel)
theorem mV_X12_allOf : fm_mV RX12 yX12_allOf cX12_allOf 5 (some .int) 2 := ⟨q_1028, qs_43, q_13, q_1029, by decide +kernel⟩
theorem q_1034 : Cond.methodLink RX12 152 yX12_isAhead ∈ fm_tb := fm_in 1034 (by decide +kernel) (by decide +kernel)
theorem q_1035 : Cond.static yX12_isAhead ∈ fm_tb := fm_in 1035 (by decide +kernel) (by decide +kernel)
theorem q_1036 : Cond.code yX12_isAhead cX12_isAhead 1 (some .boolean) ∈ fm_tb := fm_in 1036 (by decide +kernel) (by decide +kernel)
theorem mS_X12_isAhead : fm_mS yX12_isAhead cX12_isAhead 1 (some .boolean) 1 := ⟨q_1035, q_13, q_1036, by decide +kernel⟩
theorem q_1037 : Cond.methodLink RX12 155 yX12_setsAside ∈ fm_tb := fm_in 1037 (by decide +kernel) (by decide +kernel)
theorem q_1039 : Cond.instanceMethod yX12_setsAside ∈ fm_tb := fm_in 1039 (by decide +kernel) (by decide +kernel)
theorem qs_44 : Cond.selects RX12 yX12_setsAside yX12_setsAside ∈ fm_tb := fm_inS 44 (by decide +kernel) (by decide +kernel)
theorem q_1040 : Cond.code yX12_setsAside cX12_setsAside 2 none ∈ fm_tb := fm_in 1040 (by decide +kernel) (by decide +kernel)
theorem mV_X12_setsAside : fm_mV RX12 yX12_setsAside cX12_setsAside 2 none 0 := ⟨q_1039, qs_44, q_13, q_1040, by decide +kernel⟩
theorem q_1041 : Cond.methodLink RX12 158 yX12_laysBack ∈ fm_tb := fm_in 1041 (by decide +kernel) (by decide +kernel)
theorem q_1043 : Cond.instanceMethod yX12_laysBack ∈ fm_tb := fm_in 1043 (by decide +kernel) (by decide +kernel)
theorem qs_45 : Cond.selects RX12 yX12_laysBack yX12_laysBack ∈ fm_tb := fm_inS 45 (by decide +kernel) (by decide +kernel)
theorem q_1044 : Cond.code yX12_laysBack cX12_laysBack 2 none ∈ fm_tb := fm_in 1044 (by decide +kernel) (by decide +kernel)
theorem mV_X12_laysBack : fm_mV RX12 yX12_laysBack cX12_laysBack 2 none 0 := ⟨q_1043, qs_45, q_13, q_1044, by decide +kernel⟩
theorem q_1053 : Cond.methodLink RX12 161 yX12_firstBy ∈ fm_tb := fm_in 1053 (by decide +kernel) (by decide +kernel)
theorem q_1055 : Cond.instanceMethod yX12_firstBy ∈ fm_tb := fm_in 1055 (by decide +kernel) (by decide +kernel)
theorem qs_46 : Cond.selects RX12 yX12_firstBy yX12_firstBy ∈ fm_tb := fm_inS 46 (by decide +kernel) (by decide +kernel)
theorem q_1056 : Cond.code yX12_firstBy cX12_firstBy 5 (some .int) ∈ fm_tb := fm_in 1056 (by decide +kernel) (by decide +kernel)
theorem mV_X12_firstBy : fm_mV RX12 yX12_firstBy cX12_firstBy 5 (some .int) 3 := ⟨q_1055, qs_46, q_13, q_1056, by decide +kernel⟩
theorem q_1068 : Cond.methodLink RX12 168 yX12_joyThen ∈ fm_tb := fm_in 1068 (by decide +kernel) (by decide +kernel)
theorem q_1070 : Cond.instanceMethod yX12_joyThen ∈ fm_tb := fm_in 1070 (by decide +kernel) (by decide +kernel)
theorem qs_47 : Cond.selects RX12 yX12_joyThen yX12_joyThen ∈ fm_tb := fm_inS 47 (by decide +kernel) (by decide +kernel)
theorem q_1071 : Cond.code yX12_joyThen cX12_joyThen 4 (some .int) ∈ fm_tb := fm_in 1071 (by decide +kernel) (by decide +kernel)
theorem mV_X12_joyThen : fm_mV RX12 yX12_joyThen cX12_joyThen 4 (some .int) 2 := ⟨q_1070, qs_47, q_13, q_1071, by decide +kernel⟩
theorem q_1065 : Cond.methodLink RX12 165 yX12_isSoon ∈ fm_tb := fm_in 1065 (by decide +kernel) (by decide +kernel)
theorem q_1066 : Cond.static yX12_isSoon ∈ fm_tb := fm_in 1066 (by decide +kernel) (by decide +kernel)
theorem q_1067 : Cond.code yX12_isSoon cX12_isSoon 1 (some .boolean) ∈ fm_tb := fm_in 1067 (by decide +kernel) (by decide +kernel)
theorem mS_X12_isSoon : fm_mS yX12_isSoon cX12_isSoon 1 (some .boolean) 1 := ⟨q_1066, q_13, q_1067, by decide +kernel⟩
theorem q_804 : Cond.fieldLink RX12 22 "WrapGiftsModel" "left" "[I" ∈ fm_tb := fm_in 804 (by decide +kernel) (by decide +kernel)
theorem fd_X12_6 : fm_fd RX12 TX12 20 12 6 2 := ⟨rfl, in_X12, by decide, by decide, by decide⟩
theorem fc_101 : fm_ct 101 = 14 := by decide +kernel
theorem fl_101 : fm_ln 101 = 5 := by decide +kernel
theorem fr_96_6 : fm_rf 96 6 = 101 := by decide +kernel
theorem q_1088 : Cond.methodLink RX12 171 yX12_isOrder ∈ fm_tb := fm_in 1088 (by decide +kernel) (by decide +kernel)
theorem q_1090 : Cond.instanceMethod yX12_isOrder ∈ fm_tb := fm_in 1090 (by decide +kernel) (by decide +kernel)
theorem qs_48 : Cond.selects RX12 yX12_isOrder yX12_isOrder ∈ fm_tb := fm_inS 48 (by decide +kernel) (by decide +kernel)
theorem q_1091 : Cond.code yX12_isOrder cX12_isOrder 5 (some .boolean) ∈ fm_tb := fm_in 1091 (by decide +kernel) (by decide +kernel)
theorem mV_X12_isOrder : fm_mV RX12 yX12_isOrder cX12_isOrder 5 (some .boolean) 2 := ⟨q_1090, qs_48, q_13, q_1091, by decide +kernel⟩
theorem q_1092 : Cond.methodLink RX12 175 yX12_joyBy ∈ fm_tb := fm_in 1092 (by decide +kernel) (by decide +kernel)
theorem q_1094 : Cond.instanceMethod yX12_joyBy ∈ fm_tb := fm_in 1094 (by decide +kernel) (by decide +kernel)
theorem qs_49 : Cond.selects RX12 yX12_joyBy yX12_joyBy ∈ fm_tb := fm_inS 49 (by decide +kernel) (by decide +kernel)
theorem q_1095 : Cond.code yX12_joyBy cX12_joyBy 6 (some .int) ∈ fm_tb := fm_in 1095 (by decide +kernel) (by decide +kernel)
theorem mV_X12_joyBy : fm_mV RX12 yX12_joyBy cX12_joyBy 6 (some .int) 3 := ⟨q_1094, qs_49, q_13, q_1095, by decide +kernel⟩
theorem q_1104 : Cond.methodLink RX12 178 yX12_isHiddenBy ∈ fm_tb := fm_in 1104 (by decide +kernel) (by decide +kernel)
theorem q_1106 : Cond.instanceMethod yX12_isHiddenBy ∈ fm_tb := fm_in 1106 (by decide +kernel) (by decide +kernel)
theorem qs_50 : Cond.selects RX12 yX12_isHiddenBy yX12_isHiddenBy ∈ fm_tb := fm_inS 50 (by decide +kernel) (by decide +kernel)
theorem q_1107 : Cond.code yX12_isHiddenBy cX12_isHiddenBy 6 (some .boolean) ∈ fm_tb := fm_in 1107 (by decide +kernel) (by decide +kernel)
theorem mV_X12_isHiddenBy : fm_mV RX12 yX12_isHiddenBy cX12_isHiddenBy 6 (some .boolean) 4 := ⟨q_1106, qs_50, q_13, q_1107, by decide +kernel⟩
theorem q_806 : Cond.fieldLink RX12 182 "WrapGiftsModel" "taped" "I" ∈ fm_tb := fm_in 806 (by decide +kernel) (by decide +kernel)
theorem fd_X12_8 : fm_fd RX12 TX12 20 12 8 0 := ⟨rfl, in_X12, by decide, by decide, by decide⟩
theorem q_805 : Cond.fieldLink RX12 25 "WrapGiftsModel" "tape" "[I" ∈ fm_tb := fm_in 805 (by decide +kernel) (by decide +kernel)
theorem fd_X12_7 : fm_fd RX12 TX12 20 12 7 2 := ⟨rfl, in_X12, by decide, by decide, by decide⟩
theorem fc_102 : fm_ct 102 = 14 := by decide +kernel
theorem fl_102 : fm_ln 102 = 120 := by decide +kernel
theorem fr_96_7 : fm_rf 96 7 = 102 := by decide +kernel
theorem fp_X12_8 : fm_fp RX12 TX12 20 12 8 0 tyX12 .int := ⟨fd_X12_8, tyX12_ok, nmX12, rfl, by decide +kernel⟩
theorem q_809 : Cond.fieldLink RX12 185 "WrapGiftsModel" "ended" "I" ∈ fm_tb := fm_in 809 (by decide +kernel) (by decide +kernel)
theorem fd_X12_11 : fm_fd RX12 TX12 20 12 11 0 := ⟨rfl, in_X12, by decide, by decide, by decide⟩
theorem q_808 : Cond.fieldLink RX12 188 "WrapGiftsModel" "begun" "I" ∈ fm_tb := fm_in 808 (by decide +kernel) (by decide +kernel)
theorem fd_X12_10 : fm_fd RX12 TX12 20 12 10 0 := ⟨rfl, in_X12, by decide, by decide, by decide⟩
theorem fp_X12_10 : fm_fp RX12 TX12 20 12 10 0 tyX12 .int := ⟨fd_X12_10, tyX12_ok, nmX12, rfl, by decide +kernel⟩
theorem fp_X12_11 : fm_fp RX12 TX12 20 12 11 0 tyX12 .int := ⟨fd_X12_11, tyX12_ok, nmX12, rfl, by decide +kernel⟩
theorem q_810 : Cond.fieldLink RX12 191 "WrapGiftsModel" "value" "J" ∈ fm_tb := fm_in 810 (by decide +kernel) (by decide +kernel)
theorem fd_X12_12 : fm_fd RX12 TX12 20 12 12 1 := ⟨rfl, in_X12, by decide, by decide, by decide⟩
theorem fp_X12_12 : fm_fp RX12 TX12 20 12 12 1 tyX12 .long := ⟨fd_X12_12, tyX12_ok, nmX12, rfl, by decide +kernel⟩
theorem q_1124 : Cond.methodLink RX12 198 yX12_isLetter ∈ fm_tb := fm_in 1124 (by decide +kernel) (by decide +kernel)
theorem q_1125 : Cond.static yX12_isLetter ∈ fm_tb := fm_in 1125 (by decide +kernel) (by decide +kernel)
theorem q_1126 : Cond.code yX12_isLetter cX12_isLetter 1 (some .boolean) ∈ fm_tb := fm_in 1126 (by decide +kernel) (by decide +kernel)
theorem mS_X12_isLetter : fm_mS yX12_isLetter cX12_isLetter 1 (some .boolean) 1 := ⟨q_1125, q_13, q_1126, by decide +kernel⟩
theorem q_1130 : Cond.methodLink RX12 207 yX12_isDigit ∈ fm_tb := fm_in 1130 (by decide +kernel) (by decide +kernel)
theorem q_1131 : Cond.static yX12_isDigit ∈ fm_tb := fm_in 1131 (by decide +kernel) (by decide +kernel)
theorem q_1132 : Cond.code yX12_isDigit cX12_isDigit 1 (some .boolean) ∈ fm_tb := fm_in 1132 (by decide +kernel) (by decide +kernel)
theorem mS_X12_isDigit : fm_mS yX12_isDigit cX12_isDigit 1 (some .boolean) 1 := ⟨q_1131, q_13, q_1132, by decide +kernel⟩
theorem q_807 : Cond.fieldLink RX12 195 "WrapGiftsModel" "token" "I" ∈ fm_tb := fm_in 807 (by decide +kernel) (by decide +kernel)
theorem fd_X12_9 : fm_fd RX12 TX12 20 12 9 0 := ⟨rfl, in_X12, by decide, by decide, by decide⟩
theorem fp_X12_9 : fm_fp RX12 TX12 20 12 9 0 tyX12 .int := ⟨fd_X12_9, tyX12_ok, nmX12, rfl, by decide +kernel⟩
theorem q_1133 : Cond.constantLong RX12 210 (999 : Int64) ∈ fm_tb := fm_in 1133 (by decide +kernel) (by decide +kernel)
theorem q_1134 : Cond.constantLong RX12 212 (10 : Int64) ∈ fm_tb := fm_in 1134 (by decide +kernel) (by decide +kernel)
theorem q_1135 : Cond.constantLong RX12 214 (48 : Int64) ∈ fm_tb := fm_in 1135 (by decide +kernel) (by decide +kernel)
theorem q_1127 : Cond.constantLong RX12 201 (9999999999999 : Int64) ∈ fm_tb := fm_in 1127 (by decide +kernel) (by decide +kernel)
theorem q_1128 : Cond.constantLong RX12 203 (27 : Int64) ∈ fm_tb := fm_in 1128 (by decide +kernel) (by decide +kernel)
theorem q_1129 : Cond.constantLong RX12 205 (96 : Int64) ∈ fm_tb := fm_in 1129 (by decide +kernel) (by decide +kernel)
theorem q_1120 : Cond.methodLink RX12 216 yX12_nextToken ∈ fm_tb := fm_in 1120 (by decide +kernel) (by decide +kernel)
theorem q_1122 : Cond.instanceMethod yX12_nextToken ∈ fm_tb := fm_in 1122 (by decide +kernel) (by decide +kernel)
theorem qs_51 : Cond.selects RX12 yX12_nextToken yX12_nextToken ∈ fm_tb := fm_inS 51 (by decide +kernel) (by decide +kernel)
theorem q_1123 : Cond.code yX12_nextToken cX12_nextToken 1 none ∈ fm_tb := fm_in 1123 (by decide +kernel) (by decide +kernel)
theorem mV_X12_nextToken : fm_mV RX12 yX12_nextToken cX12_nextToken 1 none 0 := ⟨q_1122, qs_51, q_13, q_1123, by decide +kernel⟩
theorem q_1148 : Cond.methodLink RX12 219 yX12_takesNumber ∈ fm_tb := fm_in 1148 (by decide +kernel) (by decide +kernel)
theorem q_1150 : Cond.instanceMethod yX12_takesNumber ∈ fm_tb := fm_in 1150 (by decide +kernel) (by decide +kernel)
theorem qs_55 : Cond.selects RX12 yX12_takesNumber yX12_takesNumber ∈ fm_tb := fm_inS 55 (by decide +kernel) (by decide +kernel)
theorem q_1151 : Cond.code yX12_takesNumber cX12_takesNumber 4 (some .int) ∈ fm_tb := fm_in 1151 (by decide +kernel) (by decide +kernel)
theorem mV_X12_takesNumber : fm_mV RX12 yX12_takesNumber cX12_takesNumber 4 (some .int) 2 := ⟨q_1150, qs_55, q_13, q_1151, by decide +kernel⟩
theorem q_812 : Cond.fieldLink RX12 32 "WrapGiftsModel" "others" "[C" ∈ fm_tb := fm_in 812 (by decide +kernel) (by decide +kernel)
theorem fd_X12_14 : fm_fd RX12 TX12 20 12 14 2 := ⟨rfl, in_X12, by decide, by decide, by decide⟩
theorem fc_104 : fm_ct 104 = 13 := by decide +kernel
theorem fl_104 : fm_ln 104 = 16 := by decide +kernel
theorem fr_96_14 : fm_rf 96 14 = 104 := by decide +kernel
theorem q_1140 : Cond.methodLink RX12 222 yX12_wordOf ∈ fm_tb := fm_in 1140 (by decide +kernel) (by decide +kernel)
theorem q_1142 : Cond.instanceMethod yX12_wordOf ∈ fm_tb := fm_in 1142 (by decide +kernel) (by decide +kernel)
theorem qs_53 : Cond.selects RX12 yX12_wordOf yX12_wordOf ∈ fm_tb := fm_inS 53 (by decide +kernel) (by decide +kernel)
theorem q_1143 : Cond.code yX12_wordOf cX12_wordOf 7 (some .int) ∈ fm_tb := fm_in 1143 (by decide +kernel) (by decide +kernel)
theorem mV_X12_wordOf : fm_mV RX12 yX12_wordOf cX12_wordOf 7 (some .int) 1 := ⟨q_1142, qs_53, q_13, q_1143, by decide +kernel⟩
theorem q_813 : Cond.fieldLink RX12 35 "WrapGiftsModel" "papers" "[C" ∈ fm_tb := fm_in 813 (by decide +kernel) (by decide +kernel)
theorem fd_X12_15 : fm_fd RX12 TX12 20 12 15 2 := ⟨rfl, in_X12, by decide, by decide, by decide⟩
theorem fc_105 : fm_ct 105 = 13 := by decide +kernel
theorem fl_105 : fm_ln 105 = 32 := by decide +kernel
theorem fr_96_15 : fm_rf 96 15 = 105 := by decide +kernel
theorem q_811 : Cond.fieldLink RX12 28 "WrapGiftsModel" "letters" "[C" ∈ fm_tb := fm_in 811 (by decide +kernel) (by decide +kernel)
theorem fd_X12_13 : fm_fd RX12 TX12 20 12 13 2 := ⟨rfl, in_X12, by decide, by decide, by decide⟩
theorem fc_103 : fm_ct 103 = 13 := by decide +kernel
theorem fl_103 : fm_ln 103 = 48 := by decide +kernel
theorem fr_96_13 : fm_rf 96 13 = 103 := by decide +kernel
theorem q_1144 : Cond.methodLink RX12 226 yX12_readsPresent ∈ fm_tb := fm_in 1144 (by decide +kernel) (by decide +kernel)
theorem q_1146 : Cond.instanceMethod yX12_readsPresent ∈ fm_tb := fm_in 1146 (by decide +kernel) (by decide +kernel)
theorem qs_54 : Cond.selects RX12 yX12_readsPresent yX12_readsPresent ∈ fm_tb := fm_inS 54 (by decide +kernel) (by decide +kernel)
theorem q_1147 : Cond.code yX12_readsPresent cX12_readsPresent 4 (some .boolean) ∈ fm_tb := fm_in 1147 (by decide +kernel) (by decide +kernel)
theorem mV_X12_readsPresent : fm_mV RX12 yX12_readsPresent cX12_readsPresent 4 (some .boolean) 0 := ⟨q_1146, qs_54, q_13, q_1147, by decide +kernel⟩
theorem q_1136 : Cond.methodLink RX12 230 yX12_readsItem ∈ fm_tb := fm_in 1136 (by decide +kernel) (by decide +kernel)
theorem q_1138 : Cond.instanceMethod yX12_readsItem ∈ fm_tb := fm_in 1138 (by decide +kernel) (by decide +kernel)
theorem qs_52 : Cond.selects RX12 yX12_readsItem yX12_readsItem ∈ fm_tb := fm_inS 52 (by decide +kernel) (by decide +kernel)
theorem q_1139 : Cond.code yX12_readsItem cX12_readsItem 2 (some .boolean) ∈ fm_tb := fm_in 1139 (by decide +kernel) (by decide +kernel)
theorem mV_X12_readsItem : fm_mV RX12 yX12_readsItem cX12_readsItem 2 (some .boolean) 0 := ⟨q_1138, qs_52, q_13, q_1139, by decide +kernel⟩
theorem q_1156 : Cond.methodLink RX12 233 yX12_isSheet ∈ fm_tb := fm_in 1156 (by decide +kernel) (by decide +kernel)
theorem q_1157 : Cond.static yX12_isSheet ∈ fm_tb := fm_in 1157 (by decide +kernel) (by decide +kernel)
theorem q_1158 : Cond.code yX12_isSheet cX12_isSheet 1 (some .boolean) ∈ fm_tb := fm_in 1158 (by decide +kernel) (by decide +kernel)
theorem mS_X12_isSheet : fm_mS yX12_isSheet cX12_isSheet 1 (some .boolean) 1 := ⟨q_1157, q_13, q_1158, by decide +kernel⟩
theorem q_814 : Cond.fieldLink RX12 38 "WrapGiftsModel" "widths" "[I" ∈ fm_tb := fm_in 814 (by decide +kernel) (by decide +kernel)
theorem fd_X12_16 : fm_fd RX12 TX12 20 12 16 2 := ⟨rfl, in_X12, by decide, by decide, by decide⟩
theorem fc_106 : fm_ct 106 = 14 := by decide +kernel
theorem fl_106 : fm_ln 106 = 4 := by decide +kernel
theorem fr_96_16 : fm_rf 96 16 = 106 := by decide +kernel
theorem q_816 : Cond.fieldLink RX12 44 "WrapGiftsModel" "cells" "[J" ∈ fm_tb := fm_in 816 (by decide +kernel) (by decide +kernel)
theorem fd_X12_18 : fm_fd RX12 TX12 20 12 18 2 := ⟨rfl, in_X12, by decide, by decide, by decide⟩
theorem fc_108 : fm_ct 108 = 15 := by decide +kernel
theorem fl_108 : fm_ln 108 = 160 := by decide +kernel
theorem fr_96_18 : fm_rf 96 18 = 108 := by decide +kernel
theorem q_815 : Cond.fieldLink RX12 41 "WrapGiftsModel" "sizes" "[I" ∈ fm_tb := fm_in 815 (by decide +kernel) (by decide +kernel)
theorem fd_X12_17 : fm_fd RX12 TX12 20 12 17 2 := ⟨rfl, in_X12, by decide, by decide, by decide⟩
theorem fc_107 : fm_ct 107 = 14 := by decide +kernel
theorem fl_107 : fm_ln 107 = 4 := by decide +kernel
theorem fr_96_17 : fm_rf 96 17 = 107 := by decide +kernel
theorem q_1163 : Cond.methodLink RX12 236 yX12_wrongSheet ∈ fm_tb := fm_in 1163 (by decide +kernel) (by decide +kernel)
theorem q_1165 : Cond.instanceMethod yX12_wrongSheet ∈ fm_tb := fm_in 1165 (by decide +kernel) (by decide +kernel)
theorem qs_56 : Cond.selects RX12 yX12_wrongSheet yX12_wrongSheet ∈ fm_tb := fm_inS 56 (by decide +kernel) (by decide +kernel)
theorem q_1166 : Cond.code yX12_wrongSheet cX12_wrongSheet 2 (some .int) ∈ fm_tb := fm_in 1166 (by decide +kernel) (by decide +kernel)
theorem mV_X12_wrongSheet : fm_mV RX12 yX12_wrongSheet cX12_wrongSheet 2 (some .int) 1 := ⟨q_1165, qs_56, q_13, q_1166, by decide +kernel⟩
theorem q_1167 : Cond.methodLink RX12 239 yX12_told ∈ fm_tb := fm_in 1167 (by decide +kernel) (by decide +kernel)
theorem q_1169 : Cond.instanceMethod yX12_told ∈ fm_tb := fm_in 1169 (by decide +kernel) (by decide +kernel)
theorem qs_57 : Cond.selects RX12 yX12_told yX12_told ∈ fm_tb := fm_inS 57 (by decide +kernel) (by decide +kernel)
theorem q_1170 : Cond.code yX12_told cX12_told 3 (some .long) ∈ fm_tb := fm_in 1170 (by decide +kernel) (by decide +kernel)
theorem mV_X12_told : fm_mV RX12 yX12_told cX12_told 3 (some .long) 2 := ⟨q_1169, qs_57, q_13, q_1170, by decide +kernel⟩
theorem q_1171 : Cond.methodLink RX12 243 yX12_tells ∈ fm_tb := fm_in 1171 (by decide +kernel) (by decide +kernel)
theorem q_1173 : Cond.instanceMethod yX12_tells ∈ fm_tb := fm_in 1173 (by decide +kernel) (by decide +kernel)
theorem qs_58 : Cond.selects RX12 yX12_tells yX12_tells ∈ fm_tb := fm_inS 58 (by decide +kernel) (by decide +kernel)
theorem q_1174 : Cond.code yX12_tells cX12_tells 5 none ∈ fm_tb := fm_in 1174 (by decide +kernel) (by decide +kernel)
theorem mV_X12_tells : fm_mV RX12 yX12_tells cX12_tells 5 none 3 := ⟨q_1173, qs_58, q_13, q_1174, by decide +kernel⟩
theorem q_817 : Cond.fieldLink RX12 48 "WrapGiftsModel" "carried" "[J" ∈ fm_tb := fm_in 817 (by decide +kernel) (by decide +kernel)
theorem fd_X12_19 : fm_fd RX12 TX12 20 12 19 2 := ⟨rfl, in_X12, by decide, by decide, by decide⟩
theorem fc_109 : fm_ct 109 = 15 := by decide +kernel
theorem fl_109 : fm_ln 109 = 40 := by decide +kernel
theorem fr_96_19 : fm_rf 96 19 = 109 := by decide +kernel
theorem q_1183 : Cond.constantLong RX12 247 (3 : Int64) ∈ fm_tb := fm_in 1183 (by decide +kernel) (by decide +kernel)
theorem q_1192 : Cond.methodLink RX12 249 yX12_isSo ∈ fm_tb := fm_in 1192 (by decide +kernel) (by decide +kernel)
theorem q_1194 : Cond.instanceMethod yX12_isSo ∈ fm_tb := fm_in 1194 (by decide +kernel) (by decide +kernel)
theorem qs_59 : Cond.selects RX12 yX12_isSo yX12_isSo ∈ fm_tb := fm_inS 59 (by decide +kernel) (by decide +kernel)
theorem q_1195 : Cond.code yX12_isSo cX12_isSo 5 (some .boolean) ∈ fm_tb := fm_in 1195 (by decide +kernel) (by decide +kernel)
theorem mV_X12_isSo : fm_mV RX12 yX12_isSo cX12_isSo 5 (some .boolean) 2 := ⟨q_1194, qs_59, q_13, q_1195, by decide +kernel⟩
theorem q_799 : Cond.fieldLink RX12 13 "WrapGiftsModel" "kept" "[I" ∈ fm_tb := fm_in 799 (by decide +kernel) (by decide +kernel)
theorem fd_X12_1 : fm_fd RX12 TX12 20 12 1 2 := ⟨rfl, in_X12, by decide, by decide, by decide⟩
theorem fc_98 : fm_ct 98 = 14 := by decide +kernel
theorem fl_98 : fm_ln 98 = 96 := by decide +kernel
theorem fr_96_1 : fm_rf 96 1 = 98 := by decide +kernel
theorem q_801 : Cond.fieldLink RX12 252 "WrapGiftsModel" "isKept" "Z" ∈ fm_tb := fm_in 801 (by decide +kernel) (by decide +kernel)
theorem fd_X12_3 : fm_fd RX12 TX12 20 12 3 0 := ⟨rfl, in_X12, by decide, by decide, by decide⟩
theorem fp_X12_3 : fm_fp RX12 TX12 20 12 3 0 tyX12 .boolean := ⟨fd_X12_3, tyX12_ok, nmX12, rfl, by decide +kernel⟩
theorem q_1212 : Cond.methodLink RX12 256 yX12_bits ∈ fm_tb := fm_in 1212 (by decide +kernel) (by decide +kernel)
theorem q_1213 : Cond.static yX12_bits ∈ fm_tb := fm_in 1213 (by decide +kernel) (by decide +kernel)
theorem q_1214 : Cond.code yX12_bits cX12_bits 3 (some .int) ∈ fm_tb := fm_in 1214 (by decide +kernel) (by decide +kernel)
theorem mS_X12_bits : fm_mS yX12_bits cX12_bits 3 (some .int) 1 := ⟨q_1213, q_13, q_1214, by decide +kernel⟩
