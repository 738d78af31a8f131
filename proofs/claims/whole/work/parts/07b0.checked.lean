/-! the checks, method by method (printed by wip/whole/gen2.py) -/
theorem jal_0 : jall ⟨"FilterBench", "<init>", "()V"⟩ prog_1_method_1_code jT_0 jH_0 = true := by decide +kernel
theorem jok_0 : jokM 0 = true := jal_0
set_option maxRecDepth 100000 in
theorem jmo_0 : jmOK 0 := ⟨List.mem_of_getElem? (i := 113) rfl, by decide +kernel⟩
theorem jal_1 : jall ⟨"FilterBench$Real", "<init>", "(II)V"⟩ prog_7_method_1_code jT_1 jH_1 = true := by decide +kernel
theorem jok_1 : jokM 1 = true := jal_1
set_option maxRecDepth 100000 in
theorem jmo_1 : jmOK 1 := ⟨List.mem_of_getElem? (i := 121) rfl, by decide +kernel⟩
theorem jal_2 : jall ⟨"FilterBench$Numbers", "<init>", "()V"⟩ prog_6_method_1_code jT_2 jH_2 = true := by decide +kernel
theorem jok_2 : jokM 2 = true := jal_2
set_option maxRecDepth 100000 in
theorem jmo_2 : jmOK 2 := ⟨List.mem_of_getElem? (i := 124) rfl, by decide +kernel⟩
theorem jal_3 : jall ⟨"FilterBench$Shorts", "<init>", "()V"⟩ prog_10_method_1_code jT_3 jH_3 = true := by decide +kernel
theorem jok_3 : jokM 3 = true := jal_3
set_option maxRecDepth 100000 in
theorem jmo_3 : jmOK 3 := ⟨List.mem_of_getElem? (i := 153) rfl, by decide +kernel⟩
theorem jal_4 : jall ⟨"FilterBench$DeadCycles", "<init>", "()V"⟩ prog_3_method_1_code jT_4 jH_4 = true := by decide +kernel
theorem jok_4 : jokM 4 = true := jal_4
set_option maxRecDepth 100000 in
theorem jmo_4 : jmOK 4 := ⟨List.mem_of_getElem? (i := 166) rfl, by decide +kernel⟩
theorem jal_5 : jall ⟨"FilterBench", "section", "(III)I"⟩ prog_1_method_2_code jT_5 jH_5 = true := by decide +kernel
theorem jok_5 : jokM 5 = true := jal_5
set_option maxRecDepth 100000 in
theorem jmo_5 : jmOK 5 := ⟨List.mem_of_getElem? (i := 228) rfl, by decide +kernel⟩
theorem jal_6 : jall ⟨"FilterBench", "numbersOf", "(I)LFilterBench$Numbers;"⟩ prog_1_method_11_code jT_6 jH_6 = true := by decide +kernel
theorem jok_6 : jokM 6 = true := jal_6
set_option maxRecDepth 100000 in
theorem jmo_6 : jmOK 6 := ⟨List.mem_of_getElem? (i := 232) rfl, by decide +kernel⟩
theorem jal_7 : jall ⟨"FilterBench", "isKind", "(I)Z"⟩ prog_1_method_9_code jT_7 jH_7 = true := by decide +kernel
theorem jok_7 : jokM 7 = true := jal_7
set_option maxRecDepth 100000 in
theorem jmo_7 : jmOK 7 := ⟨List.mem_of_getElem? (i := 235) rfl, by decide +kernel⟩
theorem jal_8 : jall ⟨"FilterBench", "fitsKind", "(II)Z"⟩ prog_1_method_10_code jT_8 jH_8 = true := by decide +kernel
theorem jok_8 : jokM 8 = true := jal_8
set_option maxRecDepth 100000 in
theorem jmo_8 : jmOK 8 := ⟨List.mem_of_getElem? (i := 240) rfl, by decide +kernel⟩
theorem jal_9 : jall ⟨"FilterBench", "newSection", "(IIILFilterBench$Numbers;)LFilterBench$Section;"⟩ prog_1_method_12_code jT_9 jH_9 = true := by decide +kernel
theorem jok_9 : jokM 9 = true := jal_9
set_option maxRecDepth 100000 in
theorem jmo_9 : jmOK 9 := ⟨List.mem_of_getElem? (i := 248) rfl, by decide +kernel⟩
theorem jal_10 : jall ⟨"FilterBench$Section", "<init>", "(IIIILFilterBench$Numbers;)V"⟩ prog_9_method_1_code jT_10 jH_10 = true := by decide +kernel
theorem jok_10 : jokM 10 = true := jal_10
set_option maxRecDepth 100000 in
theorem jmo_10 : jmOK 10 := ⟨List.mem_of_getElem? (i := 252) rfl, by decide +kernel⟩
theorem jal_11 : jall ⟨"FilterBench$Row", "<init>", "(I)V"⟩ prog_8_method_1_code jT_11 jH_11 = true := by decide +kernel
theorem jok_11 : jokM 11 = true := jal_11
set_option maxRecDepth 100000 in
theorem jmo_11 : jmOK 11 := ⟨List.mem_of_getElem? (i := 258) rfl, by decide +kernel⟩
theorem jal_12 : jall ⟨"FilterBench", "coefficient", "(IIJ)Z"⟩ prog_1_method_3_code jT_12 jH_12 = true := by decide +kernel
theorem jok_12 : jokM 12 = true := jal_12
set_option maxRecDepth 100000 in
theorem jmo_12 : jmOK 12 := ⟨List.mem_of_getElem? (i := 342) rfl, by decide +kernel⟩
theorem jal_13 : jall ⟨"FilterBench", "sectionAt", "(I)LFilterBench$Section;"⟩ prog_1_method_13_code jT_13 jH_13 = true := by decide +kernel
theorem jok_13 : jokM 13 = true := jal_13
set_option maxRecDepth 100000 in
theorem jmo_13 : jmOK 13 := ⟨List.mem_of_getElem? (i := 346) rfl, by decide +kernel⟩
theorem jal_14 : jall ⟨"FilterBench$Section", "hasFactor", "(I)Z"⟩ prog_9_method_3_code jT_14 jH_14 = true := by decide +kernel
theorem jok_14 : jokM 14 = true := jal_14
set_option maxRecDepth 100000 in
theorem jmo_14 : jmOK 14 := ⟨List.mem_of_getElem? (i := 350) rfl, by decide +kernel⟩
theorem jal_15 : jall ⟨"FilterBench$Real", "holds", "(J)Z"⟩ prog_7_method_2_code jT_15 jH_15 = true := by decide +kernel
theorem jok_15 : jokM 15 = true := jal_15
set_option maxRecDepth 100000 in
theorem jmo_15 : jmOK 15 := ⟨List.mem_of_getElem? (i := 356) rfl, by decide +kernel⟩
theorem jal_16 : jall ⟨"FilterBench$Shorts", "holds", "(J)Z"⟩ prog_10_method_2_code jT_16 jH_16 = true := by decide +kernel
theorem jok_16 : jokM 16 = true := jal_16
set_option maxRecDepth 100000 in
theorem jmo_16 : jmOK 16 := ⟨List.mem_of_getElem? (i := 359) rfl, by decide +kernel⟩
theorem jal_17 : jall ⟨"FilterBench$Real", "clean", "(J)J"⟩ prog_7_method_3_code jT_17 jH_17 = true := by decide +kernel
theorem jok_17 : jokM 17 = true := jal_17
set_option maxRecDepth 100000 in
theorem jmo_17 : jmOK 17 := ⟨List.mem_of_getElem? (i := 365) rfl, by decide +kernel⟩
theorem jal_18 : jall ⟨"FilterBench$Real", "isNumber", "(J)Z"⟩ prog_7_method_7_code jT_18 jH_18 = true := by decide +kernel
theorem jok_18 : jokM 18 = true := jal_18
set_option maxRecDepth 100000 in
theorem jmo_18 : jmOK 18 := ⟨List.mem_of_getElem? (i := 369) rfl, by decide +kernel⟩
theorem jal_19 : jall ⟨"FilterBench$Shorts", "clean", "(J)J"⟩ prog_10_method_3_code jT_19 jH_19 = true := by decide +kernel
theorem jok_19 : jokM 19 = true := jal_19
set_option maxRecDepth 100000 in
theorem jmo_19 : jmOK 19 := ⟨List.mem_of_getElem? (i := 372) rfl, by decide +kernel⟩
theorem jal_20 : jall ⟨"FilterBench$Section", "setFactor", "(IJ)V"⟩ prog_9_method_5_code jT_20 jH_20 = true := by decide +kernel
theorem jok_20 : jokM 20 = true := jal_20
set_option maxRecDepth 100000 in
theorem jmo_20 : jmOK 20 := ⟨List.mem_of_getElem? (i := 376) rfl, by decide +kernel⟩
theorem jal_21 : jall ⟨"FilterBench", "ratio", "(IIII)Z"⟩ prog_1_method_4_code jT_21 jH_21 = true := by decide +kernel
theorem jok_21 : jokM 21 = true := jal_21
set_option maxRecDepth 100000 in
theorem jmo_21 : jmOK 21 := ⟨List.mem_of_getElem? (i := 380) rfl, by decide +kernel⟩
theorem jal_22 : jall ⟨"FilterBench$Section", "takesWhole", "()Z"⟩ prog_9_method_6_code jT_22 jH_22 = true := by decide +kernel
theorem jok_22 : jokM 22 = true := jal_22
set_option maxRecDepth 100000 in
theorem jmo_22 : jmOK 22 := ⟨List.mem_of_getElem? (i := 384) rfl, by decide +kernel⟩
theorem jal_23 : jall ⟨"FilterBench$Real", "quotient", "(IIZLFilterBench$Real;)J"⟩ prog_7_method_25_code jT_23 jH_23 = true := by decide +kernel
theorem jok_23 : jokM 23 = true := jal_23
set_option maxRecDepth 100000 in
theorem jmo_23 : jmOK 23 := ⟨List.mem_of_getElem? (i := 390) rfl, by decide +kernel⟩
theorem jal_24 : jall ⟨"FilterBench$Real", "divided", "(II)J"⟩ prog_7_method_26_code jT_24 jH_24 = true := by decide +kernel
theorem jok_24 : jokM 24 = true := jal_24
set_option maxRecDepth 100000 in
theorem jmo_24 : jmOK 24 := ⟨List.mem_of_getElem? (i := 394) rfl, by decide +kernel⟩
theorem jal_25 : jall ⟨"java/lang/Math", "abs", "(J)J"⟩ prog_16_method_61_code jT_25 jH_25 = true := by decide +kernel
theorem jok_25 : jokM 25 = true := jal_25
set_option maxRecDepth 100000 in
theorem jmo_25 : jmOK 25 := ⟨List.mem_of_getElem? (i := 397) rfl, by decide +kernel⟩
theorem jal_26 : jall ⟨"FilterBench$Real", "lead", "(J)I"⟩ prog_7_method_20_code jT_26 jH_26 = true := by decide +kernel
theorem jok_26 : jokM 26 = true := jal_26
set_option maxRecDepth 100000 in
theorem jmo_26 : jmOK 26 := ⟨List.mem_of_getElem? (i := 400) rfl, by decide +kernel⟩
theorem jal_27 : jall ⟨"FilterBench$Real", "signed", "(ZJ)J"⟩ prog_7_method_17_code jT_27 jH_27 = true := by decide +kernel
theorem jok_27 : jokM 27 = true := jal_27
set_option maxRecDepth 100000 in
theorem jmo_27 : jmOK 27 := ⟨List.mem_of_getElem? (i := 404) rfl, by decide +kernel⟩
theorem jal_28 : jall ⟨"FilterBench$Real", "packed", "(ZIJ)J"⟩ prog_7_method_21_code jT_28 jH_28 = true := by decide +kernel
theorem jok_28 : jokM 28 = true := jal_28
set_option maxRecDepth 100000 in
theorem jmo_28 : jmOK 28 := ⟨List.mem_of_getElem? (i := 408) rfl, by decide +kernel⟩
theorem jal_29 : jall ⟨"FilterBench$Numbers", "halfEven", "(JI)J"⟩ prog_6_method_17_code jT_29 jH_29 = true := by decide +kernel
theorem jok_29 : jokM 29 = true := jal_29
set_option maxRecDepth 100000 in
theorem jmo_29 : jmOK 29 := ⟨List.mem_of_getElem? (i := 412) rfl, by decide +kernel⟩
theorem jal_30 : jall ⟨"FilterBench$Real", "taken", "(LFilterBench$Real;J)J"⟩ prog_7_method_24_code jT_30 jH_30 = true := by decide +kernel
theorem jok_30 : jokM 30 = true := jal_30
set_option maxRecDepth 100000 in
theorem jmo_30 : jmOK 30 := ⟨List.mem_of_getElem? (i := 416) rfl, by decide +kernel⟩
theorem jal_31 : jall ⟨"FilterBench$Real", "sizeOf", "(J)J"⟩ prog_7_method_5_code jT_31 jH_31 = true := by decide +kernel
theorem jok_31 : jokM 31 = true := jal_31
set_option maxRecDepth 100000 in
theorem jmo_31 : jmOK 31 := ⟨List.mem_of_getElem? (i := 420) rfl, by decide +kernel⟩
theorem jal_32 : jall ⟨"FilterBench$Real", "exponent", "(J)I"⟩ prog_7_method_19_code jT_32 jH_32 = true := by decide +kernel
theorem jok_32 : jokM 32 = true := jal_32
set_option maxRecDepth 100000 in
theorem jmo_32 : jmOK 32 := ⟨List.mem_of_getElem? (i := 424) rfl, by decide +kernel⟩
theorem jal_33 : jall ⟨"FilterBench$Real", "mantissa", "(J)J"⟩ prog_7_method_18_code jT_33 jH_33 = true := by decide +kernel
theorem jok_33 : jokM 33 = true := jal_33
set_option maxRecDepth 100000 in
theorem jmo_33 : jmOK 33 := ⟨List.mem_of_getElem? (i := 428) rfl, by decide +kernel⟩
theorem jal_34 : jall ⟨"FilterBench$Shorts", "quotient", "(IIZLFilterBench$Real;)J"⟩ prog_10_method_13_code jT_34 jH_34 = true := by decide +kernel
theorem jok_34 : jokM 34 = true := jal_34
set_option maxRecDepth 100000 in
theorem jmo_34 : jmOK 34 := ⟨List.mem_of_getElem? (i := 431) rfl, by decide +kernel⟩
theorem jal_35 : jall ⟨"java/lang/Math", "floorDiv", "(JJ)J"⟩ prog_16_method_49_code jT_35 jH_35 = true := by decide +kernel
theorem jok_35 : jokM 35 = true := jal_35
set_option maxRecDepth 100000 in
theorem jmo_35 : jmOK 35 := ⟨List.mem_of_getElem? (i := 436) rfl, by decide +kernel⟩
theorem jal_36 : jall ⟨"FilterBench", "rule", "(III)Z"⟩ prog_1_method_5_code jT_36 jH_36 = true := by decide +kernel
theorem jok_36 : jokM 36 = true := jal_36
set_option maxRecDepth 100000 in
theorem jmo_36 : jmOK 36 := ⟨List.mem_of_getElem? (i := 441) rfl, by decide +kernel⟩
theorem jal_37 : jall ⟨"FilterBench", "state", "(II)J"⟩ prog_1_method_6_code jT_37 jH_37 = true := by decide +kernel
theorem jok_37 : jokM 37 = true := jal_37
set_option maxRecDepth 100000 in
theorem jmo_37 : jmOK 37 := ⟨List.mem_of_getElem? (i := 445) rfl, by decide +kernel⟩
theorem jal_38 : jall ⟨"FilterBench$Row", "at", "(I)J"⟩ prog_8_method_4_code jT_38 jH_38 = true := by decide +kernel
theorem jok_38 : jokM 38 = true := jal_38
set_option maxRecDepth 100000 in
theorem jmo_38 : jmOK 38 := ⟨List.mem_of_getElem? (i := 449) rfl, by decide +kernel⟩
theorem jal_39 : jall ⟨"FilterBench$Row", "index", "(I)I"⟩ prog_8_method_3_code jT_39 jH_39 = true := by decide +kernel
theorem jok_39 : jokM 39 = true := jal_39
set_option maxRecDepth 100000 in
theorem jmo_39 : jmOK 39 := ⟨List.mem_of_getElem? (i := 453) rfl, by decide +kernel⟩
theorem jal_40 : jall ⟨"FilterBench", "about", "(II)I"⟩ prog_1_method_7_code jT_40 jH_40 = true := by decide +kernel
theorem jok_40 : jokM 40 = true := jal_40
set_option maxRecDepth 100000 in
theorem jmo_40 : jmOK 40 := ⟨List.mem_of_getElem? (i := 457) rfl, by decide +kernel⟩
theorem jal_41 : jall ⟨"FilterBench", "numberOf", "(LFilterBench$Chain;)I"⟩ prog_1_method_16_code jT_41 jH_41 = true := by decide +kernel
theorem jok_41 : jokM 41 = true := jal_41
set_option maxRecDepth 100000 in
theorem jmo_41 : jmOK 41 := ⟨List.mem_of_getElem? (i := 460) rfl, by decide +kernel⟩
theorem jal_42 : jall ⟨"FilterBench", "told", "(II)J"⟩ prog_1_method_8_code jT_42 jH_42 = true := by decide +kernel
theorem jok_42 : jokM 42 = true := jal_42
set_option maxRecDepth 100000 in
theorem jmo_42 : jmOK 42 := ⟨List.mem_of_getElem? (i := 464) rfl, by decide +kernel⟩
theorem jal_43 : jall ⟨"FilterBench$Section", "factor", "(I)J"⟩ prog_9_method_4_code jT_43 jH_43 = true := by decide +kernel
theorem jok_43 : jokM 43 = true := jal_43
set_option maxRecDepth 100000 in
theorem jmo_43 : jmOK 43 := ⟨List.mem_of_getElem? (i := 468) rfl, by decide +kernel⟩
theorem jal_44 : jall ⟨"FilterBench", "chain", "()I"⟩ prog_1_method_17_code jT_44 jH_44 = true := by decide +kernel
theorem jok_44 : jokM 44 = true := jal_44
set_option maxRecDepth 100000 in
theorem jmo_44 : jmOK 44 := ⟨List.mem_of_getElem? (i := 472) rfl, by decide +kernel⟩
theorem jal_45 : jall ⟨"FilterBench$Chain", "<init>", "()V"⟩ prog_2_method_1_code jT_45 jH_45 = true := by decide +kernel
theorem jok_45 : jokM 45 = true := jal_45
set_option maxRecDepth 100000 in
theorem jmo_45 : jmOK 45 := ⟨List.mem_of_getElem? (i := 476) rfl, by decide +kernel⟩
theorem jal_46 : jall ⟨"FilterBench", "registered", "(LFilterBench$Chain;)I"⟩ prog_1_method_23_code jT_46 jH_46 = true := by decide +kernel
theorem jok_46 : jokM 46 = true := jal_46
set_option maxRecDepth 100000 in
theorem jmo_46 : jmOK 46 := ⟨List.mem_of_getElem? (i := 522) rfl, by decide +kernel⟩
theorem jal_47 : jall ⟨"FilterBench", "add", "(II)I"⟩ prog_1_method_18_code jT_47 jH_47 = true := by decide +kernel
theorem jok_47 : jokM 47 = true := jal_47
set_option maxRecDepth 100000 in
theorem jmo_47 : jmOK 47 := ⟨List.mem_of_getElem? (i := 526) rfl, by decide +kernel⟩
theorem jal_48 : jall ⟨"FilterBench", "chainAt", "(I)LFilterBench$Chain;"⟩ prog_1_method_14_code jT_48 jH_48 = true := by decide +kernel
theorem jok_48 : jokM 48 = true := jal_48
set_option maxRecDepth 100000 in
theorem jmo_48 : jmOK 48 := ⟨List.mem_of_getElem? (i := 530) rfl, by decide +kernel⟩
theorem jal_49 : jall ⟨"FilterBench$Chain", "sort", "()I"⟩ prog_2_method_4_code jT_49 jH_49 = true := by decide +kernel
theorem jok_49 : jokM 49 = true := jal_49
set_option maxRecDepth 100000 in
theorem jmo_49 : jmOK 49 := ⟨List.mem_of_getElem? (i := 534) rfl, by decide +kernel⟩
theorem jal_50 : jall ⟨"FilterBench$Chain", "memberAt", "(I)LFilterBench$Section;"⟩ prog_2_method_2_code jT_50 jH_50 = true := by decide +kernel
theorem jok_50 : jokM 50 = true := jal_50
set_option maxRecDepth 100000 in
theorem jmo_50 : jmOK 50 := ⟨List.mem_of_getElem? (i := 538) rfl, by decide +kernel⟩
theorem jal_51 : jall ⟨"FilterBench$Section", "spreads", "()Z"⟩ prog_9_method_7_code jT_51 jH_51 = true := by decide +kernel
theorem jok_51 : jokM 51 = true := jal_51
set_option maxRecDepth 100000 in
theorem jmo_51 : jmOK 51 := ⟨List.mem_of_getElem? (i := 542) rfl, by decide +kernel⟩
theorem jal_52 : jall ⟨"FilterBench$Chain", "spreaders", "()I"⟩ prog_2_method_7_code jT_52 jH_52 = true := by decide +kernel
theorem jok_52 : jokM 52 = true := jal_52
set_option maxRecDepth 100000 in
theorem jmo_52 : jmOK 52 := ⟨List.mem_of_getElem? (i := 546) rfl, by decide +kernel⟩
theorem jal_53 : jall ⟨"FilterBench$Chain", "join", "(LFilterBench$Section;)V"⟩ prog_2_method_5_code jT_53 jH_53 = true := by decide +kernel
theorem jok_53 : jokM 53 = true := jal_53
set_option maxRecDepth 100000 in
theorem jmo_53 : jmOK 53 := ⟨List.mem_of_getElem? (i := 551) rfl, by decide +kernel⟩
theorem jal_54 : jall ⟨"FilterBench", "loop", "(IIIIJ)I"⟩ prog_1_method_19_code jT_54 jH_54 = true := by decide +kernel
theorem jok_54 : jokM 54 = true := jal_54
set_option maxRecDepth 100000 in
theorem jmo_54 : jmOK 54 := ⟨List.mem_of_getElem? (i := 555) rfl, by decide +kernel⟩
theorem jal_55 : jall ⟨"FilterBench$Chain", "changesRate", "(II)Z"⟩ prog_2_method_8_code jT_55 jH_55 = true := by decide +kernel
theorem jok_55 : jokM 55 = true := jal_55
set_option maxRecDepth 100000 in
theorem jmo_55 : jmOK 55 := ⟨List.mem_of_getElem? (i := 559) rfl, by decide +kernel⟩
theorem jal_56 : jall ⟨"FilterBench$Section", "changesRate", "()Z"⟩ prog_9_method_8_code jT_56 jH_56 = true := by decide +kernel
theorem jok_56 : jokM 56 = true := jal_56
set_option maxRecDepth 100000 in
theorem jmo_56 : jmOK 56 := ⟨List.mem_of_getElem? (i := 563) rfl, by decide +kernel⟩
theorem jal_57 : jall ⟨"FilterBench$Loop", "<init>", "(IIIJ)V"⟩ prog_5_method_1_code jT_57 jH_57 = true := by decide +kernel
theorem jok_57 : jokM 57 = true := jal_57
set_option maxRecDepth 100000 in
theorem jmo_57 : jmOK 57 := ⟨List.mem_of_getElem? (i := 569) rfl, by decide +kernel⟩
theorem jal_58 : jall ⟨"FilterBench$Chain", "tie", "(LFilterBench$Loop;)V"⟩ prog_2_method_6_code jT_58 jH_58 = true := by decide +kernel
theorem jok_58 : jokM 58 = true := jal_58
set_option maxRecDepth 100000 in
theorem jmo_58 : jmOK 58 := ⟨List.mem_of_getElem? (i := 597) rfl, by decide +kernel⟩
theorem jal_59 : jall ⟨"FilterBench", "within", "(II)Z"⟩ prog_1_method_20_code jT_59 jH_59 = true := by decide +kernel
theorem jok_59 : jokM 59 = true := jal_59
set_option maxRecDepth 100000 in
theorem jmo_59 : jmOK 59 := ⟨List.mem_of_getElem? (i := 601) rfl, by decide +kernel⟩
theorem jal_60 : jall ⟨"FilterBench", "chain", "(II)I"⟩ prog_1_method_21_code jT_60 jH_60 = true := by decide +kernel
theorem jok_60 : jokM 60 = true := jal_60
set_option maxRecDepth 100000 in
theorem jmo_60 : jmOK 60 := ⟨List.mem_of_getElem? (i := 605) rfl, by decide +kernel⟩
theorem jal_61 : jall ⟨"FilterBench", "count", "(I)I"⟩ prog_1_method_22_code jT_61 jH_61 = true := by decide +kernel
theorem jok_61 : jokM 61 = true := jal_61
set_option maxRecDepth 100000 in
theorem jmo_61 : jmOK 61 := ⟨List.mem_of_getElem? (i := 609) rfl, by decide +kernel⟩
theorem jal_62 : jall ⟨"FilterBench", "feed", "(IJ)I"⟩ prog_1_method_24_code jT_62 jH_62 = true := by decide +kernel
theorem jok_62 : jokM 62 = true := jal_62
set_option maxRecDepth 100000 in
theorem jmo_62 : jmOK 62 := ⟨List.mem_of_getElem? (i := 613) rfl, by decide +kernel⟩
theorem jal_63 : jall ⟨"FilterBench", "fedAlone", "(I)LFilterBench$Chain;"⟩ prog_1_method_28_code jT_63 jH_63 = true := by decide +kernel
theorem jok_63 : jokM 63 = true := jal_63
set_option maxRecDepth 100000 in
theorem jmo_63 : jmOK 63 := ⟨List.mem_of_getElem? (i := 617) rfl, by decide +kernel⟩
theorem jal_64 : jall ⟨"FilterBench", "send", "(LFilterBench$Chain;IJI)I"⟩ prog_1_method_29_code jT_64 jH_64 = true := by decide +kernel
theorem jok_64 : jokM 64 = true := jal_64
set_option maxRecDepth 100000 in
theorem jmo_64 : jmOK 64 := ⟨List.mem_of_getElem? (i := 620) rfl, by decide +kernel⟩
theorem jal_65 : jall ⟨"FilterBench$Section", "letsThrough", "()Z"⟩ prog_9_method_9_code jT_65 jH_65 = true := by decide +kernel
theorem jok_65 : jokM 65 = true := jal_65
set_option maxRecDepth 100000 in
theorem jmo_65 : jmOK 65 := ⟨List.mem_of_getElem? (i := 625) rfl, by decide +kernel⟩
theorem jal_66 : jall ⟨"FilterBench$Row", "put", "(IJ)V"⟩ prog_8_method_5_code jT_66 jH_66 = true := by decide +kernel
theorem jok_66 : jokM 66 = true := jal_66
set_option maxRecDepth 100000 in
theorem jmo_66 : jmOK 66 := ⟨List.mem_of_getElem? (i := 630) rfl, by decide +kernel⟩
theorem jal_67 : jall ⟨"FilterBench$Chain", "looped", "(ILFilterBench$Section;J)J"⟩ prog_2_method_9_code jT_67 jH_67 = true := by decide +kernel
theorem jok_67 : jokM 67 = true := jal_67
set_option maxRecDepth 100000 in
theorem jmo_67 : jmOK 67 := ⟨List.mem_of_getElem? (i := 634) rfl, by decide +kernel⟩
theorem jal_68 : jall ⟨"FilterBench$Chain", "loopAt", "(I)LFilterBench$Loop;"⟩ prog_2_method_3_code jT_68 jH_68 = true := by decide +kernel
theorem jok_68 : jokM 68 = true := jal_68
set_option maxRecDepth 100000 in
theorem jmo_68 : jmOK 68 := ⟨List.mem_of_getElem? (i := 638) rfl, by decide +kernel⟩
theorem jal_69 : jall ⟨"FilterBench$Real", "product", "(JJ)J"⟩ prog_7_method_10_code jT_69 jH_69 = true := by decide +kernel
theorem jok_69 : jokM 69 = true := jal_69
set_option maxRecDepth 100000 in
theorem jmo_69 : jmOK 69 := ⟨List.mem_of_getElem? (i := 645) rfl, by decide +kernel⟩
theorem jal_70 : jall ⟨"FilterBench$Real", "highProduct", "(JJ)J"⟩ prog_7_method_11_code jT_70 jH_70 = true := by decide +kernel
theorem jok_70 : jokM 70 = true := jal_70
set_option maxRecDepth 100000 in
theorem jmo_70 : jmOK 70 := ⟨List.mem_of_getElem? (i := 648) rfl, by decide +kernel⟩
theorem jal_71 : jall ⟨"FilterBench$Shorts", "product", "(JJ)J"⟩ prog_10_method_4_code jT_71 jH_71 = true := by decide +kernel
theorem jok_71 : jokM 71 = true := jal_71
set_option maxRecDepth 100000 in
theorem jmo_71 : jmOK 71 := ⟨List.mem_of_getElem? (i := 653) rfl, by decide +kernel⟩
theorem jal_72 : jall ⟨"FilterBench$Real", "term", "(J)J"⟩ prog_7_method_4_code jT_72 jH_72 = true := by decide +kernel
theorem jok_72 : jokM 72 = true := jal_72
set_option maxRecDepth 100000 in
theorem jmo_72 : jmOK 72 := ⟨List.mem_of_getElem? (i := 659) rfl, by decide +kernel⟩
theorem jal_73 : jall ⟨"FilterBench$Shorts", "term", "(J)J"⟩ prog_10_method_5_code jT_73 jH_73 = true := by decide +kernel
theorem jok_73 : jokM 73 = true := jal_73
set_option maxRecDepth 100000 in
theorem jmo_73 : jmOK 73 := ⟨List.mem_of_getElem? (i := 662) rfl, by decide +kernel⟩
theorem jal_74 : jall ⟨"FilterBench$Real", "plus", "(JJ)J"⟩ prog_7_method_12_code jT_74 jH_74 = true := by decide +kernel
theorem jok_74 : jokM 74 = true := jal_74
set_option maxRecDepth 100000 in
theorem jmo_74 : jmOK 74 := ⟨List.mem_of_getElem? (i := 669) rfl, by decide +kernel⟩
theorem jal_75 : jall ⟨"FilterBench$Real", "withInfinity", "(JJ)J"⟩ prog_7_method_14_code jT_75 jH_75 = true := by decide +kernel
theorem jok_75 : jokM 75 = true := jal_75
set_option maxRecDepth 100000 in
theorem jmo_75 : jmOK 75 := ⟨List.mem_of_getElem? (i := 673) rfl, by decide +kernel⟩
theorem jal_76 : jall ⟨"FilterBench$Real", "added", "(ZJZJ)J"⟩ prog_7_method_15_code jT_76 jH_76 = true := by decide +kernel
theorem jok_76 : jokM 76 = true := jal_76
set_option maxRecDepth 100000 in
theorem jmo_76 : jmOK 76 := ⟨List.mem_of_getElem? (i := 677) rfl, by decide +kernel⟩
theorem jal_77 : jall ⟨"FilterBench$Real", "shifted", "(JI)J"⟩ prog_7_method_16_code jT_77 jH_77 = true := by decide +kernel
theorem jok_77 : jokM 77 = true := jal_77
set_option maxRecDepth 100000 in
theorem jmo_77 : jmOK 77 := ⟨List.mem_of_getElem? (i := 680) rfl, by decide +kernel⟩
theorem jal_78 : jall ⟨"FilterBench$Shorts", "plus", "(JJ)J"⟩ prog_10_method_6_code jT_78 jH_78 = true := by decide +kernel
theorem jok_78 : jokM 78 = true := jal_78
set_option maxRecDepth 100000 in
theorem jmo_78 : jmOK 78 := ⟨List.mem_of_getElem? (i := 683) rfl, by decide +kernel⟩
theorem jal_79 : jall ⟨"FilterBench$Section", "settled", "(J)J"⟩ prog_9_method_24_code jT_79 jH_79 = true := by decide +kernel
theorem jok_79 : jokM 79 = true := jal_79
set_option maxRecDepth 100000 in
theorem jmo_79 : jmOK 79 := ⟨List.mem_of_getElem? (i := 687) rfl, by decide +kernel⟩
theorem jal_80 : jall ⟨"FilterBench$Shorts", "rounded", "(JI)J"⟩ prog_10_method_17_code jT_80 jH_80 = true := by decide +kernel
theorem jok_80 : jokM 80 = true := jal_80
set_option maxRecDepth 100000 in
theorem jmo_80 : jmOK 80 := ⟨List.mem_of_getElem? (i := 690) rfl, by decide +kernel⟩
theorem jal_81 : jall ⟨"FilterBench$Shorts", "isShort", "(J)Z"⟩ prog_10_method_18_code jT_81 jH_81 = true := by decide +kernel
theorem jok_81 : jokM 81 = true := jal_81
set_option maxRecDepth 100000 in
theorem jmo_81 : jmOK 81 := ⟨List.mem_of_getElem? (i := 695) rfl, by decide +kernel⟩
theorem jal_82 : jall ⟨"FilterBench$Shorts", "limited", "(JI)J"⟩ prog_10_method_19_code jT_82 jH_82 = true := by decide +kernel
theorem jok_82 : jokM 82 = true := jal_82
set_option maxRecDepth 100000 in
theorem jmo_82 : jmOK 82 := ⟨List.mem_of_getElem? (i := 700) rfl, by decide +kernel⟩
theorem jal_83 : jall ⟨"FilterBench$Shorts", "cut", "(J)J"⟩ prog_10_method_16_code jT_83 jH_83 = true := by decide +kernel
theorem jok_83 : jokM 83 = true := jal_83
set_option maxRecDepth 100000 in
theorem jmo_83 : jmOK 83 := ⟨List.mem_of_getElem? (i := 703) rfl, by decide +kernel⟩
theorem jal_84 : jall ⟨"FilterBench$Chain", "madeLast", "()J"⟩ prog_2_method_13_code jT_84 jH_84 = true := by decide +kernel
theorem jok_84 : jokM 84 = true := jal_84
set_option maxRecDepth 100000 in
theorem jmo_84 : jmOK 84 := ⟨List.mem_of_getElem? (i := 707) rfl, by decide +kernel⟩
theorem jal_85 : jall ⟨"FilterBench$Chain", "madeBefore", "(I)J"⟩ prog_2_method_12_code jT_85 jH_85 = true := by decide +kernel
theorem jok_85 : jokM 85 = true := jal_85
set_option maxRecDepth 100000 in
theorem jmo_85 : jmOK 85 := ⟨List.mem_of_getElem? (i := 711) rfl, by decide +kernel⟩
theorem jal_86 : jall ⟨"FilterBench$Section", "step", "(JJ)J"⟩ prog_9_method_10_code jT_86 jH_86 = true := by decide +kernel
theorem jok_86 : jokM 86 = true := jal_86
set_option maxRecDepth 100000 in
theorem jmo_86 : jmOK 86 := ⟨List.mem_of_getElem? (i := 715) rfl, by decide +kernel⟩
theorem jal_87 : jall ⟨"FilterBench$Section", "times", "(IJ)J"⟩ prog_9_method_11_code jT_87 jH_87 = true := by decide +kernel
theorem jok_87 : jokM 87 = true := jal_87
set_option maxRecDepth 100000 in
theorem jmo_87 : jmOK 87 := ⟨List.mem_of_getElem? (i := 719) rfl, by decide +kernel⟩
theorem jal_88 : jall ⟨"FilterBench$Section", "pole", "(J)J"⟩ prog_9_method_13_code jT_88 jH_88 = true := by decide +kernel
theorem jok_88 : jokM 88 = true := jal_88
set_option maxRecDepth 100000 in
theorem jmo_88 : jmOK 88 := ⟨List.mem_of_getElem? (i := 726) rfl, by decide +kernel⟩
theorem jal_89 : jall ⟨"FilterBench$Section", "direct", "(J)J"⟩ prog_9_method_14_code jT_89 jH_89 = true := by decide +kernel
theorem jok_89 : jokM 89 = true := jal_89
set_option maxRecDepth 100000 in
theorem jmo_89 : jmOK 89 := ⟨List.mem_of_getElem? (i := 731) rfl, by decide +kernel⟩
theorem jal_90 : jall ⟨"FilterBench$Section", "lessTimes", "(IJ)J"⟩ prog_9_method_12_code jT_90 jH_90 = true := by decide +kernel
theorem jok_90 : jokM 90 = true := jal_90
set_option maxRecDepth 100000 in
theorem jmo_90 : jmOK 90 := ⟨List.mem_of_getElem? (i := 735) rfl, by decide +kernel⟩
theorem jal_91 : jall ⟨"FilterBench$Real", "opposite", "(J)J"⟩ prog_7_method_13_code jT_91 jH_91 = true := by decide +kernel
theorem jok_91 : jokM 91 = true := jal_91
set_option maxRecDepth 100000 in
theorem jmo_91 : jmOK 91 := ⟨List.mem_of_getElem? (i := 741) rfl, by decide +kernel⟩
theorem jal_92 : jall ⟨"FilterBench$Real", "negative", "(J)J"⟩ prog_7_method_6_code jT_92 jH_92 = true := by decide +kernel
theorem jok_92 : jokM 92 = true := jal_92
set_option maxRecDepth 100000 in
theorem jmo_92 : jmOK 92 := ⟨List.mem_of_getElem? (i := 745) rfl, by decide +kernel⟩
theorem jal_93 : jall ⟨"FilterBench$Shorts", "opposite", "(J)J"⟩ prog_10_method_7_code jT_93 jH_93 = true := by decide +kernel
theorem jok_93 : jokM 93 = true := jal_93
set_option maxRecDepth 100000 in
theorem jmo_93 : jmOK 93 := ⟨List.mem_of_getElem? (i := 748) rfl, by decide +kernel⟩
theorem jal_94 : jall ⟨"FilterBench$Section", "second", "(J)J"⟩ prog_9_method_15_code jT_94 jH_94 = true := by decide +kernel
theorem jok_94 : jokM 94 = true := jal_94
set_option maxRecDepth 100000 in
theorem jmo_94 : jmOK 94 := ⟨List.mem_of_getElem? (i := 752) rfl, by decide +kernel⟩
theorem jal_95 : jall ⟨"FilterBench$Section", "turned", "(J)J"⟩ prog_9_method_16_code jT_95 jH_95 = true := by decide +kernel
theorem jok_95 : jokM 95 = true := jal_95
set_option maxRecDepth 100000 in
theorem jmo_95 : jmOK 95 := ⟨List.mem_of_getElem? (i := 757) rfl, by decide +kernel⟩
theorem jal_96 : jall ⟨"FilterBench$Section", "pass", "(J)J"⟩ prog_9_method_17_code jT_96 jH_96 = true := by decide +kernel
theorem jok_96 : jokM 96 = true := jal_96
set_option maxRecDepth 100000 in
theorem jmo_96 : jmOK 96 := ⟨List.mem_of_getElem? (i := 761) rfl, by decide +kernel⟩
theorem jal_97 : jall ⟨"FilterBench$Section", "delayed", "(J)J"⟩ prog_9_method_18_code jT_97 jH_97 = true := by decide +kernel
theorem jok_97 : jokM 97 = true := jal_97
set_option maxRecDepth 100000 in
theorem jmo_97 : jmOK 97 := ⟨List.mem_of_getElem? (i := 765) rfl, by decide +kernel⟩
theorem jal_98 : jall ⟨"FilterBench$Row", "push", "(J)V"⟩ prog_8_method_6_code jT_98 jH_98 = true := by decide +kernel
theorem jok_98 : jokM 98 = true := jal_98
set_option maxRecDepth 100000 in
theorem jmo_98 : jmOK 98 := ⟨List.mem_of_getElem? (i := 769) rfl, by decide +kernel⟩
theorem jal_99 : jall ⟨"FilterBench$Section", "mean", "(J)J"⟩ prog_9_method_19_code jT_99 jH_99 = true := by decide +kernel
theorem jok_99 : jokM 99 = true := jal_99
set_option maxRecDepth 100000 in
theorem jmo_99 : jmOK 99 := ⟨List.mem_of_getElem? (i := 774) rfl, by decide +kernel⟩
