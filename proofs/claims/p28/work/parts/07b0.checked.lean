/-! the checks, method by method (printed by wip/p28/gen2.py) -/
theorem jal_0 : jall ⟨"FilterBench", "<init>", "()V"⟩ prog_1_method_1_code jT_0 jH_0 = true := by decide +kernel
theorem jok_0 : jokM 0 = true := jal_0
set_option maxRecDepth 100000 in
theorem jmo_0 : jmOK 0 := ⟨List.mem_of_getElem? (i := 53) rfl, by decide +kernel⟩
theorem jal_1 : jall ⟨"FilterBench$Real", "<init>", "(II)V"⟩ prog_7_method_1_code jT_1 jH_1 = true := by decide +kernel
theorem jok_1 : jokM 1 = true := jal_1
set_option maxRecDepth 100000 in
theorem jmo_1 : jmOK 1 := ⟨List.mem_of_getElem? (i := 61) rfl, by decide +kernel⟩
theorem jal_2 : jall ⟨"FilterBench$Numbers", "<init>", "()V"⟩ prog_6_method_1_code jT_2 jH_2 = true := by decide +kernel
theorem jok_2 : jokM 2 = true := jal_2
set_option maxRecDepth 100000 in
theorem jmo_2 : jmOK 2 := ⟨List.mem_of_getElem? (i := 64) rfl, by decide +kernel⟩
theorem jal_3 : jall ⟨"FilterBench$Shorts", "<init>", "()V"⟩ prog_10_method_1_code jT_3 jH_3 = true := by decide +kernel
theorem jok_3 : jokM 3 = true := jal_3
set_option maxRecDepth 100000 in
theorem jmo_3 : jmOK 3 := ⟨List.mem_of_getElem? (i := 93) rfl, by decide +kernel⟩
theorem jal_4 : jall ⟨"FilterBench$DeadCycles", "<init>", "()V"⟩ prog_3_method_1_code jT_4 jH_4 = true := by decide +kernel
theorem jok_4 : jokM 4 = true := jal_4
set_option maxRecDepth 100000 in
theorem jmo_4 : jmOK 4 := ⟨List.mem_of_getElem? (i := 106) rfl, by decide +kernel⟩
theorem jal_5 : jall ⟨"FilterBench", "section", "(III)I"⟩ prog_1_method_2_code jT_5 jH_5 = true := by decide +kernel
theorem jok_5 : jokM 5 = true := jal_5
set_option maxRecDepth 100000 in
theorem jmo_5 : jmOK 5 := ⟨List.mem_of_getElem? (i := 160) rfl, by decide +kernel⟩
theorem jal_6 : jall ⟨"FilterBench", "numbersOf", "(I)LFilterBench$Numbers;"⟩ prog_1_method_11_code jT_6 jH_6 = true := by decide +kernel
theorem jok_6 : jokM 6 = true := jal_6
set_option maxRecDepth 100000 in
theorem jmo_6 : jmOK 6 := ⟨List.mem_of_getElem? (i := 164) rfl, by decide +kernel⟩
theorem jal_7 : jall ⟨"FilterBench", "isKind", "(I)Z"⟩ prog_1_method_9_code jT_7 jH_7 = true := by decide +kernel
theorem jok_7 : jokM 7 = true := jal_7
set_option maxRecDepth 100000 in
theorem jmo_7 : jmOK 7 := ⟨List.mem_of_getElem? (i := 167) rfl, by decide +kernel⟩
theorem jal_8 : jall ⟨"FilterBench", "fitsKind", "(II)Z"⟩ prog_1_method_10_code jT_8 jH_8 = true := by decide +kernel
theorem jok_8 : jokM 8 = true := jal_8
set_option maxRecDepth 100000 in
theorem jmo_8 : jmOK 8 := ⟨List.mem_of_getElem? (i := 172) rfl, by decide +kernel⟩
theorem jal_9 : jall ⟨"FilterBench", "newSection", "(IIILFilterBench$Numbers;)LFilterBench$Section;"⟩ prog_1_method_12_code jT_9 jH_9 = true := by decide +kernel
theorem jok_9 : jokM 9 = true := jal_9
set_option maxRecDepth 100000 in
theorem jmo_9 : jmOK 9 := ⟨List.mem_of_getElem? (i := 180) rfl, by decide +kernel⟩
theorem jal_10 : jall ⟨"FilterBench$Section", "<init>", "(IIIILFilterBench$Numbers;)V"⟩ prog_9_method_1_code jT_10 jH_10 = true := by decide +kernel
theorem jok_10 : jokM 10 = true := jal_10
set_option maxRecDepth 100000 in
theorem jmo_10 : jmOK 10 := ⟨List.mem_of_getElem? (i := 184) rfl, by decide +kernel⟩
theorem jal_11 : jall ⟨"FilterBench$Row", "<init>", "(I)V"⟩ prog_8_method_1_code jT_11 jH_11 = true := by decide +kernel
theorem jok_11 : jokM 11 = true := jal_11
set_option maxRecDepth 100000 in
theorem jmo_11 : jmOK 11 := ⟨List.mem_of_getElem? (i := 190) rfl, by decide +kernel⟩
theorem jal_12 : jall ⟨"FilterBench", "coefficient", "(IIJ)Z"⟩ prog_1_method_3_code jT_12 jH_12 = true := by decide +kernel
theorem jok_12 : jokM 12 = true := jal_12
set_option maxRecDepth 100000 in
theorem jmo_12 : jmOK 12 := ⟨List.mem_of_getElem? (i := 270) rfl, by decide +kernel⟩
theorem jal_13 : jall ⟨"FilterBench", "sectionAt", "(I)LFilterBench$Section;"⟩ prog_1_method_13_code jT_13 jH_13 = true := by decide +kernel
theorem jok_13 : jokM 13 = true := jal_13
set_option maxRecDepth 100000 in
theorem jmo_13 : jmOK 13 := ⟨List.mem_of_getElem? (i := 274) rfl, by decide +kernel⟩
theorem jal_14 : jall ⟨"FilterBench$Section", "hasFactor", "(I)Z"⟩ prog_9_method_3_code jT_14 jH_14 = true := by decide +kernel
theorem jok_14 : jokM 14 = true := jal_14
set_option maxRecDepth 100000 in
theorem jmo_14 : jmOK 14 := ⟨List.mem_of_getElem? (i := 278) rfl, by decide +kernel⟩
theorem jal_15 : jall ⟨"FilterBench$Real", "holds", "(J)Z"⟩ prog_7_method_2_code jT_15 jH_15 = true := by decide +kernel
theorem jok_15 : jokM 15 = true := jal_15
set_option maxRecDepth 100000 in
theorem jmo_15 : jmOK 15 := ⟨List.mem_of_getElem? (i := 284) rfl, by decide +kernel⟩
theorem jal_16 : jall ⟨"FilterBench$Shorts", "holds", "(J)Z"⟩ prog_10_method_2_code jT_16 jH_16 = true := by decide +kernel
theorem jok_16 : jokM 16 = true := jal_16
set_option maxRecDepth 100000 in
theorem jmo_16 : jmOK 16 := ⟨List.mem_of_getElem? (i := 287) rfl, by decide +kernel⟩
theorem jal_17 : jall ⟨"FilterBench$Real", "clean", "(J)J"⟩ prog_7_method_3_code jT_17 jH_17 = true := by decide +kernel
theorem jok_17 : jokM 17 = true := jal_17
set_option maxRecDepth 100000 in
theorem jmo_17 : jmOK 17 := ⟨List.mem_of_getElem? (i := 293) rfl, by decide +kernel⟩
theorem jal_18 : jall ⟨"FilterBench$Real", "isNumber", "(J)Z"⟩ prog_7_method_7_code jT_18 jH_18 = true := by decide +kernel
theorem jok_18 : jokM 18 = true := jal_18
set_option maxRecDepth 100000 in
theorem jmo_18 : jmOK 18 := ⟨List.mem_of_getElem? (i := 297) rfl, by decide +kernel⟩
theorem jal_19 : jall ⟨"FilterBench$Shorts", "clean", "(J)J"⟩ prog_10_method_3_code jT_19 jH_19 = true := by decide +kernel
theorem jok_19 : jokM 19 = true := jal_19
set_option maxRecDepth 100000 in
theorem jmo_19 : jmOK 19 := ⟨List.mem_of_getElem? (i := 300) rfl, by decide +kernel⟩
theorem jal_20 : jall ⟨"FilterBench$Section", "setFactor", "(IJ)V"⟩ prog_9_method_5_code jT_20 jH_20 = true := by decide +kernel
theorem jok_20 : jokM 20 = true := jal_20
set_option maxRecDepth 100000 in
theorem jmo_20 : jmOK 20 := ⟨List.mem_of_getElem? (i := 304) rfl, by decide +kernel⟩
theorem jal_21 : jall ⟨"FilterBench", "rule", "(III)Z"⟩ prog_1_method_5_code jT_21 jH_21 = true := by decide +kernel
theorem jok_21 : jokM 21 = true := jal_21
set_option maxRecDepth 100000 in
theorem jmo_21 : jmOK 21 := ⟨List.mem_of_getElem? (i := 308) rfl, by decide +kernel⟩
theorem jal_22 : jall ⟨"FilterBench", "state", "(II)J"⟩ prog_1_method_6_code jT_22 jH_22 = true := by decide +kernel
theorem jok_22 : jokM 22 = true := jal_22
set_option maxRecDepth 100000 in
theorem jmo_22 : jmOK 22 := ⟨List.mem_of_getElem? (i := 312) rfl, by decide +kernel⟩
theorem jal_23 : jall ⟨"FilterBench$Row", "at", "(I)J"⟩ prog_8_method_4_code jT_23 jH_23 = true := by decide +kernel
theorem jok_23 : jokM 23 = true := jal_23
set_option maxRecDepth 100000 in
theorem jmo_23 : jmOK 23 := ⟨List.mem_of_getElem? (i := 316) rfl, by decide +kernel⟩
theorem jal_24 : jall ⟨"FilterBench$Row", "index", "(I)I"⟩ prog_8_method_3_code jT_24 jH_24 = true := by decide +kernel
theorem jok_24 : jokM 24 = true := jal_24
set_option maxRecDepth 100000 in
theorem jmo_24 : jmOK 24 := ⟨List.mem_of_getElem? (i := 320) rfl, by decide +kernel⟩
theorem jal_25 : jall ⟨"FilterBench", "about", "(II)I"⟩ prog_1_method_7_code jT_25 jH_25 = true := by decide +kernel
theorem jok_25 : jokM 25 = true := jal_25
set_option maxRecDepth 100000 in
theorem jmo_25 : jmOK 25 := ⟨List.mem_of_getElem? (i := 324) rfl, by decide +kernel⟩
theorem jal_26 : jall ⟨"FilterBench", "numberOf", "(LFilterBench$Chain;)I"⟩ prog_1_method_16_code jT_26 jH_26 = true := by decide +kernel
theorem jok_26 : jokM 26 = true := jal_26
set_option maxRecDepth 100000 in
theorem jmo_26 : jmOK 26 := ⟨List.mem_of_getElem? (i := 327) rfl, by decide +kernel⟩
theorem jal_27 : jall ⟨"FilterBench", "told", "(II)J"⟩ prog_1_method_8_code jT_27 jH_27 = true := by decide +kernel
theorem jok_27 : jokM 27 = true := jal_27
set_option maxRecDepth 100000 in
theorem jmo_27 : jmOK 27 := ⟨List.mem_of_getElem? (i := 331) rfl, by decide +kernel⟩
theorem jal_28 : jall ⟨"FilterBench$Section", "factor", "(I)J"⟩ prog_9_method_4_code jT_28 jH_28 = true := by decide +kernel
theorem jok_28 : jokM 28 = true := jal_28
set_option maxRecDepth 100000 in
theorem jmo_28 : jmOK 28 := ⟨List.mem_of_getElem? (i := 335) rfl, by decide +kernel⟩
theorem jal_29 : jall ⟨"FilterBench", "chain", "()I"⟩ prog_1_method_17_code jT_29 jH_29 = true := by decide +kernel
theorem jok_29 : jokM 29 = true := jal_29
set_option maxRecDepth 100000 in
theorem jmo_29 : jmOK 29 := ⟨List.mem_of_getElem? (i := 339) rfl, by decide +kernel⟩
theorem jal_30 : jall ⟨"FilterBench$Chain", "<init>", "()V"⟩ prog_2_method_1_code jT_30 jH_30 = true := by decide +kernel
theorem jok_30 : jokM 30 = true := jal_30
set_option maxRecDepth 100000 in
theorem jmo_30 : jmOK 30 := ⟨List.mem_of_getElem? (i := 343) rfl, by decide +kernel⟩
theorem jal_31 : jall ⟨"FilterBench", "registered", "(LFilterBench$Chain;)I"⟩ prog_1_method_23_code jT_31 jH_31 = true := by decide +kernel
theorem jok_31 : jokM 31 = true := jal_31
set_option maxRecDepth 100000 in
theorem jmo_31 : jmOK 31 := ⟨List.mem_of_getElem? (i := 389) rfl, by decide +kernel⟩
theorem jal_32 : jall ⟨"FilterBench", "add", "(II)I"⟩ prog_1_method_18_code jT_32 jH_32 = true := by decide +kernel
theorem jok_32 : jokM 32 = true := jal_32
set_option maxRecDepth 100000 in
theorem jmo_32 : jmOK 32 := ⟨List.mem_of_getElem? (i := 393) rfl, by decide +kernel⟩
theorem jal_33 : jall ⟨"FilterBench", "chainAt", "(I)LFilterBench$Chain;"⟩ prog_1_method_14_code jT_33 jH_33 = true := by decide +kernel
theorem jok_33 : jokM 33 = true := jal_33
set_option maxRecDepth 100000 in
theorem jmo_33 : jmOK 33 := ⟨List.mem_of_getElem? (i := 397) rfl, by decide +kernel⟩
theorem jal_34 : jall ⟨"FilterBench$Chain", "sort", "()I"⟩ prog_2_method_4_code jT_34 jH_34 = true := by decide +kernel
theorem jok_34 : jokM 34 = true := jal_34
set_option maxRecDepth 100000 in
theorem jmo_34 : jmOK 34 := ⟨List.mem_of_getElem? (i := 401) rfl, by decide +kernel⟩
theorem jal_35 : jall ⟨"FilterBench$Chain", "memberAt", "(I)LFilterBench$Section;"⟩ prog_2_method_2_code jT_35 jH_35 = true := by decide +kernel
theorem jok_35 : jokM 35 = true := jal_35
set_option maxRecDepth 100000 in
theorem jmo_35 : jmOK 35 := ⟨List.mem_of_getElem? (i := 405) rfl, by decide +kernel⟩
theorem jal_36 : jall ⟨"FilterBench$Section", "spreads", "()Z"⟩ prog_9_method_7_code jT_36 jH_36 = true := by decide +kernel
theorem jok_36 : jokM 36 = true := jal_36
set_option maxRecDepth 100000 in
theorem jmo_36 : jmOK 36 := ⟨List.mem_of_getElem? (i := 409) rfl, by decide +kernel⟩
theorem jal_37 : jall ⟨"FilterBench$Chain", "spreaders", "()I"⟩ prog_2_method_7_code jT_37 jH_37 = true := by decide +kernel
theorem jok_37 : jokM 37 = true := jal_37
set_option maxRecDepth 100000 in
theorem jmo_37 : jmOK 37 := ⟨List.mem_of_getElem? (i := 413) rfl, by decide +kernel⟩
theorem jal_38 : jall ⟨"FilterBench$Chain", "join", "(LFilterBench$Section;)V"⟩ prog_2_method_5_code jT_38 jH_38 = true := by decide +kernel
theorem jok_38 : jokM 38 = true := jal_38
set_option maxRecDepth 100000 in
theorem jmo_38 : jmOK 38 := ⟨List.mem_of_getElem? (i := 418) rfl, by decide +kernel⟩
theorem jal_39 : jall ⟨"FilterBench", "loop", "(IIIIJ)I"⟩ prog_1_method_19_code jT_39 jH_39 = true := by decide +kernel
theorem jok_39 : jokM 39 = true := jal_39
set_option maxRecDepth 100000 in
theorem jmo_39 : jmOK 39 := ⟨List.mem_of_getElem? (i := 422) rfl, by decide +kernel⟩
theorem jal_40 : jall ⟨"FilterBench$Chain", "changesRate", "(II)Z"⟩ prog_2_method_8_code jT_40 jH_40 = true := by decide +kernel
theorem jok_40 : jokM 40 = true := jal_40
set_option maxRecDepth 100000 in
theorem jmo_40 : jmOK 40 := ⟨List.mem_of_getElem? (i := 426) rfl, by decide +kernel⟩
theorem jal_41 : jall ⟨"FilterBench$Section", "changesRate", "()Z"⟩ prog_9_method_8_code jT_41 jH_41 = true := by decide +kernel
theorem jok_41 : jokM 41 = true := jal_41
set_option maxRecDepth 100000 in
theorem jmo_41 : jmOK 41 := ⟨List.mem_of_getElem? (i := 430) rfl, by decide +kernel⟩
theorem jal_42 : jall ⟨"FilterBench$Loop", "<init>", "(IIIJ)V"⟩ prog_5_method_1_code jT_42 jH_42 = true := by decide +kernel
theorem jok_42 : jokM 42 = true := jal_42
set_option maxRecDepth 100000 in
theorem jmo_42 : jmOK 42 := ⟨List.mem_of_getElem? (i := 436) rfl, by decide +kernel⟩
theorem jal_43 : jall ⟨"FilterBench$Chain", "tie", "(LFilterBench$Loop;)V"⟩ prog_2_method_6_code jT_43 jH_43 = true := by decide +kernel
theorem jok_43 : jokM 43 = true := jal_43
set_option maxRecDepth 100000 in
theorem jmo_43 : jmOK 43 := ⟨List.mem_of_getElem? (i := 464) rfl, by decide +kernel⟩
theorem jal_44 : jall ⟨"FilterBench", "chain", "(II)I"⟩ prog_1_method_21_code jT_44 jH_44 = true := by decide +kernel
theorem jok_44 : jokM 44 = true := jal_44
set_option maxRecDepth 100000 in
theorem jmo_44 : jmOK 44 := ⟨List.mem_of_getElem? (i := 468) rfl, by decide +kernel⟩
theorem jal_45 : jall ⟨"FilterBench", "count", "(I)I"⟩ prog_1_method_22_code jT_45 jH_45 = true := by decide +kernel
theorem jok_45 : jokM 45 = true := jal_45
set_option maxRecDepth 100000 in
theorem jmo_45 : jmOK 45 := ⟨List.mem_of_getElem? (i := 472) rfl, by decide +kernel⟩
theorem jal_46 : jall ⟨"FilterBench", "feed", "(IJ)I"⟩ prog_1_method_24_code jT_46 jH_46 = true := by decide +kernel
theorem jok_46 : jokM 46 = true := jal_46
set_option maxRecDepth 100000 in
theorem jmo_46 : jmOK 46 := ⟨List.mem_of_getElem? (i := 476) rfl, by decide +kernel⟩
theorem jal_47 : jall ⟨"FilterBench", "fedAlone", "(I)LFilterBench$Chain;"⟩ prog_1_method_28_code jT_47 jH_47 = true := by decide +kernel
theorem jok_47 : jokM 47 = true := jal_47
set_option maxRecDepth 100000 in
theorem jmo_47 : jmOK 47 := ⟨List.mem_of_getElem? (i := 480) rfl, by decide +kernel⟩
theorem jal_48 : jall ⟨"FilterBench", "send", "(LFilterBench$Chain;IJI)I"⟩ prog_1_method_29_code jT_48 jH_48 = true := by decide +kernel
theorem jok_48 : jokM 48 = true := jal_48
set_option maxRecDepth 100000 in
theorem jmo_48 : jmOK 48 := ⟨List.mem_of_getElem? (i := 483) rfl, by decide +kernel⟩
theorem jal_49 : jall ⟨"FilterBench$Section", "letsThrough", "()Z"⟩ prog_9_method_9_code jT_49 jH_49 = true := by decide +kernel
theorem jok_49 : jokM 49 = true := jal_49
set_option maxRecDepth 100000 in
theorem jmo_49 : jmOK 49 := ⟨List.mem_of_getElem? (i := 488) rfl, by decide +kernel⟩
theorem jal_50 : jall ⟨"FilterBench$Row", "put", "(IJ)V"⟩ prog_8_method_5_code jT_50 jH_50 = true := by decide +kernel
theorem jok_50 : jokM 50 = true := jal_50
set_option maxRecDepth 100000 in
theorem jmo_50 : jmOK 50 := ⟨List.mem_of_getElem? (i := 493) rfl, by decide +kernel⟩
theorem jal_51 : jall ⟨"FilterBench$Chain", "looped", "(ILFilterBench$Section;J)J"⟩ prog_2_method_9_code jT_51 jH_51 = true := by decide +kernel
theorem jok_51 : jokM 51 = true := jal_51
set_option maxRecDepth 100000 in
theorem jmo_51 : jmOK 51 := ⟨List.mem_of_getElem? (i := 497) rfl, by decide +kernel⟩
theorem jal_52 : jall ⟨"FilterBench$Chain", "loopAt", "(I)LFilterBench$Loop;"⟩ prog_2_method_3_code jT_52 jH_52 = true := by decide +kernel
theorem jok_52 : jokM 52 = true := jal_52
set_option maxRecDepth 100000 in
theorem jmo_52 : jmOK 52 := ⟨List.mem_of_getElem? (i := 501) rfl, by decide +kernel⟩
theorem jal_53 : jall ⟨"FilterBench$Real", "product", "(JJ)J"⟩ prog_7_method_10_code jT_53 jH_53 = true := by decide +kernel
theorem jok_53 : jokM 53 = true := jal_53
set_option maxRecDepth 100000 in
theorem jmo_53 : jmOK 53 := ⟨List.mem_of_getElem? (i := 508) rfl, by decide +kernel⟩
theorem jal_54 : jall ⟨"FilterBench$Real", "sizeOf", "(J)J"⟩ prog_7_method_5_code jT_54 jH_54 = true := by decide +kernel
theorem jok_54 : jokM 54 = true := jal_54
set_option maxRecDepth 100000 in
theorem jmo_54 : jmOK 54 := ⟨List.mem_of_getElem? (i := 512) rfl, by decide +kernel⟩
theorem jal_55 : jall ⟨"FilterBench$Real", "signed", "(ZJ)J"⟩ prog_7_method_17_code jT_55 jH_55 = true := by decide +kernel
theorem jok_55 : jokM 55 = true := jal_55
set_option maxRecDepth 100000 in
theorem jmo_55 : jmOK 55 := ⟨List.mem_of_getElem? (i := 516) rfl, by decide +kernel⟩
theorem jal_56 : jall ⟨"FilterBench$Real", "mantissa", "(J)J"⟩ prog_7_method_18_code jT_56 jH_56 = true := by decide +kernel
theorem jok_56 : jokM 56 = true := jal_56
set_option maxRecDepth 100000 in
theorem jmo_56 : jmOK 56 := ⟨List.mem_of_getElem? (i := 520) rfl, by decide +kernel⟩
theorem jal_57 : jall ⟨"FilterBench$Real", "lead", "(J)I"⟩ prog_7_method_20_code jT_57 jH_57 = true := by decide +kernel
theorem jok_57 : jokM 57 = true := jal_57
set_option maxRecDepth 100000 in
theorem jmo_57 : jmOK 57 := ⟨List.mem_of_getElem? (i := 523) rfl, by decide +kernel⟩
theorem jal_58 : jall ⟨"FilterBench$Real", "exponent", "(J)I"⟩ prog_7_method_19_code jT_58 jH_58 = true := by decide +kernel
theorem jok_58 : jokM 58 = true := jal_58
set_option maxRecDepth 100000 in
theorem jmo_58 : jmOK 58 := ⟨List.mem_of_getElem? (i := 527) rfl, by decide +kernel⟩
theorem jal_59 : jall ⟨"FilterBench$Real", "highProduct", "(JJ)J"⟩ prog_7_method_11_code jT_59 jH_59 = true := by decide +kernel
theorem jok_59 : jokM 59 = true := jal_59
set_option maxRecDepth 100000 in
theorem jmo_59 : jmOK 59 := ⟨List.mem_of_getElem? (i := 530) rfl, by decide +kernel⟩
