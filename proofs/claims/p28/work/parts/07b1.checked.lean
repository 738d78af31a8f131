/-! the checks, method by method (printed by wip/p28/gen2.py) -/
theorem jal_60 : jall ⟨"FilterBench$Real", "packed", "(ZIJ)J"⟩ prog_7_method_21_code jT_60 jH_60 = true := by decide +kernel
theorem jok_60 : jokM 60 = true := jal_60
set_option maxRecDepth 100000 in
theorem jmo_60 : jmOK 60 := ⟨List.mem_of_getElem? (i := 536) rfl, by decide +kernel⟩
theorem jal_61 : jall ⟨"FilterBench$Numbers", "halfEven", "(JI)J"⟩ prog_6_method_17_code jT_61 jH_61 = true := by decide +kernel
theorem jok_61 : jokM 61 = true := jal_61
set_option maxRecDepth 100000 in
theorem jmo_61 : jmOK 61 := ⟨List.mem_of_getElem? (i := 540) rfl, by decide +kernel⟩
theorem jal_62 : jall ⟨"FilterBench$Shorts", "product", "(JJ)J"⟩ prog_10_method_4_code jT_62 jH_62 = true := by decide +kernel
theorem jok_62 : jokM 62 = true := jal_62
set_option maxRecDepth 100000 in
theorem jmo_62 : jmOK 62 := ⟨List.mem_of_getElem? (i := 543) rfl, by decide +kernel⟩
theorem jal_63 : jall ⟨"FilterBench$Real", "term", "(J)J"⟩ prog_7_method_4_code jT_63 jH_63 = true := by decide +kernel
theorem jok_63 : jokM 63 = true := jal_63
set_option maxRecDepth 100000 in
theorem jmo_63 : jmOK 63 := ⟨List.mem_of_getElem? (i := 549) rfl, by decide +kernel⟩
theorem jal_64 : jall ⟨"FilterBench$Shorts", "term", "(J)J"⟩ prog_10_method_5_code jT_64 jH_64 = true := by decide +kernel
theorem jok_64 : jokM 64 = true := jal_64
set_option maxRecDepth 100000 in
theorem jmo_64 : jmOK 64 := ⟨List.mem_of_getElem? (i := 552) rfl, by decide +kernel⟩
theorem jal_65 : jall ⟨"FilterBench$Real", "plus", "(JJ)J"⟩ prog_7_method_12_code jT_65 jH_65 = true := by decide +kernel
theorem jok_65 : jokM 65 = true := jal_65
set_option maxRecDepth 100000 in
theorem jmo_65 : jmOK 65 := ⟨List.mem_of_getElem? (i := 559) rfl, by decide +kernel⟩
theorem jal_66 : jall ⟨"FilterBench$Real", "withInfinity", "(JJ)J"⟩ prog_7_method_14_code jT_66 jH_66 = true := by decide +kernel
theorem jok_66 : jokM 66 = true := jal_66
set_option maxRecDepth 100000 in
theorem jmo_66 : jmOK 66 := ⟨List.mem_of_getElem? (i := 563) rfl, by decide +kernel⟩
theorem jal_67 : jall ⟨"FilterBench$Real", "added", "(ZJZJ)J"⟩ prog_7_method_15_code jT_67 jH_67 = true := by decide +kernel
theorem jok_67 : jokM 67 = true := jal_67
set_option maxRecDepth 100000 in
theorem jmo_67 : jmOK 67 := ⟨List.mem_of_getElem? (i := 567) rfl, by decide +kernel⟩
theorem jal_68 : jall ⟨"FilterBench$Real", "shifted", "(JI)J"⟩ prog_7_method_16_code jT_68 jH_68 = true := by decide +kernel
theorem jok_68 : jokM 68 = true := jal_68
set_option maxRecDepth 100000 in
theorem jmo_68 : jmOK 68 := ⟨List.mem_of_getElem? (i := 570) rfl, by decide +kernel⟩
theorem jal_69 : jall ⟨"FilterBench$Shorts", "plus", "(JJ)J"⟩ prog_10_method_6_code jT_69 jH_69 = true := by decide +kernel
theorem jok_69 : jokM 69 = true := jal_69
set_option maxRecDepth 100000 in
theorem jmo_69 : jmOK 69 := ⟨List.mem_of_getElem? (i := 573) rfl, by decide +kernel⟩
theorem jal_70 : jall ⟨"FilterBench$Section", "settled", "(J)J"⟩ prog_9_method_24_code jT_70 jH_70 = true := by decide +kernel
theorem jok_70 : jokM 70 = true := jal_70
set_option maxRecDepth 100000 in
theorem jmo_70 : jmOK 70 := ⟨List.mem_of_getElem? (i := 577) rfl, by decide +kernel⟩
theorem jal_71 : jall ⟨"FilterBench$Shorts", "rounded", "(JI)J"⟩ prog_10_method_17_code jT_71 jH_71 = true := by decide +kernel
theorem jok_71 : jokM 71 = true := jal_71
set_option maxRecDepth 100000 in
theorem jmo_71 : jmOK 71 := ⟨List.mem_of_getElem? (i := 580) rfl, by decide +kernel⟩
theorem jal_72 : jall ⟨"FilterBench$Shorts", "isShort", "(J)Z"⟩ prog_10_method_18_code jT_72 jH_72 = true := by decide +kernel
theorem jok_72 : jokM 72 = true := jal_72
set_option maxRecDepth 100000 in
theorem jmo_72 : jmOK 72 := ⟨List.mem_of_getElem? (i := 585) rfl, by decide +kernel⟩
theorem jal_73 : jall ⟨"FilterBench$Shorts", "limited", "(JI)J"⟩ prog_10_method_19_code jT_73 jH_73 = true := by decide +kernel
theorem jok_73 : jokM 73 = true := jal_73
set_option maxRecDepth 100000 in
theorem jmo_73 : jmOK 73 := ⟨List.mem_of_getElem? (i := 590) rfl, by decide +kernel⟩
theorem jal_74 : jall ⟨"FilterBench$Shorts", "cut", "(J)J"⟩ prog_10_method_16_code jT_74 jH_74 = true := by decide +kernel
theorem jok_74 : jokM 74 = true := jal_74
set_option maxRecDepth 100000 in
theorem jmo_74 : jmOK 74 := ⟨List.mem_of_getElem? (i := 593) rfl, by decide +kernel⟩
theorem jal_75 : jall ⟨"FilterBench$Chain", "madeLast", "()J"⟩ prog_2_method_13_code jT_75 jH_75 = true := by decide +kernel
theorem jok_75 : jokM 75 = true := jal_75
set_option maxRecDepth 100000 in
theorem jmo_75 : jmOK 75 := ⟨List.mem_of_getElem? (i := 597) rfl, by decide +kernel⟩
theorem jal_76 : jall ⟨"FilterBench$Chain", "madeBefore", "(I)J"⟩ prog_2_method_12_code jT_76 jH_76 = true := by decide +kernel
theorem jok_76 : jokM 76 = true := jal_76
set_option maxRecDepth 100000 in
theorem jmo_76 : jmOK 76 := ⟨List.mem_of_getElem? (i := 601) rfl, by decide +kernel⟩
theorem jal_77 : jall ⟨"FilterBench$Section", "step", "(JJ)J"⟩ prog_9_method_10_code jT_77 jH_77 = true := by decide +kernel
theorem jok_77 : jokM 77 = true := jal_77
set_option maxRecDepth 100000 in
theorem jmo_77 : jmOK 77 := ⟨List.mem_of_getElem? (i := 605) rfl, by decide +kernel⟩
theorem jal_78 : jall ⟨"FilterBench$Section", "times", "(IJ)J"⟩ prog_9_method_11_code jT_78 jH_78 = true := by decide +kernel
theorem jok_78 : jokM 78 = true := jal_78
set_option maxRecDepth 100000 in
theorem jmo_78 : jmOK 78 := ⟨List.mem_of_getElem? (i := 609) rfl, by decide +kernel⟩
theorem jal_79 : jall ⟨"FilterBench$Section", "pole", "(J)J"⟩ prog_9_method_13_code jT_79 jH_79 = true := by decide +kernel
theorem jok_79 : jokM 79 = true := jal_79
set_option maxRecDepth 100000 in
theorem jmo_79 : jmOK 79 := ⟨List.mem_of_getElem? (i := 616) rfl, by decide +kernel⟩
theorem jal_80 : jall ⟨"FilterBench$Section", "direct", "(J)J"⟩ prog_9_method_14_code jT_80 jH_80 = true := by decide +kernel
theorem jok_80 : jokM 80 = true := jal_80
set_option maxRecDepth 100000 in
theorem jmo_80 : jmOK 80 := ⟨List.mem_of_getElem? (i := 621) rfl, by decide +kernel⟩
theorem jal_81 : jall ⟨"FilterBench$Section", "lessTimes", "(IJ)J"⟩ prog_9_method_12_code jT_81 jH_81 = true := by decide +kernel
theorem jok_81 : jokM 81 = true := jal_81
set_option maxRecDepth 100000 in
theorem jmo_81 : jmOK 81 := ⟨List.mem_of_getElem? (i := 625) rfl, by decide +kernel⟩
theorem jal_82 : jall ⟨"FilterBench$Real", "opposite", "(J)J"⟩ prog_7_method_13_code jT_82 jH_82 = true := by decide +kernel
theorem jok_82 : jokM 82 = true := jal_82
set_option maxRecDepth 100000 in
theorem jmo_82 : jmOK 82 := ⟨List.mem_of_getElem? (i := 631) rfl, by decide +kernel⟩
theorem jal_83 : jall ⟨"FilterBench$Real", "negative", "(J)J"⟩ prog_7_method_6_code jT_83 jH_83 = true := by decide +kernel
theorem jok_83 : jokM 83 = true := jal_83
set_option maxRecDepth 100000 in
theorem jmo_83 : jmOK 83 := ⟨List.mem_of_getElem? (i := 635) rfl, by decide +kernel⟩
theorem jal_84 : jall ⟨"FilterBench$Shorts", "opposite", "(J)J"⟩ prog_10_method_7_code jT_84 jH_84 = true := by decide +kernel
theorem jok_84 : jokM 84 = true := jal_84
set_option maxRecDepth 100000 in
theorem jmo_84 : jmOK 84 := ⟨List.mem_of_getElem? (i := 638) rfl, by decide +kernel⟩
theorem jal_85 : jall ⟨"FilterBench$Section", "second", "(J)J"⟩ prog_9_method_15_code jT_85 jH_85 = true := by decide +kernel
theorem jok_85 : jokM 85 = true := jal_85
set_option maxRecDepth 100000 in
theorem jmo_85 : jmOK 85 := ⟨List.mem_of_getElem? (i := 642) rfl, by decide +kernel⟩
theorem jal_86 : jall ⟨"FilterBench$Section", "turned", "(J)J"⟩ prog_9_method_16_code jT_86 jH_86 = true := by decide +kernel
theorem jok_86 : jokM 86 = true := jal_86
set_option maxRecDepth 100000 in
theorem jmo_86 : jmOK 86 := ⟨List.mem_of_getElem? (i := 647) rfl, by decide +kernel⟩
theorem jal_87 : jall ⟨"FilterBench$Section", "pass", "(J)J"⟩ prog_9_method_17_code jT_87 jH_87 = true := by decide +kernel
theorem jok_87 : jokM 87 = true := jal_87
set_option maxRecDepth 100000 in
theorem jmo_87 : jmOK 87 := ⟨List.mem_of_getElem? (i := 651) rfl, by decide +kernel⟩
theorem jal_88 : jall ⟨"FilterBench$Section", "delayed", "(J)J"⟩ prog_9_method_18_code jT_88 jH_88 = true := by decide +kernel
theorem jok_88 : jokM 88 = true := jal_88
set_option maxRecDepth 100000 in
theorem jmo_88 : jmOK 88 := ⟨List.mem_of_getElem? (i := 655) rfl, by decide +kernel⟩
theorem jal_89 : jall ⟨"FilterBench$Row", "push", "(J)V"⟩ prog_8_method_6_code jT_89 jH_89 = true := by decide +kernel
theorem jok_89 : jokM 89 = true := jal_89
set_option maxRecDepth 100000 in
theorem jmo_89 : jmOK 89 := ⟨List.mem_of_getElem? (i := 659) rfl, by decide +kernel⟩
theorem jal_90 : jall ⟨"FilterBench$Section", "mean", "(J)J"⟩ prog_9_method_19_code jT_90 jH_90 = true := by decide +kernel
theorem jok_90 : jokM 90 = true := jal_90
set_option maxRecDepth 100000 in
theorem jmo_90 : jmOK 90 := ⟨List.mem_of_getElem? (i := 664) rfl, by decide +kernel⟩
theorem jal_91 : jall ⟨"FilterBench$Row", "size", "()I"⟩ prog_8_method_2_code jT_91 jH_91 = true := by decide +kernel
theorem jok_91 : jokM 91 = true := jal_91
set_option maxRecDepth 100000 in
theorem jmo_91 : jmOK 91 := ⟨List.mem_of_getElem? (i := 668) rfl, by decide +kernel⟩
theorem jal_92 : jall ⟨"FilterBench$Section", "comb", "(J)J"⟩ prog_9_method_20_code jT_92 jH_92 = true := by decide +kernel
theorem jok_92 : jokM 92 = true := jal_92
set_option maxRecDepth 100000 in
theorem jmo_92 : jmOK 92 := ⟨List.mem_of_getElem? (i := 672) rfl, by decide +kernel⟩
theorem jal_93 : jall ⟨"FilterBench$Section", "clipped", "(J)J"⟩ prog_9_method_21_code jT_93 jH_93 = true := by decide +kernel
theorem jok_93 : jokM 93 = true := jal_93
set_option maxRecDepth 100000 in
theorem jmo_93 : jmOK 93 := ⟨List.mem_of_getElem? (i := 676) rfl, by decide +kernel⟩
theorem jal_94 : jall ⟨"FilterBench$Numbers", "above", "(JJ)Z"⟩ prog_6_method_16_code jT_94 jH_94 = true := by decide +kernel
theorem jok_94 : jokM 94 = true := jal_94
set_option maxRecDepth 100000 in
theorem jmo_94 : jmOK 94 := ⟨List.mem_of_getElem? (i := 682) rfl, by decide +kernel⟩
theorem jal_95 : jall ⟨"FilterBench$Shorts", "isNumber", "(J)Z"⟩ prog_10_method_10_code jT_95 jH_95 = true := by decide +kernel
theorem jok_95 : jokM 95 = true := jal_95
set_option maxRecDepth 100000 in
theorem jmo_95 : jmOK 95 := ⟨List.mem_of_getElem? (i := 689) rfl, by decide +kernel⟩
theorem jal_96 : jall ⟨"FilterBench$Real", "compared", "(JJ)I"⟩ prog_7_method_9_code jT_96 jH_96 = true := by decide +kernel
theorem jok_96 : jokM 96 = true := jal_96
set_option maxRecDepth 100000 in
theorem jmo_96 : jmOK 96 := ⟨List.mem_of_getElem? (i := 695) rfl, by decide +kernel⟩
theorem jal_97 : jall ⟨"java/lang/Long", "compare", "(JJ)I"⟩ prog_13_method_42_code jT_97 jH_97 = true := by decide +kernel
theorem jok_97 : jokM 97 = true := jal_97
set_option maxRecDepth 100000 in
theorem jmo_97 : jmOK 97 := ⟨List.mem_of_getElem? (i := 698) rfl, by decide +kernel⟩
theorem jal_98 : jall ⟨"FilterBench$Shorts", "compared", "(JJ)I"⟩ prog_10_method_11_code jT_98 jH_98 = true := by decide +kernel
theorem jok_98 : jokM 98 = true := jal_98
set_option maxRecDepth 100000 in
theorem jmo_98 : jmOK 98 := ⟨List.mem_of_getElem? (i := 701) rfl, by decide +kernel⟩
theorem jal_99 : jall ⟨"FilterBench$Shorts", "negative", "(J)J"⟩ prog_10_method_9_code jT_99 jH_99 = true := by decide +kernel
theorem jok_99 : jokM 99 = true := jal_99
set_option maxRecDepth 100000 in
theorem jmo_99 : jmOK 99 := ⟨List.mem_of_getElem? (i := 709) rfl, by decide +kernel⟩
