/-! the checks, method by method (printed by wip/p28/gen2.py) -/
theorem jal_100 : jall ⟨"FilterBench$Section", "deadened", "(J)J"⟩ prog_9_method_22_code jT_100 jH_100 = true := by decide +kernel
theorem jok_100 : jokM 100 = true := jal_100
set_option maxRecDepth 100000 in
theorem jmo_100 : jmOK 100 := ⟨List.mem_of_getElem? (i := 713) rfl, by decide +kernel⟩
theorem jal_101 : jall ⟨"FilterBench$Shorts", "sizeOf", "(J)J"⟩ prog_10_method_8_code jT_101 jH_101 = true := by decide +kernel
theorem jok_101 : jokM 101 = true := jal_101
set_option maxRecDepth 100000 in
theorem jmo_101 : jmOK 101 := ⟨List.mem_of_getElem? (i := 721) rfl, by decide +kernel⟩
theorem jal_102 : jall ⟨"FilterBench$Section", "peak", "(J)J"⟩ prog_9_method_23_code jT_102 jH_102 = true := by decide +kernel
theorem jok_102 : jokM 102 = true := jal_102
set_option maxRecDepth 100000 in
theorem jmo_102 : jmOK 102 := ⟨List.mem_of_getElem? (i := 726) rfl, by decide +kernel⟩
theorem jal_103 : jall ⟨"FilterBench$Chain", "note", "(IJ)V"⟩ prog_2_method_10_code jT_103 jH_103 = true := by decide +kernel
theorem jok_103 : jokM 103 = true := jal_103
set_option maxRecDepth 100000 in
theorem jmo_103 : jmOK 103 := ⟨List.mem_of_getElem? (i := 730) rfl, by decide +kernel⟩
theorem jal_104 : jall ⟨"FilterBench$Chain", "emit", "(J)V"⟩ prog_2_method_11_code jT_104 jH_104 = true := by decide +kernel
theorem jok_104 : jokM 104 = true := jal_104
set_option maxRecDepth 100000 in
theorem jmo_104 : jmOK 104 := ⟨List.mem_of_getElem? (i := 735) rfl, by decide +kernel⟩
theorem jal_105 : jall ⟨"FilterBench", "output", "(II)J"⟩ prog_1_method_26_code jT_105 jH_105 = true := by decide +kernel
theorem jok_105 : jokM 105 = true := jal_105
set_option maxRecDepth 100000 in
theorem jmo_105 : jmOK 105 := ⟨List.mem_of_getElem? (i := 739) rfl, by decide +kernel⟩
theorem jal_106 : jall ⟨"FilterBench$Chain", "madeAs", "(I)J"⟩ prog_2_method_14_code jT_106 jH_106 = true := by decide +kernel
theorem jok_106 : jokM 106 = true := jal_106
set_option maxRecDepth 100000 in
theorem jmo_106 : jmOK 106 := ⟨List.mem_of_getElem? (i := 743) rfl, by decide +kernel⟩
theorem jal_107 : jall ⟨"FilterBench", "keep", "(I)I"⟩ prog_1_method_31_code jT_107 jH_107 = true := by decide +kernel
theorem jok_107 : jokM 107 = true := jal_107
set_option maxRecDepth 100000 in
theorem jmo_107 : jmOK 107 := ⟨List.mem_of_getElem? (i := 747) rfl, by decide +kernel⟩
theorem jal_108 : jall ⟨"FilterBench", "gather", "(LFilterBench$Chain;)I"⟩ prog_1_method_34_code jT_108 jH_108 = true := by decide +kernel
theorem jok_108 : jokM 108 = true := jal_108
set_option maxRecDepth 100000 in
theorem jmo_108 : jmOK 108 := ⟨List.mem_of_getElem? (i := 751) rfl, by decide +kernel⟩
theorem jal_109 : jall ⟨"FilterBench", "gathered", "(LFilterBench$Chain;I)I"⟩ prog_1_method_35_code jT_109 jH_109 = true := by decide +kernel
theorem jok_109 : jokM 109 = true := jal_109
set_option maxRecDepth 100000 in
theorem jmo_109 : jmOK 109 := ⟨List.mem_of_getElem? (i := 755) rfl, by decide +kernel⟩
theorem jal_110 : jall ⟨"FilterBench$Chain", "valueCount", "()I"⟩ prog_2_method_20_code jT_110 jH_110 = true := by decide +kernel
theorem jok_110 : jokM 110 = true := jal_110
set_option maxRecDepth 100000 in
theorem jmo_110 : jmOK 110 := ⟨List.mem_of_getElem? (i := 759) rfl, by decide +kernel⟩
theorem jal_111 : jall ⟨"FilterBench$Chain", "rowCount", "()I"⟩ prog_2_method_18_code jT_111 jH_111 = true := by decide +kernel
theorem jok_111 : jokM 111 = true := jal_111
set_option maxRecDepth 100000 in
theorem jmo_111 : jmOK 111 := ⟨List.mem_of_getElem? (i := 763) rfl, by decide +kernel⟩
theorem jal_112 : jall ⟨"FilterBench$Chain", "rowAt", "(I)LFilterBench$Row;"⟩ prog_2_method_19_code jT_112 jH_112 = true := by decide +kernel
theorem jok_112 : jokM 112 = true := jal_112
set_option maxRecDepth 100000 in
theorem jmo_112 : jmOK 112 := ⟨List.mem_of_getElem? (i := 767) rfl, by decide +kernel⟩
theorem jal_113 : jall ⟨"FilterBench$Kept", "<init>", "(LFilterBench$Chain;II)V"⟩ prog_4_method_1_code jT_113 jH_113 = true := by decide +kernel
theorem jok_113 : jokM 113 = true := jal_113
set_option maxRecDepth 100000 in
theorem jmo_113 : jmOK 113 := ⟨List.mem_of_getElem? (i := 772) rfl, by decide +kernel⟩
theorem jal_114 : jall ⟨"FilterBench$Kept", "shape", "(ILFilterBench$Chain;)V"⟩ prog_4_method_3_code jT_114 jH_114 = true := by decide +kernel
theorem jok_114 : jokM 114 = true := jal_114
set_option maxRecDepth 100000 in
theorem jmo_114 : jmOK 114 := ⟨List.mem_of_getElem? (i := 790) rfl, by decide +kernel⟩
theorem jal_115 : jall ⟨"FilterBench$Chain", "save", "([JI)I"⟩ prog_2_method_22_code jT_115 jH_115 = true := by decide +kernel
theorem jok_115 : jokM 115 = true := jal_115
set_option maxRecDepth 100000 in
theorem jmo_115 : jmOK 115 := ⟨List.mem_of_getElem? (i := 794) rfl, by decide +kernel⟩
theorem jal_116 : jall ⟨"FilterBench$Row", "save", "([JI)I"⟩ prog_8_method_8_code jT_116 jH_116 = true := by decide +kernel
theorem jok_116 : jokM 116 = true := jal_116
set_option maxRecDepth 100000 in
theorem jmo_116 : jmOK 116 := ⟨List.mem_of_getElem? (i := 798) rfl, by decide +kernel⟩
theorem jal_117 : jall ⟨"FilterBench", "back", "(I)Z"⟩ prog_1_method_32_code jT_117 jH_117 = true := by decide +kernel
theorem jok_117 : jokM 117 = true := jal_117
set_option maxRecDepth 100000 in
theorem jmo_117 : jmOK 117 := ⟨List.mem_of_getElem? (i := 803) rfl, by decide +kernel⟩
theorem jal_118 : jall ⟨"FilterBench", "keptAt", "(I)LFilterBench$Kept;"⟩ prog_1_method_15_code jT_118 jH_118 = true := by decide +kernel
theorem jok_118 : jokM 118 = true := jal_118
set_option maxRecDepth 100000 in
theorem jmo_118 : jmOK 118 := ⟨List.mem_of_getElem? (i := 807) rfl, by decide +kernel⟩
theorem jal_119 : jall ⟨"FilterBench", "gatherAsKept", "(LFilterBench$Kept;)Z"⟩ prog_1_method_36_code jT_119 jH_119 = true := by decide +kernel
theorem jok_119 : jokM 119 = true := jal_119
set_option maxRecDepth 100000 in
theorem jmo_119 : jmOK 119 := ⟨List.mem_of_getElem? (i := 811) rfl, by decide +kernel⟩
theorem jal_120 : jall ⟨"FilterBench$Kept", "chainCount", "()I"⟩ prog_4_method_2_code jT_120 jH_120 = true := by decide +kernel
theorem jok_120 : jokM 120 = true := jal_120
set_option maxRecDepth 100000 in
theorem jmo_120 : jmOK 120 := ⟨List.mem_of_getElem? (i := 815) rfl, by decide +kernel⟩
theorem jal_121 : jall ⟨"FilterBench$Kept", "isShaped", "(ILFilterBench$Chain;)Z"⟩ prog_4_method_4_code jT_121 jH_121 = true := by decide +kernel
theorem jok_121 : jokM 121 = true := jal_121
set_option maxRecDepth 100000 in
theorem jmo_121 : jmOK 121 := ⟨List.mem_of_getElem? (i := 819) rfl, by decide +kernel⟩
theorem jal_122 : jall ⟨"FilterBench$Chain", "load", "([JI)I"⟩ prog_2_method_23_code jT_122 jH_122 = true := by decide +kernel
theorem jok_122 : jokM 122 = true := jal_122
set_option maxRecDepth 100000 in
theorem jmo_122 : jmOK 122 := ⟨List.mem_of_getElem? (i := 823) rfl, by decide +kernel⟩
theorem jal_123 : jall ⟨"FilterBench$Row", "load", "([JI)I"⟩ prog_8_method_9_code jT_123 jH_123 = true := by decide +kernel
theorem jok_123 : jokM 123 = true := jal_123
set_option maxRecDepth 100000 in
theorem jmo_123 : jmOK 123 := ⟨List.mem_of_getElem? (i := 827) rfl, by decide +kernel⟩
theorem jal_124 : jall ⟨"FilterBench", "same", "(I)Z"⟩ prog_1_method_33_code jT_124 jH_124 = true := by decide +kernel
theorem jok_124 : jokM 124 = true := jal_124
set_option maxRecDepth 100000 in
theorem jmo_124 : jmOK 124 := ⟨List.mem_of_getElem? (i := 831) rfl, by decide +kernel⟩
