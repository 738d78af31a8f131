/-! the checks, method by method (printed by wip/p28/gen2.py) -/
theorem jal_125 : jall ⟨"FilterBench$Chain", "holdsValues", "([JI)Z"⟩ prog_2_method_24_code jT_125 jH_125 = true := by decide +kernel
theorem jok_125 : jokM 125 = true := jal_125
set_option maxRecDepth 100000 in
theorem jmo_125 : jmOK 125 := ⟨List.mem_of_getElem? (i := 835) rfl, by decide +kernel⟩
theorem jal_126 : jall ⟨"FilterBench$Row", "holdsValues", "([JI)Z"⟩ prog_8_method_10_code jT_126 jH_126 = true := by decide +kernel
theorem jok_126 : jokM 126 = true := jal_126
set_option maxRecDepth 100000 in
theorem jmo_126 : jmOK 126 := ⟨List.mem_of_getElem? (i := 839) rfl, by decide +kernel⟩
theorem jal_127 : jall ⟨"FilterBench", "convert", "(II)I"⟩ prog_1_method_45_code jT_127 jH_127 = true := by decide +kernel
theorem jok_127 : jokM 127 = true := jal_127
set_option maxRecDepth 100000 in
theorem jmo_127 : jmOK 127 := ⟨List.mem_of_getElem? (i := 843) rfl, by decide +kernel⟩
theorem jal_128 : jall ⟨"FilterBench", "canRemake", "(LFilterBench$Chain;LFilterBench$Numbers;)Z"⟩ prog_1_method_46_code jT_128 jH_128 = true := by decide +kernel
theorem jok_128 : jokM 128 = true := jal_128
set_option maxRecDepth 100000 in
theorem jmo_128 : jmOK 128 := ⟨List.mem_of_getElem? (i := 847) rfl, by decide +kernel⟩
theorem jal_129 : jall ⟨"FilterBench", "canTranslate", "(LFilterBench$Chain;LFilterBench$Numbers;)Z"⟩ prog_1_method_47_code jT_129 jH_129 = true := by decide +kernel
theorem jok_129 : jokM 129 = true := jal_129
set_option maxRecDepth 100000 in
theorem jmo_129 : jmOK 129 := ⟨List.mem_of_getElem? (i := 851) rfl, by decide +kernel⟩
theorem jal_130 : jall ⟨"FilterBench$Section", "factorCount", "()I"⟩ prog_9_method_2_code jT_130 jH_130 = true := by decide +kernel
theorem jok_130 : jokM 130 = true := jal_130
set_option maxRecDepth 100000 in
theorem jmo_130 : jmOK 130 := ⟨List.mem_of_getElem? (i := 855) rfl, by decide +kernel⟩
theorem jal_131 : jall ⟨"FilterBench$Section", "takesWhole", "()Z"⟩ prog_9_method_6_code jT_131 jH_131 = true := by decide +kernel
theorem jok_131 : jokM 131 = true := jal_131
set_option maxRecDepth 100000 in
theorem jmo_131 : jmOK 131 := ⟨List.mem_of_getElem? (i := 859) rfl, by decide +kernel⟩
theorem jal_132 : jall ⟨"FilterBench", "translated", "(LFilterBench$Numbers;JZLFilterBench$Numbers;)J"⟩ prog_1_method_48_code jT_132 jH_132 = true := by decide +kernel
theorem jok_132 : jokM 132 = true := jal_132
set_option maxRecDepth 100000 in
theorem jmo_132 : jmOK 132 := ⟨List.mem_of_getElem? (i := 863) rfl, by decide +kernel⟩
theorem jal_133 : jall ⟨"FilterBench$Real", "meaning", "(JZLFilterBench$Real;)J"⟩ prog_7_method_27_code jT_133 jH_133 = true := by decide +kernel
theorem jok_133 : jokM 133 = true := jal_133
set_option maxRecDepth 100000 in
theorem jmo_133 : jmOK 133 := ⟨List.mem_of_getElem? (i := 869) rfl, by decide +kernel⟩
theorem jal_134 : jall ⟨"FilterBench$Real", "taken", "(LFilterBench$Real;J)J"⟩ prog_7_method_24_code jT_134 jH_134 = true := by decide +kernel
theorem jok_134 : jokM 134 = true := jal_134
set_option maxRecDepth 100000 in
theorem jmo_134 : jmOK 134 := ⟨List.mem_of_getElem? (i := 873) rfl, by decide +kernel⟩
theorem jal_135 : jall ⟨"FilterBench$Shorts", "meaning", "(JZLFilterBench$Real;)J"⟩ prog_10_method_14_code jT_135 jH_135 = true := by decide +kernel
theorem jok_135 : jokM 135 = true := jal_135
set_option maxRecDepth 100000 in
theorem jmo_135 : jmOK 135 := ⟨List.mem_of_getElem? (i := 876) rfl, by decide +kernel⟩
theorem jal_136 : jall ⟨"FilterBench$Real", "scaled", "(JI)J"⟩ prog_7_method_22_code jT_136 jH_136 = true := by decide +kernel
theorem jok_136 : jokM 136 = true := jal_136
set_option maxRecDepth 100000 in
theorem jmo_136 : jmOK 136 := ⟨List.mem_of_getElem? (i := 880) rfl, by decide +kernel⟩
theorem jal_137 : jall ⟨"java/lang/Math", "abs", "(J)J"⟩ prog_14_method_61_code jT_137 jH_137 = true := by decide +kernel
theorem jok_137 : jokM 137 = true := jal_137
set_option maxRecDepth 100000 in
theorem jmo_137 : jmOK 137 := ⟨List.mem_of_getElem? (i := 883) rfl, by decide +kernel⟩
theorem jal_138 : jall ⟨"FilterBench$Real", "nearest", "(JZLFilterBench$Real;)J"⟩ prog_7_method_28_code jT_138 jH_138 = true := by decide +kernel
theorem jok_138 : jokM 138 = true := jal_138
set_option maxRecDepth 100000 in
theorem jmo_138 : jmOK 138 := ⟨List.mem_of_getElem? (i := 889) rfl, by decide +kernel⟩
theorem jal_139 : jall ⟨"FilterBench$Shorts", "nearest", "(JZLFilterBench$Real;)J"⟩ prog_10_method_15_code jT_139 jH_139 = true := by decide +kernel
theorem jok_139 : jokM 139 = true := jal_139
set_option maxRecDepth 100000 in
theorem jmo_139 : jmOK 139 := ⟨List.mem_of_getElem? (i := 892) rfl, by decide +kernel⟩
theorem jal_140 : jall ⟨"FilterBench$Real", "isFinite", "(J)Z"⟩ prog_7_method_8_code jT_140 jH_140 = true := by decide +kernel
theorem jok_140 : jokM 140 = true := jal_140
set_option maxRecDepth 100000 in
theorem jmo_140 : jmOK 140 := ⟨List.mem_of_getElem? (i := 898) rfl, by decide +kernel⟩
theorem jal_141 : jall ⟨"FilterBench", "remade", "(LFilterBench$Chain;ILFilterBench$Numbers;I)LFilterBench$Chain;"⟩ prog_1_method_49_code jT_141 jH_141 = true := by decide +kernel
theorem jok_141 : jokM 141 = true := jal_141
set_option maxRecDepth 100000 in
theorem jmo_141 : jmOK 141 := ⟨List.mem_of_getElem? (i := 907) rfl, by decide +kernel⟩
theorem jal_142 : jall ⟨"FilterBench", "remadeSection", "(LFilterBench$Section;ILFilterBench$Numbers;)LFilterBench$Section;"⟩ prog_1_method_50_code jT_142 jH_142 = true := by decide +kernel
theorem jok_142 : jokM 142 = true := jal_142
set_option maxRecDepth 100000 in
theorem jmo_142 : jmOK 142 := ⟨List.mem_of_getElem? (i := 911) rfl, by decide +kernel⟩
theorem jal_143 : jall ⟨"FilterBench", "remakeLoops", "(LFilterBench$Chain;LFilterBench$Chain;LFilterBench$Numbers;)V"⟩ prog_1_method_51_code jT_143 jH_143 = true := by decide +kernel
theorem jok_143 : jokM 143 = true := jal_143
set_option maxRecDepth 100000 in
theorem jmo_143 : jmOK 143 := ⟨List.mem_of_getElem? (i := 915) rfl, by decide +kernel⟩
theorem jal_144 : jall ⟨"FilterBenchLaw", "fit", "(JI)J"⟩ method_3_code jT_144 jH_144 = true := by decide +kernel
theorem jok_144 : jokM 144 = true := jal_144
set_option maxRecDepth 100000 in
theorem jmo_144 : jmOK 144 := ⟨List.mem_of_getElem? (i := 919) rfl, by decide +kernel⟩
