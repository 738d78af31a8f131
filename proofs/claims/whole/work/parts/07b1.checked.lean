/-! the checks, method by method (printed by wip/whole/gen2.py) -/
theorem jal_100 : jall ⟨"FilterBench$Row", "size", "()I"⟩ prog_8_method_2_code jT_100 jH_100 = true := by decide +kernel
theorem jok_100 : jokM 100 = true := jal_100
set_option maxRecDepth 100000 in
theorem jmo_100 : jmOK 100 := ⟨List.mem_of_getElem? (i := 778) rfl, by decide +kernel⟩
theorem jal_101 : jall ⟨"FilterBench$Section", "comb", "(J)J"⟩ prog_9_method_20_code jT_101 jH_101 = true := by decide +kernel
theorem jok_101 : jokM 101 = true := jal_101
set_option maxRecDepth 100000 in
theorem jmo_101 : jmOK 101 := ⟨List.mem_of_getElem? (i := 782) rfl, by decide +kernel⟩
theorem jal_102 : jall ⟨"FilterBench$Section", "clipped", "(J)J"⟩ prog_9_method_21_code jT_102 jH_102 = true := by decide +kernel
theorem jok_102 : jokM 102 = true := jal_102
set_option maxRecDepth 100000 in
theorem jmo_102 : jmOK 102 := ⟨List.mem_of_getElem? (i := 786) rfl, by decide +kernel⟩
theorem jal_103 : jall ⟨"FilterBench$Numbers", "above", "(JJ)Z"⟩ prog_6_method_16_code jT_103 jH_103 = true := by decide +kernel
theorem jok_103 : jokM 103 = true := jal_103
set_option maxRecDepth 100000 in
theorem jmo_103 : jmOK 103 := ⟨List.mem_of_getElem? (i := 792) rfl, by decide +kernel⟩
theorem jal_104 : jall ⟨"FilterBench$Shorts", "isNumber", "(J)Z"⟩ prog_10_method_10_code jT_104 jH_104 = true := by decide +kernel
theorem jok_104 : jokM 104 = true := jal_104
set_option maxRecDepth 100000 in
theorem jmo_104 : jmOK 104 := ⟨List.mem_of_getElem? (i := 799) rfl, by decide +kernel⟩
theorem jal_105 : jall ⟨"FilterBench$Real", "compared", "(JJ)I"⟩ prog_7_method_9_code jT_105 jH_105 = true := by decide +kernel
theorem jok_105 : jokM 105 = true := jal_105
set_option maxRecDepth 100000 in
theorem jmo_105 : jmOK 105 := ⟨List.mem_of_getElem? (i := 805) rfl, by decide +kernel⟩
theorem jal_106 : jall ⟨"java/lang/Long", "compare", "(JJ)I"⟩ prog_15_method_42_code jT_106 jH_106 = true := by decide +kernel
theorem jok_106 : jokM 106 = true := jal_106
set_option maxRecDepth 100000 in
theorem jmo_106 : jmOK 106 := ⟨List.mem_of_getElem? (i := 808) rfl, by decide +kernel⟩
theorem jal_107 : jall ⟨"FilterBench$Shorts", "compared", "(JJ)I"⟩ prog_10_method_11_code jT_107 jH_107 = true := by decide +kernel
theorem jok_107 : jokM 107 = true := jal_107
set_option maxRecDepth 100000 in
theorem jmo_107 : jmOK 107 := ⟨List.mem_of_getElem? (i := 811) rfl, by decide +kernel⟩
theorem jal_108 : jall ⟨"FilterBench$Shorts", "negative", "(J)J"⟩ prog_10_method_9_code jT_108 jH_108 = true := by decide +kernel
theorem jok_108 : jokM 108 = true := jal_108
set_option maxRecDepth 100000 in
theorem jmo_108 : jmOK 108 := ⟨List.mem_of_getElem? (i := 819) rfl, by decide +kernel⟩
theorem jal_109 : jall ⟨"FilterBench$Section", "deadened", "(J)J"⟩ prog_9_method_22_code jT_109 jH_109 = true := by decide +kernel
theorem jok_109 : jokM 109 = true := jal_109
set_option maxRecDepth 100000 in
theorem jmo_109 : jmOK 109 := ⟨List.mem_of_getElem? (i := 823) rfl, by decide +kernel⟩
theorem jal_110 : jall ⟨"FilterBench$Shorts", "sizeOf", "(J)J"⟩ prog_10_method_8_code jT_110 jH_110 = true := by decide +kernel
theorem jok_110 : jokM 110 = true := jal_110
set_option maxRecDepth 100000 in
theorem jmo_110 : jmOK 110 := ⟨List.mem_of_getElem? (i := 831) rfl, by decide +kernel⟩
theorem jal_111 : jall ⟨"FilterBench$Section", "peak", "(J)J"⟩ prog_9_method_23_code jT_111 jH_111 = true := by decide +kernel
theorem jok_111 : jokM 111 = true := jal_111
set_option maxRecDepth 100000 in
theorem jmo_111 : jmOK 111 := ⟨List.mem_of_getElem? (i := 836) rfl, by decide +kernel⟩
theorem jal_112 : jall ⟨"FilterBench$Chain", "note", "(IJ)V"⟩ prog_2_method_10_code jT_112 jH_112 = true := by decide +kernel
theorem jok_112 : jokM 112 = true := jal_112
set_option maxRecDepth 100000 in
theorem jmo_112 : jmOK 112 := ⟨List.mem_of_getElem? (i := 840) rfl, by decide +kernel⟩
theorem jal_113 : jall ⟨"FilterBench$Chain", "emit", "(J)V"⟩ prog_2_method_11_code jT_113 jH_113 = true := by decide +kernel
theorem jok_113 : jokM 113 = true := jal_113
set_option maxRecDepth 100000 in
theorem jmo_113 : jmOK 113 := ⟨List.mem_of_getElem? (i := 845) rfl, by decide +kernel⟩
theorem jal_114 : jall ⟨"FilterBench", "run", "(III)I"⟩ prog_1_method_25_code jT_114 jH_114 = true := by decide +kernel
theorem jok_114 : jokM 114 = true := jal_114
set_option maxRecDepth 100000 in
theorem jmo_114 : jmOK 114 := ⟨List.mem_of_getElem? (i := 849) rfl, by decide +kernel⟩
theorem jal_115 : jall ⟨"FilterBench$Real", "sample", "(I)J"⟩ prog_7_method_23_code jT_115 jH_115 = true := by decide +kernel
theorem jok_115 : jokM 115 = true := jal_115
set_option maxRecDepth 100000 in
theorem jmo_115 : jmOK 115 := ⟨List.mem_of_getElem? (i := 855) rfl, by decide +kernel⟩
theorem jal_116 : jall ⟨"FilterBench$Real", "scaled", "(JI)J"⟩ prog_7_method_22_code jT_116 jH_116 = true := by decide +kernel
theorem jok_116 : jokM 116 = true := jal_116
set_option maxRecDepth 100000 in
theorem jmo_116 : jmOK 116 := ⟨List.mem_of_getElem? (i := 859) rfl, by decide +kernel⟩
theorem jal_117 : jall ⟨"FilterBench$Shorts", "sample", "(I)J"⟩ prog_10_method_12_code jT_117 jH_117 = true := by decide +kernel
theorem jok_117 : jokM 117 = true := jal_117
set_option maxRecDepth 100000 in
theorem jmo_117 : jmOK 117 := ⟨List.mem_of_getElem? (i := 862) rfl, by decide +kernel⟩
theorem jal_118 : jall ⟨"FilterBench", "output", "(II)J"⟩ prog_1_method_26_code jT_118 jH_118 = true := by decide +kernel
theorem jok_118 : jokM 118 = true := jal_118
set_option maxRecDepth 100000 in
theorem jmo_118 : jmOK 118 := ⟨List.mem_of_getElem? (i := 867) rfl, by decide +kernel⟩
theorem jal_119 : jall ⟨"FilterBench$Chain", "madeAs", "(I)J"⟩ prog_2_method_14_code jT_119 jH_119 = true := by decide +kernel
theorem jok_119 : jokM 119 = true := jal_119
set_option maxRecDepth 100000 in
theorem jmo_119 : jmOK 119 := ⟨List.mem_of_getElem? (i := 871) rfl, by decide +kernel⟩
theorem jal_120 : jall ⟨"FilterBench", "measure", "(II)J"⟩ prog_1_method_27_code jT_120 jH_120 = true := by decide +kernel
theorem jok_120 : jokM 120 = true := jal_120
set_option maxRecDepth 100000 in
theorem jmo_120 : jmOK 120 := ⟨List.mem_of_getElem? (i := 875) rfl, by decide +kernel⟩
theorem jal_121 : jall ⟨"FilterBench$Chain", "greatestSize", "(LFilterBench$Numbers;)J"⟩ prog_2_method_15_code jT_121 jH_121 = true := by decide +kernel
theorem jok_121 : jokM 121 = true := jal_121
set_option maxRecDepth 100000 in
theorem jmo_121 : jmOK 121 := ⟨List.mem_of_getElem? (i := 879) rfl, by decide +kernel⟩
theorem jal_122 : jall ⟨"FilterBench$Chain", "signChanges", "(LFilterBench$Numbers;)I"⟩ prog_2_method_16_code jT_122 jH_122 = true := by decide +kernel
theorem jok_122 : jokM 122 = true := jal_122
set_option maxRecDepth 100000 in
theorem jmo_122 : jmOK 122 := ⟨List.mem_of_getElem? (i := 885) rfl, by decide +kernel⟩
theorem jal_123 : jall ⟨"FilterBench$Chain", "longestSilence", "(LFilterBench$Numbers;)I"⟩ prog_2_method_17_code jT_123 jH_123 = true := by decide +kernel
theorem jok_123 : jokM 123 = true := jal_123
set_option maxRecDepth 100000 in
theorem jmo_123 : jmOK 123 := ⟨List.mem_of_getElem? (i := 891) rfl, by decide +kernel⟩
theorem jal_124 : jall ⟨"java/lang/Math", "max", "(II)I"⟩ prog_16_method_65_code jT_124 jH_124 = true := by decide +kernel
theorem jok_124 : jokM 124 = true := jal_124
set_option maxRecDepth 100000 in
theorem jmo_124 : jmOK 124 := ⟨List.mem_of_getElem? (i := 894) rfl, by decide +kernel⟩
theorem jal_125 : jall ⟨"FilterBench", "reset", "(I)Z"⟩ prog_1_method_30_code jT_125 jH_125 = true := by decide +kernel
theorem jok_125 : jokM 125 = true := jal_125
set_option maxRecDepth 100000 in
theorem jmo_125 : jmOK 125 := ⟨List.mem_of_getElem? (i := 898) rfl, by decide +kernel⟩
theorem jal_126 : jall ⟨"FilterBench", "gather", "(LFilterBench$Chain;)I"⟩ prog_1_method_34_code jT_126 jH_126 = true := by decide +kernel
theorem jok_126 : jokM 126 = true := jal_126
set_option maxRecDepth 100000 in
theorem jmo_126 : jmOK 126 := ⟨List.mem_of_getElem? (i := 902) rfl, by decide +kernel⟩
theorem jal_127 : jall ⟨"FilterBench", "gathered", "(LFilterBench$Chain;I)I"⟩ prog_1_method_35_code jT_127 jH_127 = true := by decide +kernel
theorem jok_127 : jokM 127 = true := jal_127
set_option maxRecDepth 100000 in
theorem jmo_127 : jmOK 127 := ⟨List.mem_of_getElem? (i := 906) rfl, by decide +kernel⟩
theorem jal_128 : jall ⟨"FilterBench$Chain", "silence", "()V"⟩ prog_2_method_21_code jT_128 jH_128 = true := by decide +kernel
theorem jok_128 : jokM 128 = true := jal_128
set_option maxRecDepth 100000 in
theorem jmo_128 : jmOK 128 := ⟨List.mem_of_getElem? (i := 910) rfl, by decide +kernel⟩
theorem jal_129 : jall ⟨"FilterBench$Chain", "rowCount", "()I"⟩ prog_2_method_18_code jT_129 jH_129 = true := by decide +kernel
theorem jok_129 : jokM 129 = true := jal_129
set_option maxRecDepth 100000 in
theorem jmo_129 : jmOK 129 := ⟨List.mem_of_getElem? (i := 914) rfl, by decide +kernel⟩
theorem jal_130 : jall ⟨"FilterBench$Chain", "rowAt", "(I)LFilterBench$Row;"⟩ prog_2_method_19_code jT_130 jH_130 = true := by decide +kernel
theorem jok_130 : jokM 130 = true := jal_130
set_option maxRecDepth 100000 in
theorem jmo_130 : jmOK 130 := ⟨List.mem_of_getElem? (i := 918) rfl, by decide +kernel⟩
theorem jal_131 : jall ⟨"FilterBench$Row", "clear", "()V"⟩ prog_8_method_7_code jT_131 jH_131 = true := by decide +kernel
theorem jok_131 : jokM 131 = true := jal_131
set_option maxRecDepth 100000 in
theorem jmo_131 : jmOK 131 := ⟨List.mem_of_getElem? (i := 922) rfl, by decide +kernel⟩
theorem jal_132 : jall ⟨"java/util/Arrays", "fill", "([JJ)V"⟩ prog_18_method_101_code jT_132 jH_132 = true := by decide +kernel
theorem jok_132 : jokM 132 = true := jal_132
set_option maxRecDepth 100000 in
theorem jmo_132 : jmOK 132 := ⟨List.mem_of_getElem? (i := 925) rfl, by decide +kernel⟩
theorem jal_133 : jall ⟨"FilterBench", "keep", "(I)I"⟩ prog_1_method_31_code jT_133 jH_133 = true := by decide +kernel
theorem jok_133 : jokM 133 = true := jal_133
set_option maxRecDepth 100000 in
theorem jmo_133 : jmOK 133 := ⟨List.mem_of_getElem? (i := 929) rfl, by decide +kernel⟩
theorem jal_134 : jall ⟨"FilterBench$Chain", "valueCount", "()I"⟩ prog_2_method_20_code jT_134 jH_134 = true := by decide +kernel
theorem jok_134 : jokM 134 = true := jal_134
set_option maxRecDepth 100000 in
theorem jmo_134 : jmOK 134 := ⟨List.mem_of_getElem? (i := 933) rfl, by decide +kernel⟩
theorem jal_135 : jall ⟨"FilterBench$Kept", "<init>", "(LFilterBench$Chain;II)V"⟩ prog_4_method_1_code jT_135 jH_135 = true := by decide +kernel
theorem jok_135 : jokM 135 = true := jal_135
set_option maxRecDepth 100000 in
theorem jmo_135 : jmOK 135 := ⟨List.mem_of_getElem? (i := 938) rfl, by decide +kernel⟩
theorem jal_136 : jall ⟨"FilterBench$Kept", "shape", "(ILFilterBench$Chain;)V"⟩ prog_4_method_3_code jT_136 jH_136 = true := by decide +kernel
theorem jok_136 : jokM 136 = true := jal_136
set_option maxRecDepth 100000 in
theorem jmo_136 : jmOK 136 := ⟨List.mem_of_getElem? (i := 956) rfl, by decide +kernel⟩
theorem jal_137 : jall ⟨"FilterBench$Chain", "save", "([JI)I"⟩ prog_2_method_22_code jT_137 jH_137 = true := by decide +kernel
theorem jok_137 : jokM 137 = true := jal_137
set_option maxRecDepth 100000 in
theorem jmo_137 : jmOK 137 := ⟨List.mem_of_getElem? (i := 960) rfl, by decide +kernel⟩
theorem jal_138 : jall ⟨"FilterBench$Row", "save", "([JI)I"⟩ prog_8_method_8_code jT_138 jH_138 = true := by decide +kernel
theorem jok_138 : jokM 138 = true := jal_138
set_option maxRecDepth 100000 in
theorem jmo_138 : jmOK 138 := ⟨List.mem_of_getElem? (i := 964) rfl, by decide +kernel⟩
theorem jal_139 : jall ⟨"FilterBench", "back", "(I)Z"⟩ prog_1_method_32_code jT_139 jH_139 = true := by decide +kernel
theorem jok_139 : jokM 139 = true := jal_139
set_option maxRecDepth 100000 in
theorem jmo_139 : jmOK 139 := ⟨List.mem_of_getElem? (i := 969) rfl, by decide +kernel⟩
theorem jal_140 : jall ⟨"FilterBench", "keptAt", "(I)LFilterBench$Kept;"⟩ prog_1_method_15_code jT_140 jH_140 = true := by decide +kernel
theorem jok_140 : jokM 140 = true := jal_140
set_option maxRecDepth 100000 in
theorem jmo_140 : jmOK 140 := ⟨List.mem_of_getElem? (i := 973) rfl, by decide +kernel⟩
theorem jal_141 : jall ⟨"FilterBench", "gatherAsKept", "(LFilterBench$Kept;)Z"⟩ prog_1_method_36_code jT_141 jH_141 = true := by decide +kernel
theorem jok_141 : jokM 141 = true := jal_141
set_option maxRecDepth 100000 in
theorem jmo_141 : jmOK 141 := ⟨List.mem_of_getElem? (i := 977) rfl, by decide +kernel⟩
theorem jal_142 : jall ⟨"FilterBench$Kept", "chainCount", "()I"⟩ prog_4_method_2_code jT_142 jH_142 = true := by decide +kernel
theorem jok_142 : jokM 142 = true := jal_142
set_option maxRecDepth 100000 in
theorem jmo_142 : jmOK 142 := ⟨List.mem_of_getElem? (i := 981) rfl, by decide +kernel⟩
theorem jal_143 : jall ⟨"FilterBench$Kept", "isShaped", "(ILFilterBench$Chain;)Z"⟩ prog_4_method_4_code jT_143 jH_143 = true := by decide +kernel
theorem jok_143 : jokM 143 = true := jal_143
set_option maxRecDepth 100000 in
theorem jmo_143 : jmOK 143 := ⟨List.mem_of_getElem? (i := 985) rfl, by decide +kernel⟩
theorem jal_144 : jall ⟨"FilterBench$Chain", "load", "([JI)I"⟩ prog_2_method_23_code jT_144 jH_144 = true := by decide +kernel
theorem jok_144 : jokM 144 = true := jal_144
set_option maxRecDepth 100000 in
theorem jmo_144 : jmOK 144 := ⟨List.mem_of_getElem? (i := 989) rfl, by decide +kernel⟩
theorem jal_145 : jall ⟨"FilterBench$Row", "load", "([JI)I"⟩ prog_8_method_9_code jT_145 jH_145 = true := by decide +kernel
theorem jok_145 : jokM 145 = true := jal_145
set_option maxRecDepth 100000 in
theorem jmo_145 : jmOK 145 := ⟨List.mem_of_getElem? (i := 993) rfl, by decide +kernel⟩
theorem jal_146 : jall ⟨"FilterBench", "same", "(I)Z"⟩ prog_1_method_33_code jT_146 jH_146 = true := by decide +kernel
theorem jok_146 : jokM 146 = true := jal_146
set_option maxRecDepth 100000 in
theorem jmo_146 : jmOK 146 := ⟨List.mem_of_getElem? (i := 997) rfl, by decide +kernel⟩
theorem jal_147 : jall ⟨"FilterBench$Chain", "holdsValues", "([JI)Z"⟩ prog_2_method_24_code jT_147 jH_147 = true := by decide +kernel
theorem jok_147 : jokM 147 = true := jal_147
set_option maxRecDepth 100000 in
theorem jmo_147 : jmOK 147 := ⟨List.mem_of_getElem? (i := 1001) rfl, by decide +kernel⟩
theorem jal_148 : jall ⟨"FilterBench$Row", "holdsValues", "([JI)Z"⟩ prog_8_method_10_code jT_148 jH_148 = true := by decide +kernel
theorem jok_148 : jokM 148 = true := jal_148
set_option maxRecDepth 100000 in
theorem jmo_148 : jmOK 148 := ⟨List.mem_of_getElem? (i := 1005) rfl, by decide +kernel⟩
theorem jal_149 : jall ⟨"FilterBench", "poles", "(I)I"⟩ prog_1_method_37_code jT_149 jH_149 = true := by decide +kernel
theorem jok_149 : jokM 149 = true := jal_149
set_option maxRecDepth 100000 in
theorem jmo_149 : jmOK 149 := ⟨List.mem_of_getElem? (i := 1009) rfl, by decide +kernel⟩
theorem jal_150 : jall ⟨"FilterBench", "meaningOf", "(LFilterBench$Section;I)J"⟩ prog_1_method_40_code jT_150 jH_150 = true := by decide +kernel
theorem jok_150 : jokM 150 = true := jal_150
set_option maxRecDepth 100000 in
theorem jmo_150 : jmOK 150 := ⟨List.mem_of_getElem? (i := 1013) rfl, by decide +kernel⟩
theorem jal_151 : jall ⟨"FilterBench$Real", "meaning", "(JZLFilterBench$Real;)J"⟩ prog_7_method_27_code jT_151 jH_151 = true := by decide +kernel
theorem jok_151 : jokM 151 = true := jal_151
set_option maxRecDepth 100000 in
theorem jmo_151 : jmOK 151 := ⟨List.mem_of_getElem? (i := 1019) rfl, by decide +kernel⟩
theorem jal_152 : jall ⟨"FilterBench$Shorts", "meaning", "(JZLFilterBench$Real;)J"⟩ prog_10_method_14_code jT_152 jH_152 = true := by decide +kernel
theorem jok_152 : jokM 152 = true := jal_152
set_option maxRecDepth 100000 in
theorem jmo_152 : jmOK 152 := ⟨List.mem_of_getElem? (i := 1022) rfl, by decide +kernel⟩
theorem jal_153 : jall ⟨"FilterBench", "judgedPole", "(J)I"⟩ prog_1_method_41_code jT_153 jH_153 = true := by decide +kernel
theorem jok_153 : jokM 153 = true := jal_153
set_option maxRecDepth 100000 in
theorem jmo_153 : jmOK 153 := ⟨List.mem_of_getElem? (i := 1027) rfl, by decide +kernel⟩
theorem jal_154 : jall ⟨"FilterBench$Real", "isFinite", "(J)Z"⟩ prog_7_method_8_code jT_154 jH_154 = true := by decide +kernel
theorem jok_154 : jokM 154 = true := jal_154
set_option maxRecDepth 100000 in
theorem jmo_154 : jmOK 154 := ⟨List.mem_of_getElem? (i := 1031) rfl, by decide +kernel⟩
theorem jal_155 : jall ⟨"FilterBench", "judged", "(I)I"⟩ prog_1_method_43_code jT_155 jH_155 = true := by decide +kernel
theorem jok_155 : jokM 155 = true := jal_155
set_option maxRecDepth 100000 in
theorem jmo_155 : jmOK 155 := ⟨List.mem_of_getElem? (i := 1037) rfl, by decide +kernel⟩
theorem jal_156 : jall ⟨"FilterBench", "judgedPair", "(JJ)I"⟩ prog_1_method_42_code jT_156 jH_156 = true := by decide +kernel
theorem jok_156 : jokM 156 = true := jal_156
set_option maxRecDepth 100000 in
theorem jmo_156 : jmOK 156 := ⟨List.mem_of_getElem? (i := 1041) rfl, by decide +kernel⟩
theorem jal_157 : jall ⟨"FilterBench", "comparedToOnePlus", "(JJ)I"⟩ prog_1_method_44_code jT_157 jH_157 = true := by decide +kernel
theorem jok_157 : jokM 157 = true := jal_157
set_option maxRecDepth 100000 in
theorem jmo_157 : jmOK 157 := ⟨List.mem_of_getElem? (i := 1045) rfl, by decide +kernel⟩
theorem jal_158 : jall ⟨"FilterBench", "cycles", "(I)I"⟩ prog_1_method_38_code jT_158 jH_158 = true := by decide +kernel
theorem jok_158 : jokM 158 = true := jal_158
set_option maxRecDepth 100000 in
theorem jmo_158 : jmOK 158 := ⟨List.mem_of_getElem? (i := 1053) rfl, by decide +kernel⟩
theorem jal_159 : jall ⟨"FilterBench$DeadCycles", "look", "(LFilterBench$Section;)Z"⟩ prog_3_method_2_code jT_159 jH_159 = true := by decide +kernel
theorem jok_159 : jokM 159 = true := jal_159
set_option maxRecDepth 100000 in
theorem jmo_159 : jmOK 159 := ⟨List.mem_of_getElem? (i := 1057) rfl, by decide +kernel⟩
theorem jal_160 : jall ⟨"FilterBench$DeadCycles", "begin", "()V"⟩ prog_3_method_6_code jT_160 jH_160 = true := by decide +kernel
theorem jok_160 : jokM 160 = true := jal_160
set_option maxRecDepth 100000 in
theorem jmo_160 : jmOK 160 := ⟨List.mem_of_getElem? (i := 1062) rfl, by decide +kernel⟩
theorem jal_161 : jall ⟨"java/util/Arrays", "fill", "([II)V"⟩ prog_18_method_103_code jT_161 jH_161 = true := by decide +kernel
theorem jok_161 : jokM 161 = true := jal_161
set_option maxRecDepth 100000 in
theorem jmo_161 : jmOK 161 := ⟨List.mem_of_getElem? (i := 1066) rfl, by decide +kernel⟩
theorem jal_162 : jall ⟨"FilterBench$DeadCycles", "ownerOf", "(I)I"⟩ prog_3_method_7_code jT_162 jH_162 = true := by decide +kernel
theorem jok_162 : jokM 162 = true := jal_162
set_option maxRecDepth 100000 in
theorem jmo_162 : jmOK 162 := ⟨List.mem_of_getElem? (i := 1071) rfl, by decide +kernel⟩
theorem jal_163 : jall ⟨"FilterBench$DeadCycles", "walk", "(I)V"⟩ prog_3_method_12_code jT_163 jH_163 = true := by decide +kernel
theorem jok_163 : jokM 163 = true := jal_163
set_option maxRecDepth 100000 in
theorem jmo_163 : jmOK 163 := ⟨List.mem_of_getElem? (i := 1075) rfl, by decide +kernel⟩
theorem jal_164 : jall ⟨"FilterBench$DeadCycles", "setOwner", "(II)V"⟩ prog_3_method_8_code jT_164 jH_164 = true := by decide +kernel
theorem jok_164 : jokM 164 = true := jal_164
set_option maxRecDepth 100000 in
theorem jmo_164 : jmOK 164 := ⟨List.mem_of_getElem? (i := 1079) rfl, by decide +kernel⟩
theorem jal_165 : jall ⟨"FilterBench$DeadCycles", "next", "(I)I"⟩ prog_3_method_11_code jT_165 jH_165 = true := by decide +kernel
theorem jok_165 : jokM 165 = true := jal_165
set_option maxRecDepth 100000 in
theorem jmo_165 : jmOK 165 := ⟨List.mem_of_getElem? (i := 1083) rfl, by decide +kernel⟩
theorem jal_166 : jall ⟨"FilterBench$DeadCycles", "newCycle", "(I)I"⟩ prog_3_method_13_code jT_166 jH_166 = true := by decide +kernel
theorem jok_166 : jokM 166 = true := jal_166
set_option maxRecDepth 100000 in
theorem jmo_166 : jmOK 166 := ⟨List.mem_of_getElem? (i := 1090) rfl, by decide +kernel⟩
theorem jal_167 : jall ⟨"java/lang/Math", "min", "(II)I"⟩ prog_16_method_69_code jT_167 jH_167 = true := by decide +kernel
theorem jok_167 : jokM 167 = true := jal_167
set_option maxRecDepth 100000 in
theorem jmo_167 : jmOK 167 := ⟨List.mem_of_getElem? (i := 1093) rfl, by decide +kernel⟩
theorem jal_168 : jall ⟨"FilterBench$DeadCycles", "setTally", "(IJ)V"⟩ prog_3_method_10_code jT_168 jH_168 = true := by decide +kernel
theorem jok_168 : jokM 168 = true := jal_168
set_option maxRecDepth 100000 in
theorem jmo_168 : jmOK 168 := ⟨List.mem_of_getElem? (i := 1097) rfl, by decide +kernel⟩
theorem jal_169 : jall ⟨"FilterBench$DeadCycles", "tallyOf", "(I)J"⟩ prog_3_method_9_code jT_169 jH_169 = true := by decide +kernel
theorem jok_169 : jokM 169 = true := jal_169
set_option maxRecDepth 100000 in
theorem jmo_169 : jmOK 169 := ⟨List.mem_of_getElem? (i := 1101) rfl, by decide +kernel⟩
theorem jal_170 : jall ⟨"FilterBench$DeadCycles", "gatherFound", "()V"⟩ prog_3_method_14_code jT_170 jH_170 = true := by decide +kernel
theorem jok_170 : jokM 170 = true := jal_170
set_option maxRecDepth 100000 in
theorem jmo_170 : jmOK 170 := ⟨List.mem_of_getElem? (i := 1105) rfl, by decide +kernel⟩
theorem jal_171 : jall ⟨"FilterBench", "cycle", "(III)I"⟩ prog_1_method_39_code jT_171 jH_171 = true := by decide +kernel
theorem jok_171 : jokM 171 = true := jal_171
set_option maxRecDepth 100000 in
theorem jmo_171 : jmOK 171 := ⟨List.mem_of_getElem? (i := 1109) rfl, by decide +kernel⟩
theorem jal_172 : jall ⟨"FilterBench$DeadCycles", "leastOf", "(I)I"⟩ prog_3_method_3_code jT_172 jH_172 = true := by decide +kernel
theorem jok_172 : jokM 172 = true := jal_172
set_option maxRecDepth 100000 in
theorem jmo_172 : jmOK 172 := ⟨List.mem_of_getElem? (i := 1113) rfl, by decide +kernel⟩
theorem jal_173 : jall ⟨"FilterBench$DeadCycles", "lengthOf", "(I)I"⟩ prog_3_method_4_code jT_173 jH_173 = true := by decide +kernel
theorem jok_173 : jokM 173 = true := jal_173
set_option maxRecDepth 100000 in
theorem jmo_173 : jmOK 173 := ⟨List.mem_of_getElem? (i := 1117) rfl, by decide +kernel⟩
theorem jal_174 : jall ⟨"FilterBench$DeadCycles", "basinOf", "(I)I"⟩ prog_3_method_5_code jT_174 jH_174 = true := by decide +kernel
theorem jok_174 : jokM 174 = true := jal_174
set_option maxRecDepth 100000 in
theorem jmo_174 : jmOK 174 := ⟨List.mem_of_getElem? (i := 1121) rfl, by decide +kernel⟩
theorem jal_175 : jall ⟨"FilterBench", "convert", "(II)I"⟩ prog_1_method_45_code jT_175 jH_175 = true := by decide +kernel
theorem jok_175 : jokM 175 = true := jal_175
set_option maxRecDepth 100000 in
theorem jmo_175 : jmOK 175 := ⟨List.mem_of_getElem? (i := 1125) rfl, by decide +kernel⟩
theorem jal_176 : jall ⟨"FilterBench", "canRemake", "(LFilterBench$Chain;LFilterBench$Numbers;)Z"⟩ prog_1_method_46_code jT_176 jH_176 = true := by decide +kernel
theorem jok_176 : jokM 176 = true := jal_176
set_option maxRecDepth 100000 in
theorem jmo_176 : jmOK 176 := ⟨List.mem_of_getElem? (i := 1129) rfl, by decide +kernel⟩
theorem jal_177 : jall ⟨"FilterBench", "canTranslate", "(LFilterBench$Chain;LFilterBench$Numbers;)Z"⟩ prog_1_method_47_code jT_177 jH_177 = true := by decide +kernel
theorem jok_177 : jokM 177 = true := jal_177
set_option maxRecDepth 100000 in
theorem jmo_177 : jmOK 177 := ⟨List.mem_of_getElem? (i := 1133) rfl, by decide +kernel⟩
theorem jal_178 : jall ⟨"FilterBench$Section", "factorCount", "()I"⟩ prog_9_method_2_code jT_178 jH_178 = true := by decide +kernel
theorem jok_178 : jokM 178 = true := jal_178
set_option maxRecDepth 100000 in
theorem jmo_178 : jmOK 178 := ⟨List.mem_of_getElem? (i := 1137) rfl, by decide +kernel⟩
theorem jal_179 : jall ⟨"FilterBench", "translated", "(LFilterBench$Numbers;JZLFilterBench$Numbers;)J"⟩ prog_1_method_48_code jT_179 jH_179 = true := by decide +kernel
theorem jok_179 : jokM 179 = true := jal_179
set_option maxRecDepth 100000 in
theorem jmo_179 : jmOK 179 := ⟨List.mem_of_getElem? (i := 1141) rfl, by decide +kernel⟩
theorem jal_180 : jall ⟨"FilterBench$Real", "nearest", "(JZLFilterBench$Real;)J"⟩ prog_7_method_28_code jT_180 jH_180 = true := by decide +kernel
theorem jok_180 : jokM 180 = true := jal_180
set_option maxRecDepth 100000 in
theorem jmo_180 : jmOK 180 := ⟨List.mem_of_getElem? (i := 1147) rfl, by decide +kernel⟩
theorem jal_181 : jall ⟨"FilterBench$Shorts", "nearest", "(JZLFilterBench$Real;)J"⟩ prog_10_method_15_code jT_181 jH_181 = true := by decide +kernel
theorem jok_181 : jokM 181 = true := jal_181
set_option maxRecDepth 100000 in
theorem jmo_181 : jmOK 181 := ⟨List.mem_of_getElem? (i := 1150) rfl, by decide +kernel⟩
theorem jal_182 : jall ⟨"FilterBench", "remade", "(LFilterBench$Chain;ILFilterBench$Numbers;I)LFilterBench$Chain;"⟩ prog_1_method_49_code jT_182 jH_182 = true := by decide +kernel
theorem jok_182 : jokM 182 = true := jal_182
set_option maxRecDepth 100000 in
theorem jmo_182 : jmOK 182 := ⟨List.mem_of_getElem? (i := 1161) rfl, by decide +kernel⟩
theorem jal_183 : jall ⟨"FilterBench", "remadeSection", "(LFilterBench$Section;ILFilterBench$Numbers;)LFilterBench$Section;"⟩ prog_1_method_50_code jT_183 jH_183 = true := by decide +kernel
theorem jok_183 : jokM 183 = true := jal_183
set_option maxRecDepth 100000 in
theorem jmo_183 : jmOK 183 := ⟨List.mem_of_getElem? (i := 1165) rfl, by decide +kernel⟩
theorem jal_184 : jall ⟨"FilterBench", "remakeLoops", "(LFilterBench$Chain;LFilterBench$Chain;LFilterBench$Numbers;)V"⟩ prog_1_method_51_code jT_184 jH_184 = true := by decide +kernel
theorem jok_184 : jokM 184 = true := jal_184
set_option maxRecDepth 100000 in
theorem jmo_184 : jmOK 184 := ⟨List.mem_of_getElem? (i := 1169) rfl, by decide +kernel⟩
theorem jal_185 : jall ⟨"FilterBenchModel", "<init>", "()V"⟩ prog_12_method_2_code jT_185 jH_185 = true := by decide +kernel
theorem jok_185 : jokM 185 = true := jal_185
set_option maxRecDepth 100000 in
theorem jmo_185 : jmOK 185 := ⟨List.mem_of_getElem? (i := 1175) rfl, by decide +kernel⟩
theorem jal_186 : jall ⟨"FilterBenchModel", "section", "(III)I"⟩ prog_12_method_10_code jT_186 jH_186 = true := by decide +kernel
theorem jok_186 : jokM 186 = true := jal_186
set_option maxRecDepth 100000 in
theorem jmo_186 : jmOK 186 := ⟨List.mem_of_getElem? (i := 1386) rfl, by decide +kernel⟩
