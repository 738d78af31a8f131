/-! facts of the tables (printed by wip/whole/dec.py) -/
set_option maxRecDepth 100000 in
theorem jf_213_0 : jG m_R_goes 0 (.iconst 0) [] (.null) 1 := ⟨rfl, rfl⟩
set_option maxRecDepth 100000 in
theorem jf_213_1 : jG m_R_goes 1 (.istore 4) [] (.null) 3 := ⟨rfl, rfl⟩
set_option maxRecDepth 100000 in
theorem jf_213_3 : jG m_R_goes 3 (.aload_n 0) [] (.null) 4 := ⟨rfl, rfl⟩
set_option maxRecDepth 100000 in
theorem jf_213_4 : jG m_R_goes 4 (.iconst 0) [] (.null) 5 := ⟨rfl, rfl⟩
set_option maxRecDepth 100000 in
theorem jf_213_5 : jG m_R_goes 5 (.putfield 353) [9, 34] (.null) 8 := ⟨rfl, rfl⟩
set_option maxRecDepth 100000 in
theorem jf_213_8 : jG m_R_goes 8 (.aload_n 0) [] (.null) 9 := ⟨rfl, rfl⟩
set_option maxRecDepth 100000 in
theorem jf_213_9 : jG m_R_goes 9 (.iload_n 1) [] (.null) 10 := ⟨rfl, rfl⟩
set_option maxRecDepth 100000 in
theorem jf_213_10 : jG m_R_goes 10 (.putfield 356) [9, 39] (.null) 13 := ⟨rfl, rfl⟩
set_option maxRecDepth 100000 in
theorem jf_213_13 : jG m_R_goes 13 (.aload_n 0) [] (.null) 14 := ⟨rfl, rfl⟩
set_option maxRecDepth 100000 in
theorem jf_213_14 : jG m_R_goes 14 (.iconst 0) [] (.null) 15 := ⟨rfl, rfl⟩
set_option maxRecDepth 100000 in
theorem jf_213_15 : jG m_R_goes 15 (.putfield 359) [9, 40] (.null) 18 := ⟨rfl, rfl⟩
set_option maxRecDepth 100000 in
theorem jf_213_18 : jG m_R_goes 18 (.aload_n 0) [] (.null) 19 := ⟨rfl, rfl⟩
set_option maxRecDepth 100000 in
theorem jf_213_19 : jG m_R_goes 19 (.dload_n 2) [] (.null) 20 := ⟨rfl, rfl⟩
set_option maxRecDepth 100000 in
theorem jf_213_20 : jG m_R_goes 20 (.putfield 362) [9, 41] (.null) 23 := ⟨rfl, rfl⟩
set_option maxRecDepth 100000 in
theorem jf_213_23 : jG m_R_goes 23 (.iconst 1) [] (.null) 24 := ⟨rfl, rfl⟩
set_option maxRecDepth 100000 in
theorem jf_213_24 : jG m_R_goes 24 (.istore 5) [] (.null) 26 := ⟨rfl, rfl⟩
set_option maxRecDepth 100000 in
theorem jf_213_26 : jG m_R_goes 26 (.iload 5) [] (.null) 28 := ⟨rfl, rfl⟩
set_option maxRecDepth 100000 in
theorem jf_213_28 : jG m_R_goes 28 (.ifCond .eq 405) [433] (.null) 31 := ⟨rfl, rfl⟩
set_option maxRecDepth 100000 in
theorem jf_213_31 : jG m_R_goes 31 (.aload_n 0) [] (.null) 32 := ⟨rfl, rfl⟩
set_option maxRecDepth 100000 in
theorem jf_213_32 : jG m_R_goes 32 (.getfield 359) [9, 40] (.null) 35 := ⟨rfl, rfl⟩
set_option maxRecDepth 100000 in
theorem jf_213_35 : jG m_R_goes 35 (.aload_n 0) [] (.null) 36 := ⟨rfl, rfl⟩
set_option maxRecDepth 100000 in
theorem jf_213_36 : jG m_R_goes 36 (.getfield 58) [9, 17] (.null) 39 := ⟨rfl, rfl⟩
set_option maxRecDepth 100000 in
theorem jf_213_39 : jG m_R_goes 39 (.aload_n 0) [] (.null) 40 := ⟨rfl, rfl⟩
set_option maxRecDepth 100000 in
theorem jf_213_40 : jG m_R_goes 40 (.getfield 356) [9, 39] (.null) 43 := ⟨rfl, rfl⟩
set_option maxRecDepth 100000 in
theorem jf_213_43 : jG m_R_goes 43 (.iaload) [] (.null) 44 := ⟨rfl, rfl⟩
set_option maxRecDepth 100000 in
theorem jf_213_44 : jG m_R_goes 44 (.if_icmp .ne 78) [122] (.null) 47 := ⟨rfl, rfl⟩
set_option maxRecDepth 100000 in
theorem jf_213_47 : jG m_R_goes 47 (.aload_n 0) [] (.null) 48 := ⟨rfl, rfl⟩
set_option maxRecDepth 100000 in
theorem jf_213_48 : jG m_R_goes 48 (.getfield 88) [9, 27] (.null) 51 := ⟨rfl, rfl⟩
set_option maxRecDepth 100000 in
theorem jf_213_51 : jG m_R_goes 51 (.sipush 400) [] (.null) 54 := ⟨rfl, rfl⟩
set_option maxRecDepth 100000 in
theorem jf_213_54 : jG m_R_goes 54 (.aload_n 0) [] (.null) 55 := ⟨rfl, rfl⟩
set_option maxRecDepth 100000 in
theorem jf_213_55 : jG m_R_goes 55 (.getfield 356) [9, 39] (.null) 58 := ⟨rfl, rfl⟩
set_option maxRecDepth 100000 in
theorem jf_213_58 : jG m_R_goes 58 (.imul) [] (.null) 59 := ⟨rfl, rfl⟩
set_option maxRecDepth 100000 in
theorem jf_213_59 : jG m_R_goes 59 (.aload_n 0) [] (.null) 60 := ⟨rfl, rfl⟩
set_option maxRecDepth 100000 in
theorem jf_213_60 : jG m_R_goes 60 (.getfield 91) [9, 28] (.null) 63 := ⟨rfl, rfl⟩
set_option maxRecDepth 100000 in
theorem jf_213_63 : jG m_R_goes 63 (.aload_n 0) [] (.null) 64 := ⟨rfl, rfl⟩
set_option maxRecDepth 100000 in
theorem jf_213_64 : jG m_R_goes 64 (.getfield 356) [9, 39] (.null) 67 := ⟨rfl, rfl⟩
set_option maxRecDepth 100000 in
theorem jf_213_67 : jG m_R_goes 67 (.iaload) [] (.null) 68 := ⟨rfl, rfl⟩
set_option maxRecDepth 100000 in
theorem jf_213_68 : jG m_R_goes 68 (.ldc 197) [] (.int (2147483647)) 70 := ⟨rfl, rfl⟩
set_option maxRecDepth 100000 in
theorem jf_213_70 : jG m_R_goes 70 (.iand) [] (.null) 71 := ⟨rfl, rfl⟩
set_option maxRecDepth 100000 in
theorem jf_213_71 : jG m_R_goes 71 (.sipush 400) [] (.null) 74 := ⟨rfl, rfl⟩
set_option maxRecDepth 100000 in
theorem jf_213_74 : jG m_R_goes 74 (.irem) [] (.null) 75 := ⟨rfl, rfl⟩
set_option maxRecDepth 100000 in
theorem jf_213_75 : jG m_R_goes 75 (.iadd) [] (.null) 76 := ⟨rfl, rfl⟩
set_option maxRecDepth 100000 in
theorem jf_213_76 : jG m_R_goes 76 (.aload_n 0) [] (.null) 77 := ⟨rfl, rfl⟩
set_option maxRecDepth 100000 in
theorem jf_213_77 : jG m_R_goes 77 (.getfield 362) [9, 41] (.null) 80 := ⟨rfl, rfl⟩
set_option maxRecDepth 100000 in
theorem jf_213_80 : jG m_R_goes 80 (.dastore) [] (.null) 81 := ⟨rfl, rfl⟩
set_option maxRecDepth 100000 in
theorem jf_213_81 : jG m_R_goes 81 (.aload_n 0) [] (.null) 82 := ⟨rfl, rfl⟩
set_option maxRecDepth 100000 in
theorem jf_213_82 : jG m_R_goes 82 (.getfield 91) [9, 28] (.null) 85 := ⟨rfl, rfl⟩
set_option maxRecDepth 100000 in
theorem jf_213_85 : jG m_R_goes 85 (.aload_n 0) [] (.null) 86 := ⟨rfl, rfl⟩
set_option maxRecDepth 100000 in
theorem jf_213_86 : jG m_R_goes 86 (.getfield 356) [9, 39] (.null) 89 := ⟨rfl, rfl⟩
set_option maxRecDepth 100000 in
theorem jf_213_89 : jG m_R_goes 89 (.dup2) [] (.null) 90 := ⟨rfl, rfl⟩
set_option maxRecDepth 100000 in
theorem jf_213_90 : jG m_R_goes 90 (.iaload) [] (.null) 91 := ⟨rfl, rfl⟩
set_option maxRecDepth 100000 in
theorem jf_213_91 : jG m_R_goes 91 (.iconst 1) [] (.null) 92 := ⟨rfl, rfl⟩
set_option maxRecDepth 100000 in
theorem jf_213_92 : jG m_R_goes 92 (.iadd) [] (.null) 93 := ⟨rfl, rfl⟩
set_option maxRecDepth 100000 in
theorem jf_213_93 : jG m_R_goes 93 (.iastore) [] (.null) 94 := ⟨rfl, rfl⟩
set_option maxRecDepth 100000 in
theorem jf_213_94 : jG m_R_goes 94 (.aload_n 0) [] (.null) 95 := ⟨rfl, rfl⟩
set_option maxRecDepth 100000 in
theorem jf_213_95 : jG m_R_goes 95 (.aload_n 0) [] (.null) 96 := ⟨rfl, rfl⟩
set_option maxRecDepth 100000 in
theorem jf_213_96 : jG m_R_goes 96 (.getfield 362) [9, 41] (.null) 99 := ⟨rfl, rfl⟩
set_option maxRecDepth 100000 in
theorem jf_213_99 : jG m_R_goes 99 (.putfield 365) [9, 33] (.null) 102 := ⟨rfl, rfl⟩
set_option maxRecDepth 100000 in
theorem jf_213_102 : jG m_R_goes 102 (.aload_n 0) [] (.null) 103 := ⟨rfl, rfl⟩
set_option maxRecDepth 100000 in
theorem jf_213_103 : jG m_R_goes 103 (.getfield 356) [9, 39] (.null) 106 := ⟨rfl, rfl⟩
set_option maxRecDepth 100000 in
theorem jf_213_106 : jG m_R_goes 106 (.iload_n 1) [] (.null) 107 := ⟨rfl, rfl⟩
set_option maxRecDepth 100000 in
theorem jf_213_107 : jG m_R_goes 107 (.if_icmp .ne 6) [113] (.null) 110 := ⟨rfl, rfl⟩
set_option maxRecDepth 100000 in
theorem jf_213_110 : jG m_R_goes 110 (.iinc 4 1) [] (.null) 113 := ⟨rfl, rfl⟩
set_option maxRecDepth 100000 in
theorem jf_213_113 : jG m_R_goes 113 (.aload_n 0) [] (.null) 114 := ⟨rfl, rfl⟩
set_option maxRecDepth 100000 in
theorem jf_213_114 : jG m_R_goes 114 (.invokevirtual 371) [6, 0, 9, m_R_goesOn] (.null) 117 := ⟨rfl, rfl⟩
set_option maxRecDepth 100000 in
theorem jf_213_117 : jG m_R_goes 117 (.istore 5) [] (.null) 119 := ⟨rfl, rfl⟩
set_option maxRecDepth 100000 in
theorem jf_213_119 : jG m_R_goes 119 (.goto (-93)) [26] (.null) 122 := ⟨rfl, rfl⟩
set_option maxRecDepth 100000 in
theorem jf_213_122 : jG m_R_goes 122 (.aload_n 0) [] (.null) 123 := ⟨rfl, rfl⟩
set_option maxRecDepth 100000 in
theorem jf_213_123 : jG m_R_goes 123 (.getfield 61) [9, 18] (.null) 126 := ⟨rfl, rfl⟩
set_option maxRecDepth 100000 in
theorem jf_213_126 : jG m_R_goes 126 (.bipush 10) [] (.null) 128 := ⟨rfl, rfl⟩
set_option maxRecDepth 100000 in
theorem jf_213_128 : jG m_R_goes 128 (.aload_n 0) [] (.null) 129 := ⟨rfl, rfl⟩
set_option maxRecDepth 100000 in
theorem jf_213_129 : jG m_R_goes 129 (.getfield 356) [9, 39] (.null) 132 := ⟨rfl, rfl⟩
set_option maxRecDepth 100000 in
theorem jf_213_132 : jG m_R_goes 132 (.imul) [] (.null) 133 := ⟨rfl, rfl⟩
set_option maxRecDepth 100000 in
theorem jf_213_133 : jG m_R_goes 133 (.aload_n 0) [] (.null) 134 := ⟨rfl, rfl⟩
set_option maxRecDepth 100000 in
theorem jf_213_134 : jG m_R_goes 134 (.getfield 359) [9, 40] (.null) 137 := ⟨rfl, rfl⟩
set_option maxRecDepth 100000 in
theorem jf_213_137 : jG m_R_goes 137 (.iadd) [] (.null) 138 := ⟨rfl, rfl⟩
set_option maxRecDepth 100000 in
theorem jf_213_138 : jG m_R_goes 138 (.iaload) [] (.null) 139 := ⟨rfl, rfl⟩
set_option maxRecDepth 100000 in
theorem jf_213_139 : jG m_R_goes 139 (.istore 6) [] (.null) 141 := ⟨rfl, rfl⟩
set_option maxRecDepth 100000 in
theorem jf_213_141 : jG m_R_goes 141 (.iconst 3) [] (.null) 142 := ⟨rfl, rfl⟩
set_option maxRecDepth 100000 in
theorem jf_213_142 : jG m_R_goes 142 (.aload_n 0) [] (.null) 143 := ⟨rfl, rfl⟩
set_option maxRecDepth 100000 in
theorem jf_213_143 : jG m_R_goes 143 (.getfield 356) [9, 39] (.null) 146 := ⟨rfl, rfl⟩
set_option maxRecDepth 100000 in
theorem jf_213_146 : jG m_R_goes 146 (.imul) [] (.null) 147 := ⟨rfl, rfl⟩
set_option maxRecDepth 100000 in
theorem jf_213_147 : jG m_R_goes 147 (.istore 7) [] (.null) 149 := ⟨rfl, rfl⟩
set_option maxRecDepth 100000 in
theorem jf_213_149 : jG m_R_goes 149 (.iload 7) [] (.null) 151 := ⟨rfl, rfl⟩
set_option maxRecDepth 100000 in
theorem jf_213_151 : jG m_R_goes 151 (.iconst 3) [] (.null) 152 := ⟨rfl, rfl⟩
set_option maxRecDepth 100000 in
theorem jf_213_152 : jG m_R_goes 152 (.aload_n 0) [] (.null) 153 := ⟨rfl, rfl⟩
set_option maxRecDepth 100000 in
theorem jf_213_153 : jG m_R_goes 153 (.getfield 356) [9, 39] (.null) 156 := ⟨rfl, rfl⟩
set_option maxRecDepth 100000 in
theorem jf_213_156 : jG m_R_goes 156 (.imul) [] (.null) 157 := ⟨rfl, rfl⟩
set_option maxRecDepth 100000 in
theorem jf_213_157 : jG m_R_goes 157 (.aload_n 0) [] (.null) 158 := ⟨rfl, rfl⟩
set_option maxRecDepth 100000 in
theorem jf_213_158 : jG m_R_goes 158 (.getfield 67) [9, 20] (.null) 161 := ⟨rfl, rfl⟩
set_option maxRecDepth 100000 in
theorem jf_213_161 : jG m_R_goes 161 (.aload_n 0) [] (.null) 162 := ⟨rfl, rfl⟩
set_option maxRecDepth 100000 in
theorem jf_213_162 : jG m_R_goes 162 (.getfield 356) [9, 39] (.null) 165 := ⟨rfl, rfl⟩
set_option maxRecDepth 100000 in
theorem jf_213_165 : jG m_R_goes 165 (.iaload) [] (.null) 166 := ⟨rfl, rfl⟩
set_option maxRecDepth 100000 in
theorem jf_213_166 : jG m_R_goes 166 (.iadd) [] (.null) 167 := ⟨rfl, rfl⟩
set_option maxRecDepth 100000 in
theorem jf_213_167 : jG m_R_goes 167 (.if_icmp .ge 79) [246] (.null) 170 := ⟨rfl, rfl⟩
set_option maxRecDepth 100000 in
theorem jf_213_170 : jG m_R_goes 170 (.aload_n 0) [] (.null) 171 := ⟨rfl, rfl⟩
set_option maxRecDepth 100000 in
theorem jf_213_171 : jG m_R_goes 171 (.getfield 73) [9, 22] (.null) 174 := ⟨rfl, rfl⟩
set_option maxRecDepth 100000 in
theorem jf_213_174 : jG m_R_goes 174 (.iload 7) [] (.null) 176 := ⟨rfl, rfl⟩
set_option maxRecDepth 100000 in
theorem jf_213_176 : jG m_R_goes 176 (.iaload) [] (.null) 177 := ⟨rfl, rfl⟩
set_option maxRecDepth 100000 in
theorem jf_213_177 : jG m_R_goes 177 (.aload_n 0) [] (.null) 178 := ⟨rfl, rfl⟩
set_option maxRecDepth 100000 in
theorem jf_213_178 : jG m_R_goes 178 (.getfield 359) [9, 40] (.null) 181 := ⟨rfl, rfl⟩
set_option maxRecDepth 100000 in
theorem jf_213_181 : jG m_R_goes 181 (.if_icmp .eq 6) [187] (.null) 184 := ⟨rfl, rfl⟩
set_option maxRecDepth 100000 in
theorem jf_213_184 : jG m_R_goes 184 (.goto 56) [240] (.null) 187 := ⟨rfl, rfl⟩
set_option maxRecDepth 100000 in
theorem jf_213_187 : jG m_R_goes 187 (.aload_n 0) [] (.null) 188 := ⟨rfl, rfl⟩
set_option maxRecDepth 100000 in
theorem jf_213_188 : jG m_R_goes 188 (.iload 6) [] (.null) 190 := ⟨rfl, rfl⟩
set_option maxRecDepth 100000 in
theorem jf_213_190 : jG m_R_goes 190 (.invokevirtual 320) [6, 1, 9, m_R_begins] (.null) 193 := ⟨rfl, rfl⟩
set_option maxRecDepth 100000 in
theorem jf_213_193 : jG m_R_goes 193 (.aload_n 0) [] (.null) 194 := ⟨rfl, rfl⟩
set_option maxRecDepth 100000 in
theorem jf_213_194 : jG m_R_goes 194 (.aload_n 0) [] (.null) 195 := ⟨rfl, rfl⟩
set_option maxRecDepth 100000 in
theorem jf_213_195 : jG m_R_goes 195 (.getfield 362) [9, 41] (.null) 198 := ⟨rfl, rfl⟩
set_option maxRecDepth 100000 in
theorem jf_213_198 : jG m_R_goes 198 (.iconst 0) [] (.null) 199 := ⟨rfl, rfl⟩
set_option maxRecDepth 100000 in
theorem jf_213_199 : jG m_R_goes 199 (.invokevirtual 341) [6, 2, 9, m_R_term_2] (.null) 202 := ⟨rfl, rfl⟩
set_option maxRecDepth 100000 in
theorem jf_213_202 : jG m_R_goes 202 (.aload_n 0) [] (.null) 203 := ⟨rfl, rfl⟩
set_option maxRecDepth 100000 in
theorem jf_213_203 : jG m_R_goes 203 (.aload_n 0) [] (.null) 204 := ⟨rfl, rfl⟩
set_option maxRecDepth 100000 in
theorem jf_213_204 : jG m_R_goes 204 (.getfield 79) [9, 24] (.null) 207 := ⟨rfl, rfl⟩
set_option maxRecDepth 100000 in
theorem jf_213_207 : jG m_R_goes 207 (.iload 7) [] (.null) 209 := ⟨rfl, rfl⟩
set_option maxRecDepth 100000 in
theorem jf_213_209 : jG m_R_goes 209 (.daload) [] (.null) 210 := ⟨rfl, rfl⟩
set_option maxRecDepth 100000 in
theorem jf_213_210 : jG m_R_goes 210 (.aload_n 0) [] (.null) 211 := ⟨rfl, rfl⟩
set_option maxRecDepth 100000 in
theorem jf_213_211 : jG m_R_goes 211 (.getfield 82) [9, 25] (.null) 214 := ⟨rfl, rfl⟩
set_option maxRecDepth 100000 in
theorem jf_213_214 : jG m_R_goes 214 (.bipush 64) [] (.null) 216 := ⟨rfl, rfl⟩
set_option maxRecDepth 100000 in
theorem jf_213_216 : jG m_R_goes 216 (.iload 7) [] (.null) 218 := ⟨rfl, rfl⟩
set_option maxRecDepth 100000 in
theorem jf_213_218 : jG m_R_goes 218 (.imul) [] (.null) 219 := ⟨rfl, rfl⟩
set_option maxRecDepth 100000 in
theorem jf_213_219 : jG m_R_goes 219 (.aload_n 0) [] (.null) 220 := ⟨rfl, rfl⟩
set_option maxRecDepth 100000 in
theorem jf_213_220 : jG m_R_goes 220 (.getfield 85) [9, 26] (.null) 223 := ⟨rfl, rfl⟩
set_option maxRecDepth 100000 in
theorem jf_213_223 : jG m_R_goes 223 (.iload 7) [] (.null) 225 := ⟨rfl, rfl⟩
set_option maxRecDepth 100000 in
theorem jf_213_225 : jG m_R_goes 225 (.iaload) [] (.null) 226 := ⟨rfl, rfl⟩
set_option maxRecDepth 100000 in
theorem jf_213_226 : jG m_R_goes 226 (.iadd) [] (.null) 227 := ⟨rfl, rfl⟩
set_option maxRecDepth 100000 in
theorem jf_213_227 : jG m_R_goes 227 (.daload) [] (.null) 228 := ⟨rfl, rfl⟩
set_option maxRecDepth 100000 in
theorem jf_213_228 : jG m_R_goes 228 (.iconst 0) [] (.null) 229 := ⟨rfl, rfl⟩
set_option maxRecDepth 100000 in
theorem jf_213_229 : jG m_R_goes 229 (.invokevirtual 327) [6, 3, 9, m_R_term] (.null) 232 := ⟨rfl, rfl⟩
set_option maxRecDepth 100000 in
theorem jf_213_232 : jG m_R_goes 232 (.aload_n 0) [] (.null) 233 := ⟨rfl, rfl⟩
set_option maxRecDepth 100000 in
theorem jf_213_233 : jG m_R_goes 233 (.aload_n 0) [] (.null) 234 := ⟨rfl, rfl⟩
set_option maxRecDepth 100000 in
theorem jf_213_234 : jG m_R_goes 234 (.invokevirtual 331) [6, 0, 9, m_R_comes] (.null) 237 := ⟨rfl, rfl⟩
set_option maxRecDepth 100000 in
theorem jf_213_237 : jG m_R_goes 237 (.putfield 362) [9, 41] (.null) 240 := ⟨rfl, rfl⟩
set_option maxRecDepth 100000 in
theorem jf_213_240 : jG m_R_goes 240 (.iinc 7 1) [] (.null) 243 := ⟨rfl, rfl⟩
set_option maxRecDepth 100000 in
theorem jf_213_243 : jG m_R_goes 243 (.goto (-94)) [149] (.null) 246 := ⟨rfl, rfl⟩
set_option maxRecDepth 100000 in
theorem jf_213_246 : jG m_R_goes 246 (.aload_n 0) [] (.null) 247 := ⟨rfl, rfl⟩
set_option maxRecDepth 100000 in
theorem jf_213_247 : jG m_R_goes 247 (.getfield 13) [9, 2] (.null) 250 := ⟨rfl, rfl⟩
set_option maxRecDepth 100000 in
theorem jf_213_250 : jG m_R_goes 250 (.iload 6) [] (.null) 252 := ⟨rfl, rfl⟩
set_option maxRecDepth 100000 in
theorem jf_213_252 : jG m_R_goes 252 (.iaload) [] (.null) 253 := ⟨rfl, rfl⟩
set_option maxRecDepth 100000 in
theorem jf_213_253 : jG m_R_goes 253 (.bipush 12) [] (.null) 255 := ⟨rfl, rfl⟩
set_option maxRecDepth 100000 in
theorem jf_213_255 : jG m_R_goes 255 (.if_icmp .ne 60) [315] (.null) 258 := ⟨rfl, rfl⟩
set_option maxRecDepth 100000 in
theorem jf_213_258 : jG m_R_goes 258 (.aload_n 0) [] (.null) 259 := ⟨rfl, rfl⟩
set_option maxRecDepth 100000 in
theorem jf_213_259 : jG m_R_goes 259 (.iload 6) [] (.null) 261 := ⟨rfl, rfl⟩
set_option maxRecDepth 100000 in
theorem jf_213_261 : jG m_R_goes 261 (.iconst 0) [] (.null) 262 := ⟨rfl, rfl⟩
set_option maxRecDepth 100000 in
theorem jf_213_262 : jG m_R_goes 262 (.invokevirtual 335) [6, 2, 9, m_R_st] (.null) 265 := ⟨rfl, rfl⟩
set_option maxRecDepth 100000 in
theorem jf_213_265 : jG m_R_goes 265 (.d2i) [] (.null) 266 := ⟨rfl, rfl⟩
set_option maxRecDepth 100000 in
theorem jf_213_266 : jG m_R_goes 266 (.istore 7) [] (.null) 268 := ⟨rfl, rfl⟩
set_option maxRecDepth 100000 in
theorem jf_213_268 : jG m_R_goes 268 (.aload_n 0) [] (.null) 269 := ⟨rfl, rfl⟩
set_option maxRecDepth 100000 in
theorem jf_213_269 : jG m_R_goes 269 (.iload 6) [] (.null) 271 := ⟨rfl, rfl⟩
set_option maxRecDepth 100000 in
theorem jf_213_271 : jG m_R_goes 271 (.iconst 0) [] (.null) 272 := ⟨rfl, rfl⟩
set_option maxRecDepth 100000 in
theorem jf_213_272 : jG m_R_goes 272 (.iload 7) [] (.null) 274 := ⟨rfl, rfl⟩
set_option maxRecDepth 100000 in
theorem jf_213_274 : jG m_R_goes 274 (.iconst 1) [] (.null) 275 := ⟨rfl, rfl⟩
set_option maxRecDepth 100000 in
theorem jf_213_275 : jG m_R_goes 275 (.iadd) [] (.null) 276 := ⟨rfl, rfl⟩
set_option maxRecDepth 100000 in
theorem jf_213_276 : jG m_R_goes 276 (.aload_n 0) [] (.null) 277 := ⟨rfl, rfl⟩
set_option maxRecDepth 100000 in
theorem jf_213_277 : jG m_R_goes 277 (.getfield 20) [9, 4] (.null) 280 := ⟨rfl, rfl⟩
set_option maxRecDepth 100000 in
theorem jf_213_280 : jG m_R_goes 280 (.iload 6) [] (.null) 282 := ⟨rfl, rfl⟩
set_option maxRecDepth 100000 in
theorem jf_213_282 : jG m_R_goes 282 (.iaload) [] (.null) 283 := ⟨rfl, rfl⟩
set_option maxRecDepth 100000 in
theorem jf_213_283 : jG m_R_goes 283 (.irem) [] (.null) 284 := ⟨rfl, rfl⟩
set_option maxRecDepth 100000 in
theorem jf_213_284 : jG m_R_goes 284 (.i2d) [] (.null) 285 := ⟨rfl, rfl⟩
set_option maxRecDepth 100000 in
theorem jf_213_285 : jG m_R_goes 285 (.invokevirtual 338) [6, 3, 9, m_R_st_2] (.null) 288 := ⟨rfl, rfl⟩
set_option maxRecDepth 100000 in
theorem jf_213_288 : jG m_R_goes 288 (.iload 7) [] (.null) 290 := ⟨rfl, rfl⟩
set_option maxRecDepth 100000 in
theorem jf_213_290 : jG m_R_goes 290 (.ifCond .le 12) [302] (.null) 293 := ⟨rfl, rfl⟩
set_option maxRecDepth 100000 in
theorem jf_213_293 : jG m_R_goes 293 (.aload_n 0) [] (.null) 294 := ⟨rfl, rfl⟩
set_option maxRecDepth 100000 in
theorem jf_213_294 : jG m_R_goes 294 (.invokevirtual 371) [6, 0, 9, m_R_goesOn] (.null) 297 := ⟨rfl, rfl⟩
set_option maxRecDepth 100000 in
theorem jf_213_297 : jG m_R_goes 297 (.istore 5) [] (.null) 299 := ⟨rfl, rfl⟩
set_option maxRecDepth 100000 in
theorem jf_213_299 : jG m_R_goes 299 (.goto 13) [312] (.null) 302 := ⟨rfl, rfl⟩
set_option maxRecDepth 100000 in
theorem jf_213_302 : jG m_R_goes 302 (.aload_n 0) [] (.null) 303 := ⟨rfl, rfl⟩
set_option maxRecDepth 100000 in
theorem jf_213_303 : jG m_R_goes 303 (.dup) [] (.null) 304 := ⟨rfl, rfl⟩
set_option maxRecDepth 100000 in
theorem jf_213_304 : jG m_R_goes 304 (.getfield 359) [9, 40] (.null) 307 := ⟨rfl, rfl⟩
set_option maxRecDepth 100000 in
theorem jf_213_307 : jG m_R_goes 307 (.iconst 1) [] (.null) 308 := ⟨rfl, rfl⟩
set_option maxRecDepth 100000 in
theorem jf_213_308 : jG m_R_goes 308 (.iadd) [] (.null) 309 := ⟨rfl, rfl⟩
set_option maxRecDepth 100000 in
theorem jf_213_309 : jG m_R_goes 309 (.putfield 359) [9, 40] (.null) 312 := ⟨rfl, rfl⟩
set_option maxRecDepth 100000 in
theorem jf_213_312 : jG m_R_goes 312 (.goto 118) [430] (.null) 315 := ⟨rfl, rfl⟩
set_option maxRecDepth 100000 in
theorem jf_213_315 : jG m_R_goes 315 (.aload_n 0) [] (.null) 316 := ⟨rfl, rfl⟩
set_option maxRecDepth 100000 in
theorem jf_213_316 : jG m_R_goes 316 (.getfield 13) [9, 2] (.null) 319 := ⟨rfl, rfl⟩
set_option maxRecDepth 100000 in
theorem jf_213_319 : jG m_R_goes 319 (.iload 6) [] (.null) 321 := ⟨rfl, rfl⟩
set_option maxRecDepth 100000 in
theorem jf_213_321 : jG m_R_goes 321 (.iaload) [] (.null) 322 := ⟨rfl, rfl⟩
set_option maxRecDepth 100000 in
theorem jf_213_322 : jG m_R_goes 322 (.bipush 13) [] (.null) 324 := ⟨rfl, rfl⟩
set_option maxRecDepth 100000 in
theorem jf_213_324 : jG m_R_goes 324 (.if_icmp .eq 15) [339] (.null) 327 := ⟨rfl, rfl⟩
set_option maxRecDepth 100000 in
theorem jf_213_327 : jG m_R_goes 327 (.aload_n 0) [] (.null) 328 := ⟨rfl, rfl⟩
set_option maxRecDepth 100000 in
theorem jf_213_328 : jG m_R_goes 328 (.getfield 13) [9, 2] (.null) 331 := ⟨rfl, rfl⟩
set_option maxRecDepth 100000 in
theorem jf_213_331 : jG m_R_goes 331 (.iload 6) [] (.null) 333 := ⟨rfl, rfl⟩
set_option maxRecDepth 100000 in
theorem jf_213_333 : jG m_R_goes 333 (.iaload) [] (.null) 334 := ⟨rfl, rfl⟩
set_option maxRecDepth 100000 in
theorem jf_213_334 : jG m_R_goes 334 (.bipush 14) [] (.null) 336 := ⟨rfl, rfl⟩
set_option maxRecDepth 100000 in
theorem jf_213_336 : jG m_R_goes 336 (.if_icmp .ne 29) [365] (.null) 339 := ⟨rfl, rfl⟩
set_option maxRecDepth 100000 in
theorem jf_213_339 : jG m_R_goes 339 (.aload_n 0) [] (.null) 340 := ⟨rfl, rfl⟩
set_option maxRecDepth 100000 in
theorem jf_213_340 : jG m_R_goes 340 (.aload_n 0) [] (.null) 341 := ⟨rfl, rfl⟩
set_option maxRecDepth 100000 in
theorem jf_213_341 : jG m_R_goes 341 (.getfield 20) [9, 4] (.null) 344 := ⟨rfl, rfl⟩
set_option maxRecDepth 100000 in
theorem jf_213_344 : jG m_R_goes 344 (.iload 6) [] (.null) 346 := ⟨rfl, rfl⟩
set_option maxRecDepth 100000 in
theorem jf_213_346 : jG m_R_goes 346 (.iaload) [] (.null) 347 := ⟨rfl, rfl⟩
set_option maxRecDepth 100000 in
theorem jf_213_347 : jG m_R_goes 347 (.iconst 1) [] (.null) 348 := ⟨rfl, rfl⟩
set_option maxRecDepth 100000 in
theorem jf_213_348 : jG m_R_goes 348 (.isub) [] (.null) 349 := ⟨rfl, rfl⟩
set_option maxRecDepth 100000 in
theorem jf_213_349 : jG m_R_goes 349 (.invokevirtual 375) [6, 1, 9, m_R_waits] (.null) 352 := ⟨rfl, rfl⟩
set_option maxRecDepth 100000 in
theorem jf_213_352 : jG m_R_goes 352 (.aload_n 0) [] (.null) 353 := ⟨rfl, rfl⟩
set_option maxRecDepth 100000 in
theorem jf_213_353 : jG m_R_goes 353 (.dup) [] (.null) 354 := ⟨rfl, rfl⟩
set_option maxRecDepth 100000 in
theorem jf_213_354 : jG m_R_goes 354 (.getfield 359) [9, 40] (.null) 357 := ⟨rfl, rfl⟩
set_option maxRecDepth 100000 in
theorem jf_213_357 : jG m_R_goes 357 (.iconst 1) [] (.null) 358 := ⟨rfl, rfl⟩
set_option maxRecDepth 100000 in
theorem jf_213_358 : jG m_R_goes 358 (.iadd) [] (.null) 359 := ⟨rfl, rfl⟩
set_option maxRecDepth 100000 in
theorem jf_213_359 : jG m_R_goes 359 (.putfield 359) [9, 40] (.null) 362 := ⟨rfl, rfl⟩
set_option maxRecDepth 100000 in
theorem jf_213_362 : jG m_R_goes 362 (.goto 68) [430] (.null) 365 := ⟨rfl, rfl⟩
set_option maxRecDepth 100000 in
theorem jf_213_365 : jG m_R_goes 365 (.aload_n 0) [] (.null) 366 := ⟨rfl, rfl⟩
set_option maxRecDepth 100000 in
theorem jf_213_366 : jG m_R_goes 366 (.getfield 13) [9, 2] (.null) 369 := ⟨rfl, rfl⟩
set_option maxRecDepth 100000 in
theorem jf_213_369 : jG m_R_goes 369 (.iload 6) [] (.null) 371 := ⟨rfl, rfl⟩
set_option maxRecDepth 100000 in
theorem jf_213_371 : jG m_R_goes 371 (.iaload) [] (.null) 372 := ⟨rfl, rfl⟩
set_option maxRecDepth 100000 in
theorem jf_213_372 : jG m_R_goes 372 (.bipush 15) [] (.null) 374 := ⟨rfl, rfl⟩
set_option maxRecDepth 100000 in
theorem jf_213_374 : jG m_R_goes 374 (.if_icmp .ne 38) [412] (.null) 377 := ⟨rfl, rfl⟩
set_option maxRecDepth 100000 in
theorem jf_213_377 : jG m_R_goes 377 (.aload_n 0) [] (.null) 378 := ⟨rfl, rfl⟩
set_option maxRecDepth 100000 in
theorem jf_213_378 : jG m_R_goes 378 (.getfield 39) [9, 10] (.null) 381 := ⟨rfl, rfl⟩
set_option maxRecDepth 100000 in
theorem jf_213_381 : jG m_R_goes 381 (.iload 6) [] (.null) 383 := ⟨rfl, rfl⟩
set_option maxRecDepth 100000 in
theorem jf_213_383 : jG m_R_goes 383 (.iaload) [] (.null) 384 := ⟨rfl, rfl⟩
set_option maxRecDepth 100000 in
theorem jf_213_384 : jG m_R_goes 384 (.iconst (-1)) [] (.null) 385 := ⟨rfl, rfl⟩
set_option maxRecDepth 100000 in
theorem jf_213_385 : jG m_R_goes 385 (.if_icmp .eq 27) [412] (.null) 388 := ⟨rfl, rfl⟩
set_option maxRecDepth 100000 in
theorem jf_213_388 : jG m_R_goes 388 (.aload_n 0) [] (.null) 389 := ⟨rfl, rfl⟩
set_option maxRecDepth 100000 in
theorem jf_213_389 : jG m_R_goes 389 (.iconst (-1)) [] (.null) 390 := ⟨rfl, rfl⟩
set_option maxRecDepth 100000 in
theorem jf_213_390 : jG m_R_goes 390 (.invokevirtual 375) [6, 1, 9, m_R_waits] (.null) 393 := ⟨rfl, rfl⟩
set_option maxRecDepth 100000 in
theorem jf_213_393 : jG m_R_goes 393 (.aload_n 0) [] (.null) 394 := ⟨rfl, rfl⟩
set_option maxRecDepth 100000 in
theorem jf_213_394 : jG m_R_goes 394 (.aload_n 0) [] (.null) 395 := ⟨rfl, rfl⟩
set_option maxRecDepth 100000 in
theorem jf_213_395 : jG m_R_goes 395 (.getfield 39) [9, 10] (.null) 398 := ⟨rfl, rfl⟩
set_option maxRecDepth 100000 in
theorem jf_213_398 : jG m_R_goes 398 (.iload 6) [] (.null) 400 := ⟨rfl, rfl⟩
set_option maxRecDepth 100000 in
theorem jf_213_400 : jG m_R_goes 400 (.iaload) [] (.null) 401 := ⟨rfl, rfl⟩
set_option maxRecDepth 100000 in
theorem jf_213_401 : jG m_R_goes 401 (.putfield 356) [9, 39] (.null) 404 := ⟨rfl, rfl⟩
set_option maxRecDepth 100000 in
theorem jf_213_404 : jG m_R_goes 404 (.aload_n 0) [] (.null) 405 := ⟨rfl, rfl⟩
set_option maxRecDepth 100000 in
theorem jf_213_405 : jG m_R_goes 405 (.iconst 0) [] (.null) 406 := ⟨rfl, rfl⟩
set_option maxRecDepth 100000 in
theorem jf_213_406 : jG m_R_goes 406 (.putfield 359) [9, 40] (.null) 409 := ⟨rfl, rfl⟩
set_option maxRecDepth 100000 in
theorem jf_213_409 : jG m_R_goes 409 (.goto 21) [430] (.null) 412 := ⟨rfl, rfl⟩
set_option maxRecDepth 100000 in
theorem jf_213_412 : jG m_R_goes 412 (.aload_n 0) [] (.null) 413 := ⟨rfl, rfl⟩
set_option maxRecDepth 100000 in
theorem jf_213_413 : jG m_R_goes 413 (.aload_n 0) [] (.null) 414 := ⟨rfl, rfl⟩
set_option maxRecDepth 100000 in
theorem jf_213_414 : jG m_R_goes 414 (.iload 6) [] (.null) 416 := ⟨rfl, rfl⟩
set_option maxRecDepth 100000 in
theorem jf_213_416 : jG m_R_goes 416 (.aload_n 0) [] (.null) 417 := ⟨rfl, rfl⟩
set_option maxRecDepth 100000 in
theorem jf_213_417 : jG m_R_goes 417 (.getfield 362) [9, 41] (.null) 420 := ⟨rfl, rfl⟩
set_option maxRecDepth 100000 in
theorem jf_213_420 : jG m_R_goes 420 (.invokevirtual 377) [6, 2, 9, m_R_works] (.null) 423 := ⟨rfl, rfl⟩
set_option maxRecDepth 100000 in
theorem jf_213_423 : jG m_R_goes 423 (.putfield 362) [9, 41] (.null) 426 := ⟨rfl, rfl⟩
set_option maxRecDepth 100000 in
theorem jf_213_426 : jG m_R_goes 426 (.aload_n 0) [] (.null) 427 := ⟨rfl, rfl⟩
set_option maxRecDepth 100000 in
theorem jf_213_427 : jG m_R_goes 427 (.invokevirtual 368) [6, 0, 9, m_R_leaves] (.null) 430 := ⟨rfl, rfl⟩
set_option maxRecDepth 100000 in
theorem jf_213_430 : jG m_R_goes 430 (.goto (-404)) [26] (.null) 433 := ⟨rfl, rfl⟩
set_option maxRecDepth 100000 in
theorem jf_213_433 : jG m_R_goes 433 (.iload 4) [] (.null) 435 := ⟨rfl, rfl⟩
set_option maxRecDepth 100000 in
theorem jf_213_435 : jG m_R_goes 435 (.ireturn) [] (.null) 436 := ⟨rfl, rfl⟩
set_option maxRecDepth 100000 in
theorem jf_214_0 : jG m_R_goesOn 0 (.aload_n 0) [] (.null) 1 := ⟨rfl, rfl⟩
set_option maxRecDepth 100000 in
theorem jf_214_1 : jG m_R_goesOn 1 (.getfield 353) [9, 34] (.null) 4 := ⟨rfl, rfl⟩
set_option maxRecDepth 100000 in
theorem jf_214_4 : jG m_R_goesOn 4 (.ifCond .ne 5) [9] (.null) 7 := ⟨rfl, rfl⟩
set_option maxRecDepth 100000 in
theorem jf_214_7 : jG m_R_goesOn 7 (.iconst 0) [] (.null) 8 := ⟨rfl, rfl⟩
set_option maxRecDepth 100000 in
theorem jf_214_8 : jG m_R_goesOn 8 (.ireturn) [] (.null) 9 := ⟨rfl, rfl⟩
set_option maxRecDepth 100000 in
theorem jf_214_9 : jG m_R_goesOn 9 (.aload_n 0) [] (.null) 10 := ⟨rfl, rfl⟩
set_option maxRecDepth 100000 in
theorem jf_214_10 : jG m_R_goesOn 10 (.getfield 353) [9, 34] (.null) 13 := ⟨rfl, rfl⟩
set_option maxRecDepth 100000 in
theorem jf_214_13 : jG m_R_goesOn 13 (.iconst 1) [] (.null) 14 := ⟨rfl, rfl⟩
set_option maxRecDepth 100000 in
theorem jf_214_14 : jG m_R_goesOn 14 (.isub) [] (.null) 15 := ⟨rfl, rfl⟩
set_option maxRecDepth 100000 in
theorem jf_214_15 : jG m_R_goesOn 15 (.istore_n 1) [] (.null) 16 := ⟨rfl, rfl⟩
set_option maxRecDepth 100000 in
theorem jf_214_16 : jG m_R_goesOn 16 (.aload_n 0) [] (.null) 17 := ⟨rfl, rfl⟩
set_option maxRecDepth 100000 in
theorem jf_214_17 : jG m_R_goesOn 17 (.aload_n 0) [] (.null) 18 := ⟨rfl, rfl⟩
set_option maxRecDepth 100000 in
theorem jf_214_18 : jG m_R_goesOn 18 (.getfield 94) [9, 35] (.null) 21 := ⟨rfl, rfl⟩
set_option maxRecDepth 100000 in
theorem jf_214_21 : jG m_R_goesOn 21 (.iload_n 1) [] (.null) 22 := ⟨rfl, rfl⟩
set_option maxRecDepth 100000 in
theorem jf_214_22 : jG m_R_goesOn 22 (.iaload) [] (.null) 23 := ⟨rfl, rfl⟩
set_option maxRecDepth 100000 in
theorem jf_214_23 : jG m_R_goesOn 23 (.putfield 356) [9, 39] (.null) 26 := ⟨rfl, rfl⟩
set_option maxRecDepth 100000 in
theorem jf_214_26 : jG m_R_goesOn 26 (.aload_n 0) [] (.null) 27 := ⟨rfl, rfl⟩
set_option maxRecDepth 100000 in
theorem jf_214_27 : jG m_R_goesOn 27 (.aload_n 0) [] (.null) 28 := ⟨rfl, rfl⟩
set_option maxRecDepth 100000 in
theorem jf_214_28 : jG m_R_goesOn 28 (.getfield 97) [9, 36] (.null) 31 := ⟨rfl, rfl⟩
set_option maxRecDepth 100000 in
theorem jf_214_31 : jG m_R_goesOn 31 (.iload_n 1) [] (.null) 32 := ⟨rfl, rfl⟩
set_option maxRecDepth 100000 in
theorem jf_214_32 : jG m_R_goesOn 32 (.iaload) [] (.null) 33 := ⟨rfl, rfl⟩
set_option maxRecDepth 100000 in
theorem jf_214_33 : jG m_R_goesOn 33 (.putfield 359) [9, 40] (.null) 36 := ⟨rfl, rfl⟩
set_option maxRecDepth 100000 in
theorem jf_214_36 : jG m_R_goesOn 36 (.aload_n 0) [] (.null) 37 := ⟨rfl, rfl⟩
set_option maxRecDepth 100000 in
theorem jf_214_37 : jG m_R_goesOn 37 (.getfield 61) [9, 18] (.null) 40 := ⟨rfl, rfl⟩
set_option maxRecDepth 100000 in
theorem jf_214_40 : jG m_R_goesOn 40 (.bipush 10) [] (.null) 42 := ⟨rfl, rfl⟩
set_option maxRecDepth 100000 in
theorem jf_214_42 : jG m_R_goesOn 42 (.aload_n 0) [] (.null) 43 := ⟨rfl, rfl⟩
set_option maxRecDepth 100000 in
theorem jf_214_43 : jG m_R_goesOn 43 (.getfield 356) [9, 39] (.null) 46 := ⟨rfl, rfl⟩
set_option maxRecDepth 100000 in
theorem jf_214_46 : jG m_R_goesOn 46 (.imul) [] (.null) 47 := ⟨rfl, rfl⟩
set_option maxRecDepth 100000 in
theorem jf_214_47 : jG m_R_goesOn 47 (.aload_n 0) [] (.null) 48 := ⟨rfl, rfl⟩
set_option maxRecDepth 100000 in
theorem jf_214_48 : jG m_R_goesOn 48 (.getfield 359) [9, 40] (.null) 51 := ⟨rfl, rfl⟩
set_option maxRecDepth 100000 in
theorem jf_214_51 : jG m_R_goesOn 51 (.iadd) [] (.null) 52 := ⟨rfl, rfl⟩
set_option maxRecDepth 100000 in
theorem jf_214_52 : jG m_R_goesOn 52 (.iaload) [] (.null) 53 := ⟨rfl, rfl⟩
set_option maxRecDepth 100000 in
theorem jf_214_53 : jG m_R_goesOn 53 (.istore_n 2) [] (.null) 54 := ⟨rfl, rfl⟩
set_option maxRecDepth 100000 in
theorem jf_214_54 : jG m_R_goesOn 54 (.aload_n 0) [] (.null) 55 := ⟨rfl, rfl⟩
set_option maxRecDepth 100000 in
theorem jf_214_55 : jG m_R_goesOn 55 (.getfield 100) [9, 37] (.null) 58 := ⟨rfl, rfl⟩
set_option maxRecDepth 100000 in
theorem jf_214_58 : jG m_R_goesOn 58 (.iload_n 1) [] (.null) 59 := ⟨rfl, rfl⟩
set_option maxRecDepth 100000 in
theorem jf_214_59 : jG m_R_goesOn 59 (.iaload) [] (.null) 60 := ⟨rfl, rfl⟩
set_option maxRecDepth 100000 in
theorem jf_214_60 : jG m_R_goesOn 60 (.ifCond .ge 64) [124] (.null) 63 := ⟨rfl, rfl⟩
set_option maxRecDepth 100000 in
theorem jf_214_63 : jG m_R_goesOn 63 (.aload_n 0) [] (.null) 64 := ⟨rfl, rfl⟩
set_option maxRecDepth 100000 in
theorem jf_214_64 : jG m_R_goesOn 64 (.dup) [] (.null) 65 := ⟨rfl, rfl⟩
set_option maxRecDepth 100000 in
theorem jf_214_65 : jG m_R_goesOn 65 (.getfield 353) [9, 34] (.null) 68 := ⟨rfl, rfl⟩
set_option maxRecDepth 100000 in
theorem jf_214_68 : jG m_R_goesOn 68 (.iconst 1) [] (.null) 69 := ⟨rfl, rfl⟩
set_option maxRecDepth 100000 in
theorem jf_214_69 : jG m_R_goesOn 69 (.isub) [] (.null) 70 := ⟨rfl, rfl⟩
set_option maxRecDepth 100000 in
theorem jf_214_70 : jG m_R_goesOn 70 (.putfield 353) [9, 34] (.null) 73 := ⟨rfl, rfl⟩
set_option maxRecDepth 100000 in
theorem jf_214_73 : jG m_R_goesOn 73 (.aload_n 0) [] (.null) 74 := ⟨rfl, rfl⟩
set_option maxRecDepth 100000 in
theorem jf_214_74 : jG m_R_goesOn 74 (.iload_n 2) [] (.null) 75 := ⟨rfl, rfl⟩
set_option maxRecDepth 100000 in
theorem jf_214_75 : jG m_R_goesOn 75 (.invokevirtual 320) [6, 1, 9, m_R_begins] (.null) 78 := ⟨rfl, rfl⟩
set_option maxRecDepth 100000 in
theorem jf_214_78 : jG m_R_goesOn 78 (.aload_n 0) [] (.null) 79 := ⟨rfl, rfl⟩
set_option maxRecDepth 100000 in
theorem jf_214_79 : jG m_R_goesOn 79 (.aload_n 0) [] (.null) 80 := ⟨rfl, rfl⟩
set_option maxRecDepth 100000 in
theorem jf_214_80 : jG m_R_goesOn 80 (.iload_n 2) [] (.null) 81 := ⟨rfl, rfl⟩
set_option maxRecDepth 100000 in
theorem jf_214_81 : jG m_R_goesOn 81 (.iconst 0) [] (.null) 82 := ⟨rfl, rfl⟩
set_option maxRecDepth 100000 in
theorem jf_214_82 : jG m_R_goesOn 82 (.invokevirtual 323) [6, 2, 9, m_R_c] (.null) 85 := ⟨rfl, rfl⟩
set_option maxRecDepth 100000 in
theorem jf_214_85 : jG m_R_goesOn 85 (.aload_n 0) [] (.null) 86 := ⟨rfl, rfl⟩
set_option maxRecDepth 100000 in
theorem jf_214_86 : jG m_R_goesOn 86 (.getfield 103) [9, 38] (.null) 89 := ⟨rfl, rfl⟩
set_option maxRecDepth 100000 in
theorem jf_214_89 : jG m_R_goesOn 89 (.iload_n 1) [] (.null) 90 := ⟨rfl, rfl⟩
set_option maxRecDepth 100000 in
theorem jf_214_90 : jG m_R_goesOn 90 (.daload) [] (.null) 91 := ⟨rfl, rfl⟩
set_option maxRecDepth 100000 in
theorem jf_214_91 : jG m_R_goesOn 91 (.iconst 0) [] (.null) 92 := ⟨rfl, rfl⟩
set_option maxRecDepth 100000 in
theorem jf_214_92 : jG m_R_goesOn 92 (.invokevirtual 327) [6, 3, 9, m_R_term] (.null) 95 := ⟨rfl, rfl⟩
set_option maxRecDepth 100000 in
theorem jf_214_95 : jG m_R_goesOn 95 (.aload_n 0) [] (.null) 96 := ⟨rfl, rfl⟩
set_option maxRecDepth 100000 in
theorem jf_214_96 : jG m_R_goesOn 96 (.aload_n 0) [] (.null) 97 := ⟨rfl, rfl⟩
set_option maxRecDepth 100000 in
theorem jf_214_97 : jG m_R_goesOn 97 (.iload_n 2) [] (.null) 98 := ⟨rfl, rfl⟩
set_option maxRecDepth 100000 in
theorem jf_214_98 : jG m_R_goesOn 98 (.iconst 1) [] (.null) 99 := ⟨rfl, rfl⟩
set_option maxRecDepth 100000 in
theorem jf_214_99 : jG m_R_goesOn 99 (.invokevirtual 323) [6, 2, 9, m_R_c] (.null) 102 := ⟨rfl, rfl⟩
set_option maxRecDepth 100000 in
theorem jf_214_102 : jG m_R_goesOn 102 (.aload_n 0) [] (.null) 103 := ⟨rfl, rfl⟩
set_option maxRecDepth 100000 in
theorem jf_214_103 : jG m_R_goesOn 103 (.getfield 365) [9, 33] (.null) 106 := ⟨rfl, rfl⟩
set_option maxRecDepth 100000 in
theorem jf_214_106 : jG m_R_goesOn 106 (.iconst 0) [] (.null) 107 := ⟨rfl, rfl⟩
set_option maxRecDepth 100000 in
theorem jf_214_107 : jG m_R_goesOn 107 (.invokevirtual 327) [6, 3, 9, m_R_term] (.null) 110 := ⟨rfl, rfl⟩
set_option maxRecDepth 100000 in
theorem jf_214_110 : jG m_R_goesOn 110 (.aload_n 0) [] (.null) 111 := ⟨rfl, rfl⟩
set_option maxRecDepth 100000 in
theorem jf_214_111 : jG m_R_goesOn 111 (.aload_n 0) [] (.null) 112 := ⟨rfl, rfl⟩
set_option maxRecDepth 100000 in
theorem jf_214_112 : jG m_R_goesOn 112 (.invokevirtual 331) [6, 0, 9, m_R_comes] (.null) 115 := ⟨rfl, rfl⟩
set_option maxRecDepth 100000 in
theorem jf_214_115 : jG m_R_goesOn 115 (.putfield 362) [9, 41] (.null) 118 := ⟨rfl, rfl⟩
set_option maxRecDepth 100000 in
theorem jf_214_118 : jG m_R_goesOn 118 (.aload_n 0) [] (.null) 119 := ⟨rfl, rfl⟩
set_option maxRecDepth 100000 in
theorem jf_214_119 : jG m_R_goesOn 119 (.invokevirtual 368) [6, 0, 9, m_R_leaves] (.null) 122 := ⟨rfl, rfl⟩
set_option maxRecDepth 100000 in
theorem jf_214_122 : jG m_R_goesOn 122 (.iconst 1) [] (.null) 123 := ⟨rfl, rfl⟩
set_option maxRecDepth 100000 in
theorem jf_214_123 : jG m_R_goesOn 123 (.ireturn) [] (.null) 124 := ⟨rfl, rfl⟩
set_option maxRecDepth 100000 in
theorem jf_214_124 : jG m_R_goesOn 124 (.aload_n 0) [] (.null) 125 := ⟨rfl, rfl⟩
set_option maxRecDepth 100000 in
theorem jf_214_125 : jG m_R_goesOn 125 (.getfield 100) [9, 37] (.null) 128 := ⟨rfl, rfl⟩
set_option maxRecDepth 100000 in
theorem jf_214_128 : jG m_R_goesOn 128 (.iload_n 1) [] (.null) 129 := ⟨rfl, rfl⟩
set_option maxRecDepth 100000 in
theorem jf_214_129 : jG m_R_goesOn 129 (.dup2) [] (.null) 130 := ⟨rfl, rfl⟩
set_option maxRecDepth 100000 in
theorem jf_214_130 : jG m_R_goesOn 130 (.iaload) [] (.null) 131 := ⟨rfl, rfl⟩
set_option maxRecDepth 100000 in
theorem jf_214_131 : jG m_R_goesOn 131 (.iconst 1) [] (.null) 132 := ⟨rfl, rfl⟩
set_option maxRecDepth 100000 in
theorem jf_214_132 : jG m_R_goesOn 132 (.isub) [] (.null) 133 := ⟨rfl, rfl⟩
set_option maxRecDepth 100000 in
theorem jf_214_133 : jG m_R_goesOn 133 (.iastore) [] (.null) 134 := ⟨rfl, rfl⟩
set_option maxRecDepth 100000 in
theorem jf_214_134 : jG m_R_goesOn 134 (.aload_n 0) [] (.null) 135 := ⟨rfl, rfl⟩
set_option maxRecDepth 100000 in
theorem jf_214_135 : jG m_R_goesOn 135 (.getfield 100) [9, 37] (.null) 138 := ⟨rfl, rfl⟩
set_option maxRecDepth 100000 in
theorem jf_214_138 : jG m_R_goesOn 138 (.iload_n 1) [] (.null) 139 := ⟨rfl, rfl⟩
set_option maxRecDepth 100000 in
theorem jf_214_139 : jG m_R_goesOn 139 (.iaload) [] (.null) 140 := ⟨rfl, rfl⟩
set_option maxRecDepth 100000 in
theorem jf_214_140 : jG m_R_goesOn 140 (.ifCond .ne 13) [153] (.null) 143 := ⟨rfl, rfl⟩
set_option maxRecDepth 100000 in
theorem jf_214_143 : jG m_R_goesOn 143 (.aload_n 0) [] (.null) 144 := ⟨rfl, rfl⟩
set_option maxRecDepth 100000 in
theorem jf_214_144 : jG m_R_goesOn 144 (.dup) [] (.null) 145 := ⟨rfl, rfl⟩
set_option maxRecDepth 100000 in
theorem jf_214_145 : jG m_R_goesOn 145 (.getfield 353) [9, 34] (.null) 148 := ⟨rfl, rfl⟩
set_option maxRecDepth 100000 in
theorem jf_214_148 : jG m_R_goesOn 148 (.iconst 1) [] (.null) 149 := ⟨rfl, rfl⟩
set_option maxRecDepth 100000 in
theorem jf_214_149 : jG m_R_goesOn 149 (.isub) [] (.null) 150 := ⟨rfl, rfl⟩
set_option maxRecDepth 100000 in
theorem jf_214_150 : jG m_R_goesOn 150 (.putfield 353) [9, 34] (.null) 153 := ⟨rfl, rfl⟩
set_option maxRecDepth 100000 in
theorem jf_214_153 : jG m_R_goesOn 153 (.aload_n 0) [] (.null) 154 := ⟨rfl, rfl⟩
set_option maxRecDepth 100000 in
theorem jf_214_154 : jG m_R_goesOn 154 (.aload_n 0) [] (.null) 155 := ⟨rfl, rfl⟩
set_option maxRecDepth 100000 in
theorem jf_214_155 : jG m_R_goesOn 155 (.getfield 13) [9, 2] (.null) 158 := ⟨rfl, rfl⟩
set_option maxRecDepth 100000 in
theorem jf_214_158 : jG m_R_goesOn 158 (.iload_n 2) [] (.null) 159 := ⟨rfl, rfl⟩
set_option maxRecDepth 100000 in
theorem jf_214_159 : jG m_R_goesOn 159 (.iaload) [] (.null) 160 := ⟨rfl, rfl⟩
set_option maxRecDepth 100000 in
theorem jf_214_160 : jG m_R_goesOn 160 (.bipush 14) [] (.null) 162 := ⟨rfl, rfl⟩
set_option maxRecDepth 100000 in
theorem jf_214_162 : jG m_R_goesOn 162 (.if_icmp .ne 12) [174] (.null) 165 := ⟨rfl, rfl⟩
set_option maxRecDepth 100000 in
theorem jf_214_165 : jG m_R_goesOn 165 (.aload_n 0) [] (.null) 166 := ⟨rfl, rfl⟩
set_option maxRecDepth 100000 in
theorem jf_214_166 : jG m_R_goesOn 166 (.getfield 103) [9, 38] (.null) 169 := ⟨rfl, rfl⟩
set_option maxRecDepth 100000 in
theorem jf_214_169 : jG m_R_goesOn 169 (.iload_n 1) [] (.null) 170 := ⟨rfl, rfl⟩
set_option maxRecDepth 100000 in
theorem jf_214_170 : jG m_R_goesOn 170 (.daload) [] (.null) 171 := ⟨rfl, rfl⟩
set_option maxRecDepth 100000 in
theorem jf_214_171 : jG m_R_goesOn 171 (.goto 4) [175] (.null) 174 := ⟨rfl, rfl⟩
set_option maxRecDepth 100000 in
theorem jf_214_174 : jG m_R_goesOn 174 (.dconst 0) [] (.null) 175 := ⟨rfl, rfl⟩
set_option maxRecDepth 100000 in
theorem jf_214_175 : jG m_R_goesOn 175 (.putfield 362) [9, 41] (.null) 178 := ⟨rfl, rfl⟩
set_option maxRecDepth 100000 in
theorem jf_214_178 : jG m_R_goesOn 178 (.aload_n 0) [] (.null) 179 := ⟨rfl, rfl⟩
set_option maxRecDepth 100000 in
theorem jf_214_179 : jG m_R_goesOn 179 (.dup) [] (.null) 180 := ⟨rfl, rfl⟩
set_option maxRecDepth 100000 in
theorem jf_214_180 : jG m_R_goesOn 180 (.getfield 359) [9, 40] (.null) 183 := ⟨rfl, rfl⟩
set_option maxRecDepth 100000 in
theorem jf_214_183 : jG m_R_goesOn 183 (.iconst 1) [] (.null) 184 := ⟨rfl, rfl⟩
set_option maxRecDepth 100000 in
theorem jf_214_184 : jG m_R_goesOn 184 (.iadd) [] (.null) 185 := ⟨rfl, rfl⟩
set_option maxRecDepth 100000 in
theorem jf_214_185 : jG m_R_goesOn 185 (.putfield 359) [9, 40] (.null) 188 := ⟨rfl, rfl⟩
set_option maxRecDepth 100000 in
theorem jf_214_188 : jG m_R_goesOn 188 (.iconst 1) [] (.null) 189 := ⟨rfl, rfl⟩
set_option maxRecDepth 100000 in
theorem jf_214_189 : jG m_R_goesOn 189 (.ireturn) [] (.null) 190 := ⟨rfl, rfl⟩
theorem jf_215_0 : jG m_R_begins 0 (.aload_n 0) [] (.null) 1 := ⟨rfl, rfl⟩
theorem jf_215_1 : jG m_R_begins 1 (.iload_n 1) [] (.null) 2 := ⟨rfl, rfl⟩
theorem jf_215_2 : jG m_R_begins 2 (.putfield 280) [9, 29] (.null) 5 := ⟨rfl, rfl⟩
theorem jf_215_5 : jG m_R_begins 5 (.aload_n 0) [] (.null) 6 := ⟨rfl, rfl⟩
theorem jf_215_6 : jG m_R_begins 6 (.iconst 0) [] (.null) 7 := ⟨rfl, rfl⟩
theorem jf_215_7 : jG m_R_begins 7 (.putfield 283) [9, 30] (.null) 10 := ⟨rfl, rfl⟩
theorem jf_215_10 : jG m_R_begins 10 (.aload_n 0) [] (.null) 11 := ⟨rfl, rfl⟩
theorem jf_215_11 : jG m_R_begins 11 (.dconst 0) [] (.null) 12 := ⟨rfl, rfl⟩
theorem jf_215_12 : jG m_R_begins 12 (.putfield 286) [9, 31] (.null) 15 := ⟨rfl, rfl⟩
theorem jf_215_15 : jG m_R_begins 15 (.aload_n 0) [] (.null) 16 := ⟨rfl, rfl⟩
theorem jf_215_16 : jG m_R_begins 16 (.lconst 0) [] (.null) 17 := ⟨rfl, rfl⟩
theorem jf_215_17 : jG m_R_begins 17 (.putfield 290) [9, 32] (.null) 20 := ⟨rfl, rfl⟩
theorem jf_215_20 : jG m_R_begins 20 (.return_) [] (.null) 21 := ⟨rfl, rfl⟩
theorem jf_216_0 : jG m_R_c 0 (.aload_n 0) [] (.null) 1 := ⟨rfl, rfl⟩
theorem jf_216_1 : jG m_R_c 1 (.getfield 29) [9, 7] (.null) 4 := ⟨rfl, rfl⟩
theorem jf_216_4 : jG m_R_c 4 (.iconst 5) [] (.null) 5 := ⟨rfl, rfl⟩
theorem jf_216_5 : jG m_R_c 5 (.iload_n 1) [] (.null) 6 := ⟨rfl, rfl⟩
theorem jf_216_6 : jG m_R_c 6 (.imul) [] (.null) 7 := ⟨rfl, rfl⟩
theorem jf_216_7 : jG m_R_c 7 (.iload_n 2) [] (.null) 8 := ⟨rfl, rfl⟩
theorem jf_216_8 : jG m_R_c 8 (.iadd) [] (.null) 9 := ⟨rfl, rfl⟩
theorem jf_216_9 : jG m_R_c 9 (.daload) [] (.null) 10 := ⟨rfl, rfl⟩
theorem jf_216_10 : jG m_R_c 10 (.dreturn) [] (.null) 11 := ⟨rfl, rfl⟩
theorem jf_217_0 : jG m_R_term 0 (.aload_n 0) [] (.null) 1 := ⟨rfl, rfl⟩
theorem jf_217_1 : jG m_R_term 1 (.getfield 17) [9, 3] (.null) 4 := ⟨rfl, rfl⟩
theorem jf_217_4 : jG m_R_term 4 (.aload_n 0) [] (.null) 5 := ⟨rfl, rfl⟩
theorem jf_217_5 : jG m_R_term 5 (.getfield 280) [9, 29] (.null) 8 := ⟨rfl, rfl⟩
theorem jf_217_8 : jG m_R_term 8 (.iaload) [] (.null) 9 := ⟨rfl, rfl⟩
theorem jf_217_9 : jG m_R_term 9 (.iconst 2) [] (.null) 10 := ⟨rfl, rfl⟩
theorem jf_217_10 : jG m_R_term 10 (.if_icmp .ne 35) [45] (.null) 13 := ⟨rfl, rfl⟩
theorem jf_217_13 : jG m_R_term 13 (.dload_n 1) [] (.null) 14 := ⟨rfl, rfl⟩
theorem jf_217_14 : jG m_R_term 14 (.d2l) [] (.null) 15 := ⟨rfl, rfl⟩
theorem jf_217_15 : jG m_R_term 15 (.dload_n 3) [] (.null) 16 := ⟨rfl, rfl⟩
theorem jf_217_16 : jG m_R_term 16 (.d2l) [] (.null) 17 := ⟨rfl, rfl⟩
theorem jf_217_17 : jG m_R_term 17 (.lmul) [] (.null) 18 := ⟨rfl, rfl⟩
theorem jf_217_18 : jG m_R_term 18 (.lstore 6) [] (.null) 20 := ⟨rfl, rfl⟩
theorem jf_217_20 : jG m_R_term 20 (.aload_n 0) [] (.null) 21 := ⟨rfl, rfl⟩
theorem jf_217_21 : jG m_R_term 21 (.dup) [] (.null) 22 := ⟨rfl, rfl⟩
theorem jf_217_22 : jG m_R_term 22 (.getfield 290) [9, 32] (.null) 25 := ⟨rfl, rfl⟩
theorem jf_217_25 : jG m_R_term 25 (.iload 5) [] (.null) 27 := ⟨rfl, rfl⟩
theorem jf_217_27 : jG m_R_term 27 (.ifCond .eq 9) [36] (.null) 30 := ⟨rfl, rfl⟩
theorem jf_217_30 : jG m_R_term 30 (.lload 6) [] (.null) 32 := ⟨rfl, rfl⟩
theorem jf_217_32 : jG m_R_term 32 (.lneg) [] (.null) 33 := ⟨rfl, rfl⟩
theorem jf_217_33 : jG m_R_term 33 (.goto 5) [38] (.null) 36 := ⟨rfl, rfl⟩
theorem jf_217_36 : jG m_R_term 36 (.lload 6) [] (.null) 38 := ⟨rfl, rfl⟩
theorem jf_217_38 : jG m_R_term 38 (.ladd) [] (.null) 39 := ⟨rfl, rfl⟩
theorem jf_217_39 : jG m_R_term 39 (.putfield 290) [9, 32] (.null) 42 := ⟨rfl, rfl⟩
theorem jf_217_42 : jG m_R_term 42 (.goto 15) [57] (.null) 45 := ⟨rfl, rfl⟩
theorem jf_217_45 : jG m_R_term 45 (.aload_n 0) [] (.null) 46 := ⟨rfl, rfl⟩
theorem jf_217_46 : jG m_R_term 46 (.aload_n 0) [] (.null) 47 := ⟨rfl, rfl⟩
theorem jf_217_47 : jG m_R_term 47 (.dload_n 1) [] (.null) 48 := ⟨rfl, rfl⟩
theorem jf_217_48 : jG m_R_term 48 (.dload_n 3) [] (.null) 49 := ⟨rfl, rfl⟩
theorem jf_217_49 : jG m_R_term 49 (.invokevirtual 298) [6, 2, 9, m_R_product] (.null) 52 := ⟨rfl, rfl⟩
theorem jf_217_52 : jG m_R_term 52 (.iload 5) [] (.null) 54 := ⟨rfl, rfl⟩
theorem jf_217_54 : jG m_R_term 54 (.invokevirtual 294) [6, 2, 9, m_R_joins] (.null) 57 := ⟨rfl, rfl⟩
theorem jf_217_57 : jG m_R_term 57 (.return_) [] (.null) 58 := ⟨rfl, rfl⟩
theorem jf_218_0 : jG m_R_product 0 (.dload_n 1) [] (.null) 1 := ⟨rfl, rfl⟩
theorem jf_218_1 : jG m_R_product 1 (.dload_n 1) [] (.null) 2 := ⟨rfl, rfl⟩
theorem jf_218_2 : jG m_R_product 2 (.dcmp .l) [] (.null) 3 := ⟨rfl, rfl⟩
theorem jf_218_3 : jG m_R_product 3 (.ifCond .ne 9) [12] (.null) 6 := ⟨rfl, rfl⟩
theorem jf_218_6 : jG m_R_product 6 (.dload_n 3) [] (.null) 7 := ⟨rfl, rfl⟩
theorem jf_218_7 : jG m_R_product 7 (.dload_n 3) [] (.null) 8 := ⟨rfl, rfl⟩
theorem jf_218_8 : jG m_R_product 8 (.dcmp .l) [] (.null) 9 := ⟨rfl, rfl⟩
theorem jf_218_9 : jG m_R_product 9 (.ifCond .eq 7) [16] (.null) 12 := ⟨rfl, rfl⟩
theorem jf_218_12 : jG m_R_product 12 (.ldc2_w 191) [] (.double (9221120237041090560)) 15 := ⟨rfl, rfl⟩
theorem jf_218_15 : jG m_R_product 15 (.dreturn) [] (.null) 16 := ⟨rfl, rfl⟩
theorem jf_218_16 : jG m_R_product 16 (.dload_n 1) [] (.null) 17 := ⟨rfl, rfl⟩
theorem jf_218_17 : jG m_R_product 17 (.invokestatic 306) [3, m_R_isEndless, 1] (.null) 20 := ⟨rfl, rfl⟩
theorem jf_218_20 : jG m_R_product 20 (.ifCond .eq 9) [29] (.null) 23 := ⟨rfl, rfl⟩
theorem jf_218_23 : jG m_R_product 23 (.dload_n 3) [] (.null) 24 := ⟨rfl, rfl⟩
theorem jf_218_24 : jG m_R_product 24 (.dconst 0) [] (.null) 25 := ⟨rfl, rfl⟩
theorem jf_218_25 : jG m_R_product 25 (.dcmp .l) [] (.null) 26 := ⟨rfl, rfl⟩
theorem jf_218_26 : jG m_R_product 26 (.ifCond .eq 16) [42] (.null) 29 := ⟨rfl, rfl⟩
theorem jf_218_29 : jG m_R_product 29 (.dload_n 1) [] (.null) 30 := ⟨rfl, rfl⟩
theorem jf_218_30 : jG m_R_product 30 (.dconst 0) [] (.null) 31 := ⟨rfl, rfl⟩
theorem jf_218_31 : jG m_R_product 31 (.dcmp .l) [] (.null) 32 := ⟨rfl, rfl⟩
theorem jf_218_32 : jG m_R_product 32 (.ifCond .ne 14) [46] (.null) 35 := ⟨rfl, rfl⟩
theorem jf_218_35 : jG m_R_product 35 (.dload_n 3) [] (.null) 36 := ⟨rfl, rfl⟩
theorem jf_218_36 : jG m_R_product 36 (.invokestatic 306) [3, m_R_isEndless, 1] (.null) 39 := ⟨rfl, rfl⟩
theorem jf_218_39 : jG m_R_product 39 (.ifCond .eq 7) [46] (.null) 42 := ⟨rfl, rfl⟩
theorem jf_218_42 : jG m_R_product 42 (.ldc2_w 191) [] (.double (9221120237041090560)) 45 := ⟨rfl, rfl⟩
theorem jf_218_45 : jG m_R_product 45 (.dreturn) [] (.null) 46 := ⟨rfl, rfl⟩
theorem jf_218_46 : jG m_R_product 46 (.aload_n 0) [] (.null) 47 := ⟨rfl, rfl⟩
theorem jf_218_47 : jG m_R_product 47 (.getfield 17) [9, 3] (.null) 50 := ⟨rfl, rfl⟩
theorem jf_218_50 : jG m_R_product 50 (.aload_n 0) [] (.null) 51 := ⟨rfl, rfl⟩
theorem jf_218_51 : jG m_R_product 51 (.getfield 280) [9, 29] (.null) 54 := ⟨rfl, rfl⟩
theorem jf_218_54 : jG m_R_product 54 (.iaload) [] (.null) 55 := ⟨rfl, rfl⟩
theorem jf_218_55 : jG m_R_product 55 (.iconst 1) [] (.null) 56 := ⟨rfl, rfl⟩
theorem jf_218_56 : jG m_R_product 56 (.if_icmp .ne 10) [66] (.null) 59 := ⟨rfl, rfl⟩
theorem jf_218_59 : jG m_R_product 59 (.dload_n 1) [] (.null) 60 := ⟨rfl, rfl⟩
theorem jf_218_60 : jG m_R_product 60 (.d2f) [] (.null) 61 := ⟨rfl, rfl⟩
theorem jf_218_61 : jG m_R_product 61 (.dload_n 3) [] (.null) 62 := ⟨rfl, rfl⟩
theorem jf_218_62 : jG m_R_product 62 (.d2f) [] (.null) 63 := ⟨rfl, rfl⟩
theorem jf_218_63 : jG m_R_product 63 (.fmul) [] (.null) 64 := ⟨rfl, rfl⟩
theorem jf_218_64 : jG m_R_product 64 (.f2d) [] (.null) 65 := ⟨rfl, rfl⟩
theorem jf_218_65 : jG m_R_product 65 (.dreturn) [] (.null) 66 := ⟨rfl, rfl⟩
theorem jf_218_66 : jG m_R_product 66 (.dload_n 1) [] (.null) 67 := ⟨rfl, rfl⟩
theorem jf_218_67 : jG m_R_product 67 (.dload_n 3) [] (.null) 68 := ⟨rfl, rfl⟩
theorem jf_218_68 : jG m_R_product 68 (.dmul) [] (.null) 69 := ⟨rfl, rfl⟩
theorem jf_218_69 : jG m_R_product 69 (.dreturn) [] (.null) 70 := ⟨rfl, rfl⟩
theorem jf_219_0 : jG m_R_isEndless 0 (.dload_n 0) [] (.null) 1 := ⟨rfl, rfl⟩
theorem jf_219_1 : jG m_R_isEndless 1 (.ldc2_w 302) [] (.double (9218868437227405312)) 4 := ⟨rfl, rfl⟩
theorem jf_219_4 : jG m_R_isEndless 4 (.dcmp .l) [] (.null) 5 := ⟨rfl, rfl⟩
theorem jf_219_5 : jG m_R_isEndless 5 (.ifCond .eq 11) [16] (.null) 8 := ⟨rfl, rfl⟩
theorem jf_219_8 : jG m_R_isEndless 8 (.dload_n 0) [] (.null) 9 := ⟨rfl, rfl⟩
theorem jf_219_9 : jG m_R_isEndless 9 (.ldc2_w 304) [] (.double (18442240474082181120)) 12 := ⟨rfl, rfl⟩
theorem jf_219_12 : jG m_R_isEndless 12 (.dcmp .l) [] (.null) 13 := ⟨rfl, rfl⟩
theorem jf_219_13 : jG m_R_isEndless 13 (.ifCond .ne 7) [20] (.null) 16 := ⟨rfl, rfl⟩
theorem jf_219_16 : jG m_R_isEndless 16 (.iconst 1) [] (.null) 17 := ⟨rfl, rfl⟩
theorem jf_219_17 : jG m_R_isEndless 17 (.goto 4) [21] (.null) 20 := ⟨rfl, rfl⟩
theorem jf_219_20 : jG m_R_isEndless 20 (.iconst 0) [] (.null) 21 := ⟨rfl, rfl⟩
theorem jf_219_21 : jG m_R_isEndless 21 (.ireturn) [] (.null) 22 := ⟨rfl, rfl⟩
theorem jf_220_0 : jG m_R_joins 0 (.aload_n 0) [] (.null) 1 := ⟨rfl, rfl⟩
theorem jf_220_1 : jG m_R_joins 1 (.getfield 283) [9, 30] (.null) 4 := ⟨rfl, rfl⟩
theorem jf_220_4 : jG m_R_joins 4 (.ifCond .ne 11) [15] (.null) 7 := ⟨rfl, rfl⟩
theorem jf_220_7 : jG m_R_joins 7 (.aload_n 0) [] (.null) 8 := ⟨rfl, rfl⟩
theorem jf_220_8 : jG m_R_joins 8 (.dload_n 1) [] (.null) 9 := ⟨rfl, rfl⟩
theorem jf_220_9 : jG m_R_joins 9 (.putfield 286) [9, 31] (.null) 12 := ⟨rfl, rfl⟩
theorem jf_220_12 : jG m_R_joins 12 (.goto 144) [156] (.null) 15 := ⟨rfl, rfl⟩
theorem jf_220_15 : jG m_R_joins 15 (.aload_n 0) [] (.null) 16 := ⟨rfl, rfl⟩
theorem jf_220_16 : jG m_R_joins 16 (.getfield 286) [9, 31] (.null) 19 := ⟨rfl, rfl⟩
theorem jf_220_19 : jG m_R_joins 19 (.aload_n 0) [] (.null) 20 := ⟨rfl, rfl⟩
theorem jf_220_20 : jG m_R_joins 20 (.getfield 286) [9, 31] (.null) 23 := ⟨rfl, rfl⟩
theorem jf_220_23 : jG m_R_joins 23 (.dcmp .l) [] (.null) 24 := ⟨rfl, rfl⟩
theorem jf_220_24 : jG m_R_joins 24 (.ifCond .ne 9) [33] (.null) 27 := ⟨rfl, rfl⟩
theorem jf_220_27 : jG m_R_joins 27 (.dload_n 1) [] (.null) 28 := ⟨rfl, rfl⟩
theorem jf_220_28 : jG m_R_joins 28 (.dload_n 1) [] (.null) 29 := ⟨rfl, rfl⟩
theorem jf_220_29 : jG m_R_joins 29 (.dcmp .l) [] (.null) 30 := ⟨rfl, rfl⟩
theorem jf_220_30 : jG m_R_joins 30 (.ifCond .eq 13) [43] (.null) 33 := ⟨rfl, rfl⟩
theorem jf_220_33 : jG m_R_joins 33 (.aload_n 0) [] (.null) 34 := ⟨rfl, rfl⟩
theorem jf_220_34 : jG m_R_joins 34 (.ldc2_w 191) [] (.double (9221120237041090560)) 37 := ⟨rfl, rfl⟩
theorem jf_220_37 : jG m_R_joins 37 (.putfield 286) [9, 31] (.null) 40 := ⟨rfl, rfl⟩
theorem jf_220_40 : jG m_R_joins 40 (.goto 116) [156] (.null) 43 := ⟨rfl, rfl⟩
theorem jf_220_43 : jG m_R_joins 43 (.aload_n 0) [] (.null) 44 := ⟨rfl, rfl⟩
theorem jf_220_44 : jG m_R_joins 44 (.getfield 286) [9, 31] (.null) 47 := ⟨rfl, rfl⟩
theorem jf_220_47 : jG m_R_joins 47 (.invokestatic 306) [3, m_R_isEndless, 1] (.null) 50 := ⟨rfl, rfl⟩
theorem jf_220_50 : jG m_R_joins 50 (.ifCond .eq 38) [88] (.null) 53 := ⟨rfl, rfl⟩
theorem jf_220_53 : jG m_R_joins 53 (.dload_n 1) [] (.null) 54 := ⟨rfl, rfl⟩
theorem jf_220_54 : jG m_R_joins 54 (.invokestatic 306) [3, m_R_isEndless, 1] (.null) 57 := ⟨rfl, rfl⟩
theorem jf_220_57 : jG m_R_joins 57 (.ifCond .eq 31) [88] (.null) 60 := ⟨rfl, rfl⟩
theorem jf_220_60 : jG m_R_joins 60 (.aload_n 0) [] (.null) 61 := ⟨rfl, rfl⟩
theorem jf_220_61 : jG m_R_joins 61 (.getfield 286) [9, 31] (.null) 64 := ⟨rfl, rfl⟩
theorem jf_220_64 : jG m_R_joins 64 (.dload_n 1) [] (.null) 65 := ⟨rfl, rfl⟩
theorem jf_220_65 : jG m_R_joins 65 (.dcmp .l) [] (.null) 66 := ⟨rfl, rfl⟩
theorem jf_220_66 : jG m_R_joins 66 (.ifCond .ne 7) [73] (.null) 69 := ⟨rfl, rfl⟩
theorem jf_220_69 : jG m_R_joins 69 (.iconst 1) [] (.null) 70 := ⟨rfl, rfl⟩
theorem jf_220_70 : jG m_R_joins 70 (.goto 4) [74] (.null) 73 := ⟨rfl, rfl⟩
theorem jf_220_73 : jG m_R_joins 73 (.iconst 0) [] (.null) 74 := ⟨rfl, rfl⟩
theorem jf_220_74 : jG m_R_joins 74 (.iload_n 3) [] (.null) 75 := ⟨rfl, rfl⟩
theorem jf_220_75 : jG m_R_joins 75 (.if_icmp .ne 13) [88] (.null) 78 := ⟨rfl, rfl⟩
theorem jf_220_78 : jG m_R_joins 78 (.aload_n 0) [] (.null) 79 := ⟨rfl, rfl⟩
theorem jf_220_79 : jG m_R_joins 79 (.ldc2_w 191) [] (.double (9221120237041090560)) 82 := ⟨rfl, rfl⟩
theorem jf_220_82 : jG m_R_joins 82 (.putfield 286) [9, 31] (.null) 85 := ⟨rfl, rfl⟩
theorem jf_220_85 : jG m_R_joins 85 (.goto 71) [156] (.null) 88 := ⟨rfl, rfl⟩
theorem jf_220_88 : jG m_R_joins 88 (.aload_n 0) [] (.null) 89 := ⟨rfl, rfl⟩
theorem jf_220_89 : jG m_R_joins 89 (.getfield 17) [9, 3] (.null) 92 := ⟨rfl, rfl⟩
theorem jf_220_92 : jG m_R_joins 92 (.aload_n 0) [] (.null) 93 := ⟨rfl, rfl⟩
theorem jf_220_93 : jG m_R_joins 93 (.getfield 280) [9, 29] (.null) 96 := ⟨rfl, rfl⟩
theorem jf_220_96 : jG m_R_joins 96 (.iaload) [] (.null) 97 := ⟨rfl, rfl⟩
theorem jf_220_97 : jG m_R_joins 97 (.iconst 1) [] (.null) 98 := ⟨rfl, rfl⟩
theorem jf_220_98 : jG m_R_joins 98 (.if_icmp .ne 35) [133] (.null) 101 := ⟨rfl, rfl⟩
theorem jf_220_101 : jG m_R_joins 101 (.aload_n 0) [] (.null) 102 := ⟨rfl, rfl⟩
theorem jf_220_102 : jG m_R_joins 102 (.iload_n 3) [] (.null) 103 := ⟨rfl, rfl⟩
theorem jf_220_103 : jG m_R_joins 103 (.ifCond .eq 15) [118] (.null) 106 := ⟨rfl, rfl⟩
theorem jf_220_106 : jG m_R_joins 106 (.aload_n 0) [] (.null) 107 := ⟨rfl, rfl⟩
theorem jf_220_107 : jG m_R_joins 107 (.getfield 286) [9, 31] (.null) 110 := ⟨rfl, rfl⟩
theorem jf_220_110 : jG m_R_joins 110 (.d2f) [] (.null) 111 := ⟨rfl, rfl⟩
theorem jf_220_111 : jG m_R_joins 111 (.dload_n 1) [] (.null) 112 := ⟨rfl, rfl⟩
theorem jf_220_112 : jG m_R_joins 112 (.d2f) [] (.null) 113 := ⟨rfl, rfl⟩
theorem jf_220_113 : jG m_R_joins 113 (.fsub) [] (.null) 114 := ⟨rfl, rfl⟩
theorem jf_220_114 : jG m_R_joins 114 (.f2d) [] (.null) 115 := ⟨rfl, rfl⟩
theorem jf_220_115 : jG m_R_joins 115 (.goto 12) [127] (.null) 118 := ⟨rfl, rfl⟩
theorem jf_220_118 : jG m_R_joins 118 (.aload_n 0) [] (.null) 119 := ⟨rfl, rfl⟩
theorem jf_220_119 : jG m_R_joins 119 (.getfield 286) [9, 31] (.null) 122 := ⟨rfl, rfl⟩
theorem jf_220_122 : jG m_R_joins 122 (.d2f) [] (.null) 123 := ⟨rfl, rfl⟩
theorem jf_220_123 : jG m_R_joins 123 (.dload_n 1) [] (.null) 124 := ⟨rfl, rfl⟩
theorem jf_220_124 : jG m_R_joins 124 (.d2f) [] (.null) 125 := ⟨rfl, rfl⟩
theorem jf_220_125 : jG m_R_joins 125 (.fadd) [] (.null) 126 := ⟨rfl, rfl⟩
theorem jf_220_126 : jG m_R_joins 126 (.f2d) [] (.null) 127 := ⟨rfl, rfl⟩
theorem jf_220_127 : jG m_R_joins 127 (.putfield 286) [9, 31] (.null) 130 := ⟨rfl, rfl⟩
theorem jf_220_130 : jG m_R_joins 130 (.goto 26) [156] (.null) 133 := ⟨rfl, rfl⟩
theorem jf_220_133 : jG m_R_joins 133 (.aload_n 0) [] (.null) 134 := ⟨rfl, rfl⟩
theorem jf_220_134 : jG m_R_joins 134 (.iload_n 3) [] (.null) 135 := ⟨rfl, rfl⟩
theorem jf_220_135 : jG m_R_joins 135 (.ifCond .eq 12) [147] (.null) 138 := ⟨rfl, rfl⟩
theorem jf_220_138 : jG m_R_joins 138 (.aload_n 0) [] (.null) 139 := ⟨rfl, rfl⟩
theorem jf_220_139 : jG m_R_joins 139 (.getfield 286) [9, 31] (.null) 142 := ⟨rfl, rfl⟩
theorem jf_220_142 : jG m_R_joins 142 (.dload_n 1) [] (.null) 143 := ⟨rfl, rfl⟩
theorem jf_220_143 : jG m_R_joins 143 (.dsub) [] (.null) 144 := ⟨rfl, rfl⟩
theorem jf_220_144 : jG m_R_joins 144 (.goto 9) [153] (.null) 147 := ⟨rfl, rfl⟩
theorem jf_220_147 : jG m_R_joins 147 (.aload_n 0) [] (.null) 148 := ⟨rfl, rfl⟩
theorem jf_220_148 : jG m_R_joins 148 (.getfield 286) [9, 31] (.null) 151 := ⟨rfl, rfl⟩
theorem jf_220_151 : jG m_R_joins 151 (.dload_n 1) [] (.null) 152 := ⟨rfl, rfl⟩
theorem jf_220_152 : jG m_R_joins 152 (.dadd) [] (.null) 153 := ⟨rfl, rfl⟩
theorem jf_220_153 : jG m_R_joins 153 (.putfield 286) [9, 31] (.null) 156 := ⟨rfl, rfl⟩
theorem jf_220_156 : jG m_R_joins 156 (.aload_n 0) [] (.null) 157 := ⟨rfl, rfl⟩
theorem jf_220_157 : jG m_R_joins 157 (.dup) [] (.null) 158 := ⟨rfl, rfl⟩
theorem jf_220_158 : jG m_R_joins 158 (.getfield 283) [9, 30] (.null) 161 := ⟨rfl, rfl⟩
theorem jf_220_161 : jG m_R_joins 161 (.iconst 1) [] (.null) 162 := ⟨rfl, rfl⟩
theorem jf_220_162 : jG m_R_joins 162 (.iadd) [] (.null) 163 := ⟨rfl, rfl⟩
theorem jf_220_163 : jG m_R_joins 163 (.putfield 283) [9, 30] (.null) 166 := ⟨rfl, rfl⟩
theorem jf_220_166 : jG m_R_joins 166 (.return_) [] (.null) 167 := ⟨rfl, rfl⟩
theorem jf_221_0 : jG m_R_comes 0 (.aload_n 0) [] (.null) 1 := ⟨rfl, rfl⟩
theorem jf_221_1 : jG m_R_comes 1 (.getfield 280) [9, 29] (.null) 4 := ⟨rfl, rfl⟩
theorem jf_221_4 : jG m_R_comes 4 (.istore_n 1) [] (.null) 5 := ⟨rfl, rfl⟩
theorem jf_221_5 : jG m_R_comes 5 (.aload_n 0) [] (.null) 6 := ⟨rfl, rfl⟩
theorem jf_221_6 : jG m_R_comes 6 (.getfield 17) [9, 3] (.null) 9 := ⟨rfl, rfl⟩
theorem jf_221_9 : jG m_R_comes 9 (.iload_n 1) [] (.null) 10 := ⟨rfl, rfl⟩
theorem jf_221_10 : jG m_R_comes 10 (.iaload) [] (.null) 11 := ⟨rfl, rfl⟩
theorem jf_221_11 : jG m_R_comes 11 (.iconst 2) [] (.null) 12 := ⟨rfl, rfl⟩
theorem jf_221_12 : jG m_R_comes 12 (.if_icmp .eq 8) [20] (.null) 15 := ⟨rfl, rfl⟩
theorem jf_221_15 : jG m_R_comes 15 (.aload_n 0) [] (.null) 16 := ⟨rfl, rfl⟩
theorem jf_221_16 : jG m_R_comes 16 (.getfield 286) [9, 31] (.null) 19 := ⟨rfl, rfl⟩
theorem jf_221_19 : jG m_R_comes 19 (.dreturn) [] (.null) 20 := ⟨rfl, rfl⟩
theorem jf_221_20 : jG m_R_comes 20 (.lconst 0) [] (.null) 21 := ⟨rfl, rfl⟩
theorem jf_221_21 : jG m_R_comes 21 (.lstore_n 2) [] (.null) 22 := ⟨rfl, rfl⟩
theorem jf_221_22 : jG m_R_comes 22 (.aload_n 0) [] (.null) 23 := ⟨rfl, rfl⟩
theorem jf_221_23 : jG m_R_comes 23 (.getfield 23) [9, 5] (.null) 26 := ⟨rfl, rfl⟩
theorem jf_221_26 : jG m_R_comes 26 (.iload_n 1) [] (.null) 27 := ⟨rfl, rfl⟩
theorem jf_221_27 : jG m_R_comes 27 (.iaload) [] (.null) 28 := ⟨rfl, rfl⟩
theorem jf_221_28 : jG m_R_comes 28 (.ifCond .ne 21) [49] (.null) 31 := ⟨rfl, rfl⟩
theorem jf_221_31 : jG m_R_comes 31 (.aload_n 0) [] (.null) 32 := ⟨rfl, rfl⟩
theorem jf_221_32 : jG m_R_comes 32 (.getfield 290) [9, 32] (.null) 35 := ⟨rfl, rfl⟩
theorem jf_221_35 : jG m_R_comes 35 (.ldc2_w 310) [] (.long (8192)) 38 := ⟨rfl, rfl⟩
theorem jf_221_38 : jG m_R_comes 38 (.ladd) [] (.null) 39 := ⟨rfl, rfl⟩
theorem jf_221_39 : jG m_R_comes 39 (.ldc2_w 251) [] (.long (16384)) 42 := ⟨rfl, rfl⟩
theorem jf_221_42 : jG m_R_comes 42 (.invokestatic 253) [3, m_R_floor, 2] (.null) 45 := ⟨rfl, rfl⟩
theorem jf_221_45 : jG m_R_comes 45 (.lstore_n 2) [] (.null) 46 := ⟨rfl, rfl⟩
theorem jf_221_46 : jG m_R_comes 46 (.goto 59) [105] (.null) 49 := ⟨rfl, rfl⟩
theorem jf_221_49 : jG m_R_comes 49 (.aload_n 0) [] (.null) 50 := ⟨rfl, rfl⟩
theorem jf_221_50 : jG m_R_comes 50 (.getfield 23) [9, 5] (.null) 53 := ⟨rfl, rfl⟩
theorem jf_221_53 : jG m_R_comes 53 (.iload_n 1) [] (.null) 54 := ⟨rfl, rfl⟩
theorem jf_221_54 : jG m_R_comes 54 (.iaload) [] (.null) 55 := ⟨rfl, rfl⟩
theorem jf_221_55 : jG m_R_comes 55 (.iconst 1) [] (.null) 56 := ⟨rfl, rfl⟩
theorem jf_221_56 : jG m_R_comes 56 (.if_icmp .ne 15) [71] (.null) 59 := ⟨rfl, rfl⟩
theorem jf_221_59 : jG m_R_comes 59 (.aload_n 0) [] (.null) 60 := ⟨rfl, rfl⟩
theorem jf_221_60 : jG m_R_comes 60 (.getfield 290) [9, 32] (.null) 63 := ⟨rfl, rfl⟩
theorem jf_221_63 : jG m_R_comes 63 (.ldc2_w 251) [] (.long (16384)) 66 := ⟨rfl, rfl⟩
theorem jf_221_66 : jG m_R_comes 66 (.ldiv) [] (.null) 67 := ⟨rfl, rfl⟩
theorem jf_221_67 : jG m_R_comes 67 (.lstore_n 2) [] (.null) 68 := ⟨rfl, rfl⟩
theorem jf_221_68 : jG m_R_comes 68 (.goto 37) [105] (.null) 71 := ⟨rfl, rfl⟩
theorem jf_221_71 : jG m_R_comes 71 (.aload_n 0) [] (.null) 72 := ⟨rfl, rfl⟩
theorem jf_221_72 : jG m_R_comes 72 (.getfield 290) [9, 32] (.null) 75 := ⟨rfl, rfl⟩
theorem jf_221_75 : jG m_R_comes 75 (.aload_n 0) [] (.null) 76 := ⟨rfl, rfl⟩
theorem jf_221_76 : jG m_R_comes 76 (.getfield 54) [9, 15] (.null) 79 := ⟨rfl, rfl⟩
theorem jf_221_79 : jG m_R_comes 79 (.iload_n 1) [] (.null) 80 := ⟨rfl, rfl⟩
theorem jf_221_80 : jG m_R_comes 80 (.laload) [] (.null) 81 := ⟨rfl, rfl⟩
theorem jf_221_81 : jG m_R_comes 81 (.ladd) [] (.null) 82 := ⟨rfl, rfl⟩
theorem jf_221_82 : jG m_R_comes 82 (.lstore 4) [] (.null) 84 := ⟨rfl, rfl⟩
theorem jf_221_84 : jG m_R_comes 84 (.lload 4) [] (.null) 86 := ⟨rfl, rfl⟩
theorem jf_221_86 : jG m_R_comes 86 (.ldc2_w 251) [] (.long (16384)) 89 := ⟨rfl, rfl⟩
theorem jf_221_89 : jG m_R_comes 89 (.ldiv) [] (.null) 90 := ⟨rfl, rfl⟩
theorem jf_221_90 : jG m_R_comes 90 (.lstore_n 2) [] (.null) 91 := ⟨rfl, rfl⟩
theorem jf_221_91 : jG m_R_comes 91 (.aload_n 0) [] (.null) 92 := ⟨rfl, rfl⟩
theorem jf_221_92 : jG m_R_comes 92 (.getfield 54) [9, 15] (.null) 95 := ⟨rfl, rfl⟩
theorem jf_221_95 : jG m_R_comes 95 (.iload_n 1) [] (.null) 96 := ⟨rfl, rfl⟩
theorem jf_221_96 : jG m_R_comes 96 (.lload 4) [] (.null) 98 := ⟨rfl, rfl⟩
theorem jf_221_98 : jG m_R_comes 98 (.ldc2_w 251) [] (.long (16384)) 101 := ⟨rfl, rfl⟩
theorem jf_221_101 : jG m_R_comes 101 (.lload_n 2) [] (.null) 102 := ⟨rfl, rfl⟩
theorem jf_221_102 : jG m_R_comes 102 (.lmul) [] (.null) 103 := ⟨rfl, rfl⟩
theorem jf_221_103 : jG m_R_comes 103 (.lsub) [] (.null) 104 := ⟨rfl, rfl⟩
theorem jf_221_104 : jG m_R_comes 104 (.lastore) [] (.null) 105 := ⟨rfl, rfl⟩
theorem jf_221_105 : jG m_R_comes 105 (.iconst 2) [] (.null) 106 := ⟨rfl, rfl⟩
theorem jf_221_106 : jG m_R_comes 106 (.lload_n 2) [] (.null) 107 := ⟨rfl, rfl⟩
theorem jf_221_107 : jG m_R_comes 107 (.invokestatic 240) [3, m_R_isValue, 2] (.null) 110 := ⟨rfl, rfl⟩
theorem jf_221_110 : jG m_R_comes 110 (.ifCond .eq 6) [116] (.null) 113 := ⟨rfl, rfl⟩
theorem jf_221_113 : jG m_R_comes 113 (.lload_n 2) [] (.null) 114 := ⟨rfl, rfl⟩
theorem jf_221_114 : jG m_R_comes 114 (.l2d) [] (.null) 115 := ⟨rfl, rfl⟩
theorem jf_221_115 : jG m_R_comes 115 (.dreturn) [] (.null) 116 := ⟨rfl, rfl⟩
theorem jf_221_116 : jG m_R_comes 116 (.aload_n 0) [] (.null) 117 := ⟨rfl, rfl⟩
theorem jf_221_117 : jG m_R_comes 117 (.getfield 42) [9, 11] (.null) 120 := ⟨rfl, rfl⟩
theorem jf_221_120 : jG m_R_comes 120 (.iload_n 1) [] (.null) 121 := ⟨rfl, rfl⟩
theorem jf_221_121 : jG m_R_comes 121 (.dup2) [] (.null) 122 := ⟨rfl, rfl⟩
theorem jf_221_122 : jG m_R_comes 122 (.iaload) [] (.null) 123 := ⟨rfl, rfl⟩
theorem jf_221_123 : jG m_R_comes 123 (.iconst 1) [] (.null) 124 := ⟨rfl, rfl⟩
theorem jf_221_124 : jG m_R_comes 124 (.iadd) [] (.null) 125 := ⟨rfl, rfl⟩
theorem jf_221_125 : jG m_R_comes 125 (.iastore) [] (.null) 126 := ⟨rfl, rfl⟩
theorem jf_221_126 : jG m_R_comes 126 (.lload_n 2) [] (.null) 127 := ⟨rfl, rfl⟩
theorem jf_221_127 : jG m_R_comes 127 (.aload_n 0) [] (.null) 128 := ⟨rfl, rfl⟩
theorem jf_221_128 : jG m_R_comes 128 (.getfield 26) [9, 6] (.null) 131 := ⟨rfl, rfl⟩
theorem jf_221_131 : jG m_R_comes 131 (.iload_n 1) [] (.null) 132 := ⟨rfl, rfl⟩
theorem jf_221_132 : jG m_R_comes 132 (.iaload) [] (.null) 133 := ⟨rfl, rfl⟩
theorem jf_221_133 : jG m_R_comes 133 (.invokestatic 312) [3, m_R_cut, 2] (.null) 136 := ⟨rfl, rfl⟩
theorem jf_221_136 : jG m_R_comes 136 (.dreturn) [] (.null) 137 := ⟨rfl, rfl⟩
theorem jf_222_0 : jG m_R_cut 0 (.iload_n 2) [] (.null) 1 := ⟨rfl, rfl⟩
theorem jf_222_1 : jG m_R_cut 1 (.iconst 1) [] (.null) 2 := ⟨rfl, rfl⟩
theorem jf_222_2 : jG m_R_cut 2 (.if_icmp .ne 8) [10] (.null) 5 := ⟨rfl, rfl⟩
theorem jf_222_5 : jG m_R_cut 5 (.lload_n 0) [] (.null) 6 := ⟨rfl, rfl⟩
theorem jf_222_6 : jG m_R_cut 6 (.l2i) [] (.null) 7 := ⟨rfl, rfl⟩
theorem jf_222_7 : jG m_R_cut 7 (.i2s) [] (.null) 8 := ⟨rfl, rfl⟩
theorem jf_222_8 : jG m_R_cut 8 (.i2d) [] (.null) 9 := ⟨rfl, rfl⟩
theorem jf_222_9 : jG m_R_cut 9 (.dreturn) [] (.null) 10 := ⟨rfl, rfl⟩
theorem jf_222_10 : jG m_R_cut 10 (.lload_n 0) [] (.null) 11 := ⟨rfl, rfl⟩
theorem jf_222_11 : jG m_R_cut 11 (.ldc2_w 179) [] (.long (32767)) 14 := ⟨rfl, rfl⟩
theorem jf_222_14 : jG m_R_cut 14 (.lcmp) [] (.null) 15 := ⟨rfl, rfl⟩
theorem jf_222_15 : jG m_R_cut 15 (.ifCond .le 9) [24] (.null) 18 := ⟨rfl, rfl⟩
theorem jf_222_18 : jG m_R_cut 18 (.ldc2_w 316) [] (.double (4674736138332667904)) 21 := ⟨rfl, rfl⟩
theorem jf_222_21 : jG m_R_cut 21 (.goto 19) [40] (.null) 24 := ⟨rfl, rfl⟩
theorem jf_222_24 : jG m_R_cut 24 (.lload_n 0) [] (.null) 25 := ⟨rfl, rfl⟩
theorem jf_222_25 : jG m_R_cut 25 (.ldc2_w 177) [] (.long (-32768)) 28 := ⟨rfl, rfl⟩
theorem jf_222_28 : jG m_R_cut 28 (.lcmp) [] (.null) 29 := ⟨rfl, rfl⟩
theorem jf_222_29 : jG m_R_cut 29 (.ifCond .ge 9) [38] (.null) 32 := ⟨rfl, rfl⟩
theorem jf_222_32 : jG m_R_cut 32 (.ldc2_w 318) [] (.double (13898108450065350656)) 35 := ⟨rfl, rfl⟩
theorem jf_222_35 : jG m_R_cut 35 (.goto 5) [40] (.null) 38 := ⟨rfl, rfl⟩
theorem jf_222_38 : jG m_R_cut 38 (.lload_n 0) [] (.null) 39 := ⟨rfl, rfl⟩
theorem jf_222_39 : jG m_R_cut 39 (.l2d) [] (.null) 40 := ⟨rfl, rfl⟩
theorem jf_222_40 : jG m_R_cut 40 (.dreturn) [] (.null) 41 := ⟨rfl, rfl⟩
theorem jf_223_0 : jG m_R_leaves 0 (.iconst 3) [] (.null) 1 := ⟨rfl, rfl⟩
theorem jf_223_1 : jG m_R_leaves 1 (.aload_n 0) [] (.null) 2 := ⟨rfl, rfl⟩
theorem jf_223_2 : jG m_R_leaves 2 (.getfield 356) [9, 39] (.null) 5 := ⟨rfl, rfl⟩
theorem jf_223_5 : jG m_R_leaves 5 (.imul) [] (.null) 6 := ⟨rfl, rfl⟩
theorem jf_223_6 : jG m_R_leaves 6 (.istore_n 1) [] (.null) 7 := ⟨rfl, rfl⟩
theorem jf_223_7 : jG m_R_leaves 7 (.iload_n 1) [] (.null) 8 := ⟨rfl, rfl⟩
theorem jf_223_8 : jG m_R_leaves 8 (.iconst 3) [] (.null) 9 := ⟨rfl, rfl⟩
theorem jf_223_9 : jG m_R_leaves 9 (.aload_n 0) [] (.null) 10 := ⟨rfl, rfl⟩
theorem jf_223_10 : jG m_R_leaves 10 (.getfield 356) [9, 39] (.null) 13 := ⟨rfl, rfl⟩
theorem jf_223_13 : jG m_R_leaves 13 (.imul) [] (.null) 14 := ⟨rfl, rfl⟩
theorem jf_223_14 : jG m_R_leaves 14 (.aload_n 0) [] (.null) 15 := ⟨rfl, rfl⟩
theorem jf_223_15 : jG m_R_leaves 15 (.getfield 67) [9, 20] (.null) 18 := ⟨rfl, rfl⟩
theorem jf_223_18 : jG m_R_leaves 18 (.aload_n 0) [] (.null) 19 := ⟨rfl, rfl⟩
theorem jf_223_19 : jG m_R_leaves 19 (.getfield 356) [9, 39] (.null) 22 := ⟨rfl, rfl⟩
theorem jf_223_22 : jG m_R_leaves 22 (.iaload) [] (.null) 23 := ⟨rfl, rfl⟩
theorem jf_223_23 : jG m_R_leaves 23 (.iadd) [] (.null) 24 := ⟨rfl, rfl⟩
theorem jf_223_24 : jG m_R_leaves 24 (.if_icmp .ge 66) [90] (.null) 27 := ⟨rfl, rfl⟩
theorem jf_223_27 : jG m_R_leaves 27 (.aload_n 0) [] (.null) 28 := ⟨rfl, rfl⟩
theorem jf_223_28 : jG m_R_leaves 28 (.getfield 70) [9, 21] (.null) 31 := ⟨rfl, rfl⟩
theorem jf_223_31 : jG m_R_leaves 31 (.iload_n 1) [] (.null) 32 := ⟨rfl, rfl⟩
theorem jf_223_32 : jG m_R_leaves 32 (.iaload) [] (.null) 33 := ⟨rfl, rfl⟩
theorem jf_223_33 : jG m_R_leaves 33 (.aload_n 0) [] (.null) 34 := ⟨rfl, rfl⟩
theorem jf_223_34 : jG m_R_leaves 34 (.getfield 359) [9, 40] (.null) 37 := ⟨rfl, rfl⟩
theorem jf_223_37 : jG m_R_leaves 37 (.if_icmp .eq 6) [43] (.null) 40 := ⟨rfl, rfl⟩
theorem jf_223_40 : jG m_R_leaves 40 (.goto 44) [84] (.null) 43 := ⟨rfl, rfl⟩
theorem jf_223_43 : jG m_R_leaves 43 (.aload_n 0) [] (.null) 44 := ⟨rfl, rfl⟩
theorem jf_223_44 : jG m_R_leaves 44 (.getfield 82) [9, 25] (.null) 47 := ⟨rfl, rfl⟩
theorem jf_223_47 : jG m_R_leaves 47 (.bipush 64) [] (.null) 49 := ⟨rfl, rfl⟩
theorem jf_223_49 : jG m_R_leaves 49 (.iload_n 1) [] (.null) 50 := ⟨rfl, rfl⟩
theorem jf_223_50 : jG m_R_leaves 50 (.imul) [] (.null) 51 := ⟨rfl, rfl⟩
theorem jf_223_51 : jG m_R_leaves 51 (.aload_n 0) [] (.null) 52 := ⟨rfl, rfl⟩
theorem jf_223_52 : jG m_R_leaves 52 (.getfield 85) [9, 26] (.null) 55 := ⟨rfl, rfl⟩
theorem jf_223_55 : jG m_R_leaves 55 (.iload_n 1) [] (.null) 56 := ⟨rfl, rfl⟩
theorem jf_223_56 : jG m_R_leaves 56 (.iaload) [] (.null) 57 := ⟨rfl, rfl⟩
theorem jf_223_57 : jG m_R_leaves 57 (.iadd) [] (.null) 58 := ⟨rfl, rfl⟩
theorem jf_223_58 : jG m_R_leaves 58 (.aload_n 0) [] (.null) 59 := ⟨rfl, rfl⟩
theorem jf_223_59 : jG m_R_leaves 59 (.getfield 362) [9, 41] (.null) 62 := ⟨rfl, rfl⟩
theorem jf_223_62 : jG m_R_leaves 62 (.dastore) [] (.null) 63 := ⟨rfl, rfl⟩
theorem jf_223_63 : jG m_R_leaves 63 (.aload_n 0) [] (.null) 64 := ⟨rfl, rfl⟩
theorem jf_223_64 : jG m_R_leaves 64 (.getfield 85) [9, 26] (.null) 67 := ⟨rfl, rfl⟩
theorem jf_223_67 : jG m_R_leaves 67 (.iload_n 1) [] (.null) 68 := ⟨rfl, rfl⟩
theorem jf_223_68 : jG m_R_leaves 68 (.aload_n 0) [] (.null) 69 := ⟨rfl, rfl⟩
theorem jf_223_69 : jG m_R_leaves 69 (.getfield 85) [9, 26] (.null) 72 := ⟨rfl, rfl⟩
theorem jf_223_72 : jG m_R_leaves 72 (.iload_n 1) [] (.null) 73 := ⟨rfl, rfl⟩
theorem jf_223_73 : jG m_R_leaves 73 (.iaload) [] (.null) 74 := ⟨rfl, rfl⟩
theorem jf_223_74 : jG m_R_leaves 74 (.iconst 1) [] (.null) 75 := ⟨rfl, rfl⟩
theorem jf_223_75 : jG m_R_leaves 75 (.iadd) [] (.null) 76 := ⟨rfl, rfl⟩
theorem jf_223_76 : jG m_R_leaves 76 (.aload_n 0) [] (.null) 77 := ⟨rfl, rfl⟩
theorem jf_223_77 : jG m_R_leaves 77 (.getfield 76) [9, 23] (.null) 80 := ⟨rfl, rfl⟩
theorem jf_223_80 : jG m_R_leaves 80 (.iload_n 1) [] (.null) 81 := ⟨rfl, rfl⟩
theorem jf_223_81 : jG m_R_leaves 81 (.iaload) [] (.null) 82 := ⟨rfl, rfl⟩
theorem jf_223_82 : jG m_R_leaves 82 (.irem) [] (.null) 83 := ⟨rfl, rfl⟩
theorem jf_223_83 : jG m_R_leaves 83 (.iastore) [] (.null) 84 := ⟨rfl, rfl⟩
theorem jf_223_84 : jG m_R_leaves 84 (.iinc 1 1) [] (.null) 87 := ⟨rfl, rfl⟩
theorem jf_223_87 : jG m_R_leaves 87 (.goto (-80)) [7] (.null) 90 := ⟨rfl, rfl⟩
theorem jf_223_90 : jG m_R_leaves 90 (.aload_n 0) [] (.null) 91 := ⟨rfl, rfl⟩
theorem jf_223_91 : jG m_R_leaves 91 (.dup) [] (.null) 92 := ⟨rfl, rfl⟩
theorem jf_223_92 : jG m_R_leaves 92 (.getfield 359) [9, 40] (.null) 95 := ⟨rfl, rfl⟩
theorem jf_223_95 : jG m_R_leaves 95 (.iconst 1) [] (.null) 96 := ⟨rfl, rfl⟩
theorem jf_223_96 : jG m_R_leaves 96 (.iadd) [] (.null) 97 := ⟨rfl, rfl⟩
theorem jf_223_97 : jG m_R_leaves 97 (.putfield 359) [9, 40] (.null) 100 := ⟨rfl, rfl⟩
theorem jf_223_100 : jG m_R_leaves 100 (.return_) [] (.null) 101 := ⟨rfl, rfl⟩
theorem jf_224_0 : jG m_R_term_2 0 (.aload_n 0) [] (.null) 1 := ⟨rfl, rfl⟩
theorem jf_224_1 : jG m_R_term_2 1 (.getfield 17) [9, 3] (.null) 4 := ⟨rfl, rfl⟩
theorem jf_224_4 : jG m_R_term_2 4 (.aload_n 0) [] (.null) 5 := ⟨rfl, rfl⟩
theorem jf_224_5 : jG m_R_term_2 5 (.getfield 280) [9, 29] (.null) 8 := ⟨rfl, rfl⟩
theorem jf_224_8 : jG m_R_term_2 8 (.iaload) [] (.null) 9 := ⟨rfl, rfl⟩
theorem jf_224_9 : jG m_R_term_2 9 (.iconst 2) [] (.null) 10 := ⟨rfl, rfl⟩
theorem jf_224_10 : jG m_R_term_2 10 (.if_icmp .ne 35) [45] (.null) 13 := ⟨rfl, rfl⟩
theorem jf_224_13 : jG m_R_term_2 13 (.ldc2_w 251) [] (.long (16384)) 16 := ⟨rfl, rfl⟩
theorem jf_224_16 : jG m_R_term_2 16 (.dload_n 1) [] (.null) 17 := ⟨rfl, rfl⟩
theorem jf_224_17 : jG m_R_term_2 17 (.d2l) [] (.null) 18 := ⟨rfl, rfl⟩
theorem jf_224_18 : jG m_R_term_2 18 (.lmul) [] (.null) 19 := ⟨rfl, rfl⟩
theorem jf_224_19 : jG m_R_term_2 19 (.lstore 4) [] (.null) 21 := ⟨rfl, rfl⟩
theorem jf_224_21 : jG m_R_term_2 21 (.aload_n 0) [] (.null) 22 := ⟨rfl, rfl⟩
theorem jf_224_22 : jG m_R_term_2 22 (.dup) [] (.null) 23 := ⟨rfl, rfl⟩
theorem jf_224_23 : jG m_R_term_2 23 (.getfield 290) [9, 32] (.null) 26 := ⟨rfl, rfl⟩
theorem jf_224_26 : jG m_R_term_2 26 (.iload_n 3) [] (.null) 27 := ⟨rfl, rfl⟩
theorem jf_224_27 : jG m_R_term_2 27 (.ifCond .eq 9) [36] (.null) 30 := ⟨rfl, rfl⟩
theorem jf_224_30 : jG m_R_term_2 30 (.lload 4) [] (.null) 32 := ⟨rfl, rfl⟩
theorem jf_224_32 : jG m_R_term_2 32 (.lneg) [] (.null) 33 := ⟨rfl, rfl⟩
theorem jf_224_33 : jG m_R_term_2 33 (.goto 5) [38] (.null) 36 := ⟨rfl, rfl⟩
theorem jf_224_36 : jG m_R_term_2 36 (.lload 4) [] (.null) 38 := ⟨rfl, rfl⟩
theorem jf_224_38 : jG m_R_term_2 38 (.ladd) [] (.null) 39 := ⟨rfl, rfl⟩
theorem jf_224_39 : jG m_R_term_2 39 (.putfield 290) [9, 32] (.null) 42 := ⟨rfl, rfl⟩
theorem jf_224_42 : jG m_R_term_2 42 (.goto 9) [51] (.null) 45 := ⟨rfl, rfl⟩
theorem jf_224_45 : jG m_R_term_2 45 (.aload_n 0) [] (.null) 46 := ⟨rfl, rfl⟩
theorem jf_224_46 : jG m_R_term_2 46 (.dload_n 1) [] (.null) 47 := ⟨rfl, rfl⟩
theorem jf_224_47 : jG m_R_term_2 47 (.iload_n 3) [] (.null) 48 := ⟨rfl, rfl⟩
theorem jf_224_48 : jG m_R_term_2 48 (.invokevirtual 294) [6, 2, 9, m_R_joins] (.null) 51 := ⟨rfl, rfl⟩
theorem jf_224_51 : jG m_R_term_2 51 (.return_) [] (.null) 52 := ⟨rfl, rfl⟩
theorem jf_225_0 : jG m_R_st 0 (.aload_n 0) [] (.null) 1 := ⟨rfl, rfl⟩
theorem jf_225_1 : jG m_R_st 1 (.getfield 48) [9, 13] (.null) 4 := ⟨rfl, rfl⟩
theorem jf_225_4 : jG m_R_st 4 (.bipush 64) [] (.null) 6 := ⟨rfl, rfl⟩
theorem jf_225_6 : jG m_R_st 6 (.iload_n 1) [] (.null) 7 := ⟨rfl, rfl⟩
theorem jf_225_7 : jG m_R_st 7 (.imul) [] (.null) 8 := ⟨rfl, rfl⟩
theorem jf_225_8 : jG m_R_st 8 (.iload_n 2) [] (.null) 9 := ⟨rfl, rfl⟩
theorem jf_225_9 : jG m_R_st 9 (.iadd) [] (.null) 10 := ⟨rfl, rfl⟩
theorem jf_225_10 : jG m_R_st 10 (.daload) [] (.null) 11 := ⟨rfl, rfl⟩
theorem jf_225_11 : jG m_R_st 11 (.dreturn) [] (.null) 12 := ⟨rfl, rfl⟩
theorem jf_226_0 : jG m_R_st_2 0 (.aload_n 0) [] (.null) 1 := ⟨rfl, rfl⟩
theorem jf_226_1 : jG m_R_st_2 1 (.getfield 48) [9, 13] (.null) 4 := ⟨rfl, rfl⟩
theorem jf_226_4 : jG m_R_st_2 4 (.bipush 64) [] (.null) 6 := ⟨rfl, rfl⟩
theorem jf_226_6 : jG m_R_st_2 6 (.iload_n 1) [] (.null) 7 := ⟨rfl, rfl⟩
theorem jf_226_7 : jG m_R_st_2 7 (.imul) [] (.null) 8 := ⟨rfl, rfl⟩
theorem jf_226_8 : jG m_R_st_2 8 (.iload_n 2) [] (.null) 9 := ⟨rfl, rfl⟩
theorem jf_226_9 : jG m_R_st_2 9 (.iadd) [] (.null) 10 := ⟨rfl, rfl⟩
theorem jf_226_10 : jG m_R_st_2 10 (.dload_n 3) [] (.null) 11 := ⟨rfl, rfl⟩
theorem jf_226_11 : jG m_R_st_2 11 (.dastore) [] (.null) 12 := ⟨rfl, rfl⟩
theorem jf_226_12 : jG m_R_st_2 12 (.return_) [] (.null) 13 := ⟨rfl, rfl⟩
theorem jf_227_0 : jG m_R_waits 0 (.aload_n 0) [] (.null) 1 := ⟨rfl, rfl⟩
theorem jf_227_1 : jG m_R_waits 1 (.getfield 94) [9, 35] (.null) 4 := ⟨rfl, rfl⟩
theorem jf_227_4 : jG m_R_waits 4 (.aload_n 0) [] (.null) 5 := ⟨rfl, rfl⟩
theorem jf_227_5 : jG m_R_waits 5 (.getfield 353) [9, 34] (.null) 8 := ⟨rfl, rfl⟩
theorem jf_227_8 : jG m_R_waits 8 (.aload_n 0) [] (.null) 9 := ⟨rfl, rfl⟩
theorem jf_227_9 : jG m_R_waits 9 (.getfield 356) [9, 39] (.null) 12 := ⟨rfl, rfl⟩
theorem jf_227_12 : jG m_R_waits 12 (.iastore) [] (.null) 13 := ⟨rfl, rfl⟩
theorem jf_227_13 : jG m_R_waits 13 (.aload_n 0) [] (.null) 14 := ⟨rfl, rfl⟩
theorem jf_227_14 : jG m_R_waits 14 (.getfield 97) [9, 36] (.null) 17 := ⟨rfl, rfl⟩
theorem jf_227_17 : jG m_R_waits 17 (.aload_n 0) [] (.null) 18 := ⟨rfl, rfl⟩
theorem jf_227_18 : jG m_R_waits 18 (.getfield 353) [9, 34] (.null) 21 := ⟨rfl, rfl⟩
theorem jf_227_21 : jG m_R_waits 21 (.aload_n 0) [] (.null) 22 := ⟨rfl, rfl⟩
theorem jf_227_22 : jG m_R_waits 22 (.getfield 359) [9, 40] (.null) 25 := ⟨rfl, rfl⟩
theorem jf_227_25 : jG m_R_waits 25 (.iastore) [] (.null) 26 := ⟨rfl, rfl⟩
theorem jf_227_26 : jG m_R_waits 26 (.aload_n 0) [] (.null) 27 := ⟨rfl, rfl⟩
theorem jf_227_27 : jG m_R_waits 27 (.getfield 100) [9, 37] (.null) 30 := ⟨rfl, rfl⟩
theorem jf_227_30 : jG m_R_waits 30 (.aload_n 0) [] (.null) 31 := ⟨rfl, rfl⟩
theorem jf_227_31 : jG m_R_waits 31 (.getfield 353) [9, 34] (.null) 34 := ⟨rfl, rfl⟩
theorem jf_227_34 : jG m_R_waits 34 (.iload_n 1) [] (.null) 35 := ⟨rfl, rfl⟩
theorem jf_227_35 : jG m_R_waits 35 (.iastore) [] (.null) 36 := ⟨rfl, rfl⟩
theorem jf_227_36 : jG m_R_waits 36 (.aload_n 0) [] (.null) 37 := ⟨rfl, rfl⟩
theorem jf_227_37 : jG m_R_waits 37 (.getfield 103) [9, 38] (.null) 40 := ⟨rfl, rfl⟩
theorem jf_227_40 : jG m_R_waits 40 (.aload_n 0) [] (.null) 41 := ⟨rfl, rfl⟩
theorem jf_227_41 : jG m_R_waits 41 (.getfield 353) [9, 34] (.null) 44 := ⟨rfl, rfl⟩
theorem jf_227_44 : jG m_R_waits 44 (.aload_n 0) [] (.null) 45 := ⟨rfl, rfl⟩
theorem jf_227_45 : jG m_R_waits 45 (.getfield 362) [9, 41] (.null) 48 := ⟨rfl, rfl⟩
theorem jf_227_48 : jG m_R_waits 48 (.dastore) [] (.null) 49 := ⟨rfl, rfl⟩
theorem jf_227_49 : jG m_R_waits 49 (.aload_n 0) [] (.null) 50 := ⟨rfl, rfl⟩
theorem jf_227_50 : jG m_R_waits 50 (.dup) [] (.null) 51 := ⟨rfl, rfl⟩
theorem jf_227_51 : jG m_R_waits 51 (.getfield 353) [9, 34] (.null) 54 := ⟨rfl, rfl⟩
theorem jf_227_54 : jG m_R_waits 54 (.iconst 1) [] (.null) 55 := ⟨rfl, rfl⟩
theorem jf_227_55 : jG m_R_waits 55 (.iadd) [] (.null) 56 := ⟨rfl, rfl⟩
theorem jf_227_56 : jG m_R_waits 56 (.putfield 353) [9, 34] (.null) 59 := ⟨rfl, rfl⟩
theorem jf_227_59 : jG m_R_waits 59 (.return_) [] (.null) 60 := ⟨rfl, rfl⟩
set_option maxRecDepth 100000 in
theorem jf_228_0 : jG m_R_works 0 (.aload_n 0) [] (.null) 1 := ⟨rfl, rfl⟩
set_option maxRecDepth 100000 in
theorem jf_228_1 : jG m_R_works 1 (.getfield 13) [9, 2] (.null) 4 := ⟨rfl, rfl⟩
set_option maxRecDepth 100000 in
theorem jf_228_4 : jG m_R_works 4 (.iload_n 1) [] (.null) 5 := ⟨rfl, rfl⟩
set_option maxRecDepth 100000 in
theorem jf_228_5 : jG m_R_works 5 (.iaload) [] (.null) 6 := ⟨rfl, rfl⟩
set_option maxRecDepth 100000 in
theorem jf_228_6 : jG m_R_works 6 (.tableswitch 736 0 8 #[50, 72, 123, 256, 388, 516, 592, 599, 686]) [742, 56, 78, 129, 262, 394, 522, 598, 605, 692] (.null) 7 := ⟨rfl, rfl⟩
set_option maxRecDepth 100000 in
theorem jf_228_56 : jG m_R_works 56 (.aload_n 0) [] (.null) 57 := ⟨rfl, rfl⟩
set_option maxRecDepth 100000 in
theorem jf_228_57 : jG m_R_works 57 (.iload_n 1) [] (.null) 58 := ⟨rfl, rfl⟩
set_option maxRecDepth 100000 in
theorem jf_228_58 : jG m_R_works 58 (.invokevirtual 320) [6, 1, 9, m_R_begins] (.null) 61 := ⟨rfl, rfl⟩
set_option maxRecDepth 100000 in
theorem jf_228_61 : jG m_R_works 61 (.aload_n 0) [] (.null) 62 := ⟨rfl, rfl⟩
set_option maxRecDepth 100000 in
theorem jf_228_62 : jG m_R_works 62 (.aload_n 0) [] (.null) 63 := ⟨rfl, rfl⟩
set_option maxRecDepth 100000 in
theorem jf_228_63 : jG m_R_works 63 (.iload_n 1) [] (.null) 64 := ⟨rfl, rfl⟩
set_option maxRecDepth 100000 in
theorem jf_228_64 : jG m_R_works 64 (.iconst 0) [] (.null) 65 := ⟨rfl, rfl⟩
set_option maxRecDepth 100000 in
theorem jf_228_65 : jG m_R_works 65 (.invokevirtual 323) [6, 2, 9, m_R_c] (.null) 68 := ⟨rfl, rfl⟩
set_option maxRecDepth 100000 in
theorem jf_228_68 : jG m_R_works 68 (.dload_n 2) [] (.null) 69 := ⟨rfl, rfl⟩
set_option maxRecDepth 100000 in
theorem jf_228_69 : jG m_R_works 69 (.iconst 0) [] (.null) 70 := ⟨rfl, rfl⟩
set_option maxRecDepth 100000 in
theorem jf_228_70 : jG m_R_works 70 (.invokevirtual 327) [6, 3, 9, m_R_term] (.null) 73 := ⟨rfl, rfl⟩
set_option maxRecDepth 100000 in
theorem jf_228_73 : jG m_R_works 73 (.aload_n 0) [] (.null) 74 := ⟨rfl, rfl⟩
set_option maxRecDepth 100000 in
theorem jf_228_74 : jG m_R_works 74 (.invokevirtual 331) [6, 0, 9, m_R_comes] (.null) 77 := ⟨rfl, rfl⟩
set_option maxRecDepth 100000 in
theorem jf_228_77 : jG m_R_works 77 (.dreturn) [] (.null) 78 := ⟨rfl, rfl⟩
set_option maxRecDepth 100000 in
theorem jf_228_78 : jG m_R_works 78 (.aload_n 0) [] (.null) 79 := ⟨rfl, rfl⟩
set_option maxRecDepth 100000 in
theorem jf_228_79 : jG m_R_works 79 (.iload_n 1) [] (.null) 80 := ⟨rfl, rfl⟩
set_option maxRecDepth 100000 in
theorem jf_228_80 : jG m_R_works 80 (.invokevirtual 320) [6, 1, 9, m_R_begins] (.null) 83 := ⟨rfl, rfl⟩
set_option maxRecDepth 100000 in
theorem jf_228_83 : jG m_R_works 83 (.aload_n 0) [] (.null) 84 := ⟨rfl, rfl⟩
set_option maxRecDepth 100000 in
theorem jf_228_84 : jG m_R_works 84 (.aload_n 0) [] (.null) 85 := ⟨rfl, rfl⟩
set_option maxRecDepth 100000 in
theorem jf_228_85 : jG m_R_works 85 (.iload_n 1) [] (.null) 86 := ⟨rfl, rfl⟩
set_option maxRecDepth 100000 in
theorem jf_228_86 : jG m_R_works 86 (.iconst 0) [] (.null) 87 := ⟨rfl, rfl⟩
set_option maxRecDepth 100000 in
theorem jf_228_87 : jG m_R_works 87 (.invokevirtual 323) [6, 2, 9, m_R_c] (.null) 90 := ⟨rfl, rfl⟩
set_option maxRecDepth 100000 in
theorem jf_228_90 : jG m_R_works 90 (.dload_n 2) [] (.null) 91 := ⟨rfl, rfl⟩
set_option maxRecDepth 100000 in
theorem jf_228_91 : jG m_R_works 91 (.iconst 0) [] (.null) 92 := ⟨rfl, rfl⟩
set_option maxRecDepth 100000 in
theorem jf_228_92 : jG m_R_works 92 (.invokevirtual 327) [6, 3, 9, m_R_term] (.null) 95 := ⟨rfl, rfl⟩
set_option maxRecDepth 100000 in
theorem jf_228_95 : jG m_R_works 95 (.aload_n 0) [] (.null) 96 := ⟨rfl, rfl⟩
set_option maxRecDepth 100000 in
theorem jf_228_96 : jG m_R_works 96 (.aload_n 0) [] (.null) 97 := ⟨rfl, rfl⟩
set_option maxRecDepth 100000 in
theorem jf_228_97 : jG m_R_works 97 (.iload_n 1) [] (.null) 98 := ⟨rfl, rfl⟩
set_option maxRecDepth 100000 in
theorem jf_228_98 : jG m_R_works 98 (.iconst 1) [] (.null) 99 := ⟨rfl, rfl⟩
set_option maxRecDepth 100000 in
theorem jf_228_99 : jG m_R_works 99 (.invokevirtual 323) [6, 2, 9, m_R_c] (.null) 102 := ⟨rfl, rfl⟩
set_option maxRecDepth 100000 in
theorem jf_228_102 : jG m_R_works 102 (.aload_n 0) [] (.null) 103 := ⟨rfl, rfl⟩
set_option maxRecDepth 100000 in
theorem jf_228_103 : jG m_R_works 103 (.iload_n 1) [] (.null) 104 := ⟨rfl, rfl⟩
set_option maxRecDepth 100000 in
theorem jf_228_104 : jG m_R_works 104 (.iconst 0) [] (.null) 105 := ⟨rfl, rfl⟩
set_option maxRecDepth 100000 in
theorem jf_228_105 : jG m_R_works 105 (.invokevirtual 335) [6, 2, 9, m_R_st] (.null) 108 := ⟨rfl, rfl⟩
set_option maxRecDepth 100000 in
theorem jf_228_108 : jG m_R_works 108 (.iconst 0) [] (.null) 109 := ⟨rfl, rfl⟩
set_option maxRecDepth 100000 in
theorem jf_228_109 : jG m_R_works 109 (.invokevirtual 327) [6, 3, 9, m_R_term] (.null) 112 := ⟨rfl, rfl⟩
set_option maxRecDepth 100000 in
theorem jf_228_112 : jG m_R_works 112 (.aload_n 0) [] (.null) 113 := ⟨rfl, rfl⟩
set_option maxRecDepth 100000 in
theorem jf_228_113 : jG m_R_works 113 (.invokevirtual 331) [6, 0, 9, m_R_comes] (.null) 116 := ⟨rfl, rfl⟩
set_option maxRecDepth 100000 in
theorem jf_228_116 : jG m_R_works 116 (.dstore 4) [] (.null) 118 := ⟨rfl, rfl⟩
set_option maxRecDepth 100000 in
theorem jf_228_118 : jG m_R_works 118 (.aload_n 0) [] (.null) 119 := ⟨rfl, rfl⟩
set_option maxRecDepth 100000 in
theorem jf_228_119 : jG m_R_works 119 (.iload_n 1) [] (.null) 120 := ⟨rfl, rfl⟩
set_option maxRecDepth 100000 in
theorem jf_228_120 : jG m_R_works 120 (.iconst 0) [] (.null) 121 := ⟨rfl, rfl⟩
set_option maxRecDepth 100000 in
theorem jf_228_121 : jG m_R_works 121 (.dload 4) [] (.null) 123 := ⟨rfl, rfl⟩
set_option maxRecDepth 100000 in
theorem jf_228_123 : jG m_R_works 123 (.invokevirtual 338) [6, 3, 9, m_R_st_2] (.null) 126 := ⟨rfl, rfl⟩
set_option maxRecDepth 100000 in
theorem jf_228_126 : jG m_R_works 126 (.dload 4) [] (.null) 128 := ⟨rfl, rfl⟩
set_option maxRecDepth 100000 in
theorem jf_228_128 : jG m_R_works 128 (.dreturn) [] (.null) 129 := ⟨rfl, rfl⟩
set_option maxRecDepth 100000 in
theorem jf_228_129 : jG m_R_works 129 (.aload_n 0) [] (.null) 130 := ⟨rfl, rfl⟩
set_option maxRecDepth 100000 in
theorem jf_228_130 : jG m_R_works 130 (.iload_n 1) [] (.null) 131 := ⟨rfl, rfl⟩
set_option maxRecDepth 100000 in
theorem jf_228_131 : jG m_R_works 131 (.invokevirtual 320) [6, 1, 9, m_R_begins] (.null) 134 := ⟨rfl, rfl⟩
set_option maxRecDepth 100000 in
theorem jf_228_134 : jG m_R_works 134 (.aload_n 0) [] (.null) 135 := ⟨rfl, rfl⟩
set_option maxRecDepth 100000 in
theorem jf_228_135 : jG m_R_works 135 (.aload_n 0) [] (.null) 136 := ⟨rfl, rfl⟩
set_option maxRecDepth 100000 in
theorem jf_228_136 : jG m_R_works 136 (.iload_n 1) [] (.null) 137 := ⟨rfl, rfl⟩
set_option maxRecDepth 100000 in
theorem jf_228_137 : jG m_R_works 137 (.iconst 0) [] (.null) 138 := ⟨rfl, rfl⟩
set_option maxRecDepth 100000 in
theorem jf_228_138 : jG m_R_works 138 (.invokevirtual 323) [6, 2, 9, m_R_c] (.null) 141 := ⟨rfl, rfl⟩
set_option maxRecDepth 100000 in
theorem jf_228_141 : jG m_R_works 141 (.dload_n 2) [] (.null) 142 := ⟨rfl, rfl⟩
set_option maxRecDepth 100000 in
theorem jf_228_142 : jG m_R_works 142 (.iconst 0) [] (.null) 143 := ⟨rfl, rfl⟩
set_option maxRecDepth 100000 in
theorem jf_228_143 : jG m_R_works 143 (.invokevirtual 327) [6, 3, 9, m_R_term] (.null) 146 := ⟨rfl, rfl⟩
set_option maxRecDepth 100000 in
theorem jf_228_146 : jG m_R_works 146 (.aload_n 0) [] (.null) 147 := ⟨rfl, rfl⟩
set_option maxRecDepth 100000 in
theorem jf_228_147 : jG m_R_works 147 (.aload_n 0) [] (.null) 148 := ⟨rfl, rfl⟩
set_option maxRecDepth 100000 in
theorem jf_228_148 : jG m_R_works 148 (.iload_n 1) [] (.null) 149 := ⟨rfl, rfl⟩
set_option maxRecDepth 100000 in
theorem jf_228_149 : jG m_R_works 149 (.iconst 1) [] (.null) 150 := ⟨rfl, rfl⟩
set_option maxRecDepth 100000 in
theorem jf_228_150 : jG m_R_works 150 (.invokevirtual 323) [6, 2, 9, m_R_c] (.null) 153 := ⟨rfl, rfl⟩
set_option maxRecDepth 100000 in
theorem jf_228_153 : jG m_R_works 153 (.aload_n 0) [] (.null) 154 := ⟨rfl, rfl⟩
set_option maxRecDepth 100000 in
theorem jf_228_154 : jG m_R_works 154 (.iload_n 1) [] (.null) 155 := ⟨rfl, rfl⟩
set_option maxRecDepth 100000 in
theorem jf_228_155 : jG m_R_works 155 (.iconst 0) [] (.null) 156 := ⟨rfl, rfl⟩
set_option maxRecDepth 100000 in
theorem jf_228_156 : jG m_R_works 156 (.invokevirtual 335) [6, 2, 9, m_R_st] (.null) 159 := ⟨rfl, rfl⟩
set_option maxRecDepth 100000 in
theorem jf_228_159 : jG m_R_works 159 (.iconst 0) [] (.null) 160 := ⟨rfl, rfl⟩
set_option maxRecDepth 100000 in
theorem jf_228_160 : jG m_R_works 160 (.invokevirtual 327) [6, 3, 9, m_R_term] (.null) 163 := ⟨rfl, rfl⟩
set_option maxRecDepth 100000 in
theorem jf_228_163 : jG m_R_works 163 (.aload_n 0) [] (.null) 164 := ⟨rfl, rfl⟩
set_option maxRecDepth 100000 in
theorem jf_228_164 : jG m_R_works 164 (.aload_n 0) [] (.null) 165 := ⟨rfl, rfl⟩
set_option maxRecDepth 100000 in
theorem jf_228_165 : jG m_R_works 165 (.iload_n 1) [] (.null) 166 := ⟨rfl, rfl⟩
set_option maxRecDepth 100000 in
theorem jf_228_166 : jG m_R_works 166 (.iconst 2) [] (.null) 167 := ⟨rfl, rfl⟩
set_option maxRecDepth 100000 in
theorem jf_228_167 : jG m_R_works 167 (.invokevirtual 323) [6, 2, 9, m_R_c] (.null) 170 := ⟨rfl, rfl⟩
set_option maxRecDepth 100000 in
theorem jf_228_170 : jG m_R_works 170 (.aload_n 0) [] (.null) 171 := ⟨rfl, rfl⟩
set_option maxRecDepth 100000 in
theorem jf_228_171 : jG m_R_works 171 (.iload_n 1) [] (.null) 172 := ⟨rfl, rfl⟩
set_option maxRecDepth 100000 in
theorem jf_228_172 : jG m_R_works 172 (.iconst 1) [] (.null) 173 := ⟨rfl, rfl⟩
set_option maxRecDepth 100000 in
theorem jf_228_173 : jG m_R_works 173 (.invokevirtual 335) [6, 2, 9, m_R_st] (.null) 176 := ⟨rfl, rfl⟩
set_option maxRecDepth 100000 in
theorem jf_228_176 : jG m_R_works 176 (.iconst 0) [] (.null) 177 := ⟨rfl, rfl⟩
set_option maxRecDepth 100000 in
theorem jf_228_177 : jG m_R_works 177 (.invokevirtual 327) [6, 3, 9, m_R_term] (.null) 180 := ⟨rfl, rfl⟩
set_option maxRecDepth 100000 in
theorem jf_228_180 : jG m_R_works 180 (.aload_n 0) [] (.null) 181 := ⟨rfl, rfl⟩
set_option maxRecDepth 100000 in
theorem jf_228_181 : jG m_R_works 181 (.aload_n 0) [] (.null) 182 := ⟨rfl, rfl⟩
set_option maxRecDepth 100000 in
theorem jf_228_182 : jG m_R_works 182 (.iload_n 1) [] (.null) 183 := ⟨rfl, rfl⟩
set_option maxRecDepth 100000 in
theorem jf_228_183 : jG m_R_works 183 (.iconst 3) [] (.null) 184 := ⟨rfl, rfl⟩
set_option maxRecDepth 100000 in
theorem jf_228_184 : jG m_R_works 184 (.invokevirtual 323) [6, 2, 9, m_R_c] (.null) 187 := ⟨rfl, rfl⟩
set_option maxRecDepth 100000 in
theorem jf_228_187 : jG m_R_works 187 (.aload_n 0) [] (.null) 188 := ⟨rfl, rfl⟩
set_option maxRecDepth 100000 in
theorem jf_228_188 : jG m_R_works 188 (.iload_n 1) [] (.null) 189 := ⟨rfl, rfl⟩
set_option maxRecDepth 100000 in
theorem jf_228_189 : jG m_R_works 189 (.iconst 2) [] (.null) 190 := ⟨rfl, rfl⟩
set_option maxRecDepth 100000 in
theorem jf_228_190 : jG m_R_works 190 (.invokevirtual 335) [6, 2, 9, m_R_st] (.null) 193 := ⟨rfl, rfl⟩
set_option maxRecDepth 100000 in
theorem jf_228_193 : jG m_R_works 193 (.iconst 1) [] (.null) 194 := ⟨rfl, rfl⟩
set_option maxRecDepth 100000 in
theorem jf_228_194 : jG m_R_works 194 (.invokevirtual 327) [6, 3, 9, m_R_term] (.null) 197 := ⟨rfl, rfl⟩
set_option maxRecDepth 100000 in
theorem jf_228_197 : jG m_R_works 197 (.aload_n 0) [] (.null) 198 := ⟨rfl, rfl⟩
set_option maxRecDepth 100000 in
theorem jf_228_198 : jG m_R_works 198 (.aload_n 0) [] (.null) 199 := ⟨rfl, rfl⟩
set_option maxRecDepth 100000 in
theorem jf_228_199 : jG m_R_works 199 (.iload_n 1) [] (.null) 200 := ⟨rfl, rfl⟩
set_option maxRecDepth 100000 in
theorem jf_228_200 : jG m_R_works 200 (.iconst 4) [] (.null) 201 := ⟨rfl, rfl⟩
set_option maxRecDepth 100000 in
theorem jf_228_201 : jG m_R_works 201 (.invokevirtual 323) [6, 2, 9, m_R_c] (.null) 204 := ⟨rfl, rfl⟩
set_option maxRecDepth 100000 in
theorem jf_228_204 : jG m_R_works 204 (.aload_n 0) [] (.null) 205 := ⟨rfl, rfl⟩
set_option maxRecDepth 100000 in
theorem jf_228_205 : jG m_R_works 205 (.iload_n 1) [] (.null) 206 := ⟨rfl, rfl⟩
set_option maxRecDepth 100000 in
theorem jf_228_206 : jG m_R_works 206 (.iconst 3) [] (.null) 207 := ⟨rfl, rfl⟩
set_option maxRecDepth 100000 in
theorem jf_228_207 : jG m_R_works 207 (.invokevirtual 335) [6, 2, 9, m_R_st] (.null) 210 := ⟨rfl, rfl⟩
set_option maxRecDepth 100000 in
theorem jf_228_210 : jG m_R_works 210 (.iconst 1) [] (.null) 211 := ⟨rfl, rfl⟩
set_option maxRecDepth 100000 in
theorem jf_228_211 : jG m_R_works 211 (.invokevirtual 327) [6, 3, 9, m_R_term] (.null) 214 := ⟨rfl, rfl⟩
set_option maxRecDepth 100000 in
theorem jf_228_214 : jG m_R_works 214 (.aload_n 0) [] (.null) 215 := ⟨rfl, rfl⟩
set_option maxRecDepth 100000 in
theorem jf_228_215 : jG m_R_works 215 (.invokevirtual 331) [6, 0, 9, m_R_comes] (.null) 218 := ⟨rfl, rfl⟩
set_option maxRecDepth 100000 in
theorem jf_228_218 : jG m_R_works 218 (.dstore 4) [] (.null) 220 := ⟨rfl, rfl⟩
set_option maxRecDepth 100000 in
theorem jf_228_220 : jG m_R_works 220 (.aload_n 0) [] (.null) 221 := ⟨rfl, rfl⟩
set_option maxRecDepth 100000 in
theorem jf_228_221 : jG m_R_works 221 (.iload_n 1) [] (.null) 222 := ⟨rfl, rfl⟩
set_option maxRecDepth 100000 in
theorem jf_228_222 : jG m_R_works 222 (.iconst 1) [] (.null) 223 := ⟨rfl, rfl⟩
set_option maxRecDepth 100000 in
theorem jf_228_223 : jG m_R_works 223 (.aload_n 0) [] (.null) 224 := ⟨rfl, rfl⟩
set_option maxRecDepth 100000 in
theorem jf_228_224 : jG m_R_works 224 (.iload_n 1) [] (.null) 225 := ⟨rfl, rfl⟩
set_option maxRecDepth 100000 in
theorem jf_228_225 : jG m_R_works 225 (.iconst 0) [] (.null) 226 := ⟨rfl, rfl⟩
set_option maxRecDepth 100000 in
theorem jf_228_226 : jG m_R_works 226 (.invokevirtual 335) [6, 2, 9, m_R_st] (.null) 229 := ⟨rfl, rfl⟩
set_option maxRecDepth 100000 in
theorem jf_228_229 : jG m_R_works 229 (.invokevirtual 338) [6, 3, 9, m_R_st_2] (.null) 232 := ⟨rfl, rfl⟩
set_option maxRecDepth 100000 in
theorem jf_228_232 : jG m_R_works 232 (.aload_n 0) [] (.null) 233 := ⟨rfl, rfl⟩
set_option maxRecDepth 100000 in
theorem jf_228_233 : jG m_R_works 233 (.iload_n 1) [] (.null) 234 := ⟨rfl, rfl⟩
set_option maxRecDepth 100000 in
theorem jf_228_234 : jG m_R_works 234 (.iconst 0) [] (.null) 235 := ⟨rfl, rfl⟩
set_option maxRecDepth 100000 in
theorem jf_228_235 : jG m_R_works 235 (.dload_n 2) [] (.null) 236 := ⟨rfl, rfl⟩
set_option maxRecDepth 100000 in
theorem jf_228_236 : jG m_R_works 236 (.invokevirtual 338) [6, 3, 9, m_R_st_2] (.null) 239 := ⟨rfl, rfl⟩
set_option maxRecDepth 100000 in
theorem jf_228_239 : jG m_R_works 239 (.aload_n 0) [] (.null) 240 := ⟨rfl, rfl⟩
set_option maxRecDepth 100000 in
theorem jf_228_240 : jG m_R_works 240 (.iload_n 1) [] (.null) 241 := ⟨rfl, rfl⟩
set_option maxRecDepth 100000 in
theorem jf_228_241 : jG m_R_works 241 (.iconst 3) [] (.null) 242 := ⟨rfl, rfl⟩
set_option maxRecDepth 100000 in
theorem jf_228_242 : jG m_R_works 242 (.aload_n 0) [] (.null) 243 := ⟨rfl, rfl⟩
set_option maxRecDepth 100000 in
theorem jf_228_243 : jG m_R_works 243 (.iload_n 1) [] (.null) 244 := ⟨rfl, rfl⟩
set_option maxRecDepth 100000 in
theorem jf_228_244 : jG m_R_works 244 (.iconst 2) [] (.null) 245 := ⟨rfl, rfl⟩
set_option maxRecDepth 100000 in
theorem jf_228_245 : jG m_R_works 245 (.invokevirtual 335) [6, 2, 9, m_R_st] (.null) 248 := ⟨rfl, rfl⟩
set_option maxRecDepth 100000 in
theorem jf_228_248 : jG m_R_works 248 (.invokevirtual 338) [6, 3, 9, m_R_st_2] (.null) 251 := ⟨rfl, rfl⟩
set_option maxRecDepth 100000 in
theorem jf_228_251 : jG m_R_works 251 (.aload_n 0) [] (.null) 252 := ⟨rfl, rfl⟩
set_option maxRecDepth 100000 in
theorem jf_228_252 : jG m_R_works 252 (.iload_n 1) [] (.null) 253 := ⟨rfl, rfl⟩
set_option maxRecDepth 100000 in
theorem jf_228_253 : jG m_R_works 253 (.iconst 2) [] (.null) 254 := ⟨rfl, rfl⟩
set_option maxRecDepth 100000 in
theorem jf_228_254 : jG m_R_works 254 (.dload 4) [] (.null) 256 := ⟨rfl, rfl⟩
set_option maxRecDepth 100000 in
theorem jf_228_256 : jG m_R_works 256 (.invokevirtual 338) [6, 3, 9, m_R_st_2] (.null) 259 := ⟨rfl, rfl⟩
set_option maxRecDepth 100000 in
theorem jf_228_259 : jG m_R_works 259 (.dload 4) [] (.null) 261 := ⟨rfl, rfl⟩
set_option maxRecDepth 100000 in
theorem jf_228_261 : jG m_R_works 261 (.dreturn) [] (.null) 262 := ⟨rfl, rfl⟩
set_option maxRecDepth 100000 in
theorem jf_228_262 : jG m_R_works 262 (.aload_n 0) [] (.null) 263 := ⟨rfl, rfl⟩
set_option maxRecDepth 100000 in
theorem jf_228_263 : jG m_R_works 263 (.iload_n 1) [] (.null) 264 := ⟨rfl, rfl⟩
set_option maxRecDepth 100000 in
theorem jf_228_264 : jG m_R_works 264 (.invokevirtual 320) [6, 1, 9, m_R_begins] (.null) 267 := ⟨rfl, rfl⟩
set_option maxRecDepth 100000 in
theorem jf_228_267 : jG m_R_works 267 (.aload_n 0) [] (.null) 268 := ⟨rfl, rfl⟩
set_option maxRecDepth 100000 in
theorem jf_228_268 : jG m_R_works 268 (.dload_n 2) [] (.null) 269 := ⟨rfl, rfl⟩
set_option maxRecDepth 100000 in
theorem jf_228_269 : jG m_R_works 269 (.iconst 0) [] (.null) 270 := ⟨rfl, rfl⟩
set_option maxRecDepth 100000 in
theorem jf_228_270 : jG m_R_works 270 (.invokevirtual 341) [6, 2, 9, m_R_term_2] (.null) 273 := ⟨rfl, rfl⟩
set_option maxRecDepth 100000 in
theorem jf_228_273 : jG m_R_works 273 (.aload_n 0) [] (.null) 274 := ⟨rfl, rfl⟩
set_option maxRecDepth 100000 in
theorem jf_228_274 : jG m_R_works 274 (.aload_n 0) [] (.null) 275 := ⟨rfl, rfl⟩
set_option maxRecDepth 100000 in
theorem jf_228_275 : jG m_R_works 275 (.iload_n 1) [] (.null) 276 := ⟨rfl, rfl⟩
set_option maxRecDepth 100000 in
theorem jf_228_276 : jG m_R_works 276 (.iconst 3) [] (.null) 277 := ⟨rfl, rfl⟩
set_option maxRecDepth 100000 in
theorem jf_228_277 : jG m_R_works 277 (.invokevirtual 323) [6, 2, 9, m_R_c] (.null) 280 := ⟨rfl, rfl⟩
set_option maxRecDepth 100000 in
theorem jf_228_280 : jG m_R_works 280 (.aload_n 0) [] (.null) 281 := ⟨rfl, rfl⟩
set_option maxRecDepth 100000 in
theorem jf_228_281 : jG m_R_works 281 (.iload_n 1) [] (.null) 282 := ⟨rfl, rfl⟩
set_option maxRecDepth 100000 in
theorem jf_228_282 : jG m_R_works 282 (.iconst 0) [] (.null) 283 := ⟨rfl, rfl⟩
set_option maxRecDepth 100000 in
theorem jf_228_283 : jG m_R_works 283 (.invokevirtual 335) [6, 2, 9, m_R_st] (.null) 286 := ⟨rfl, rfl⟩
set_option maxRecDepth 100000 in
theorem jf_228_286 : jG m_R_works 286 (.iconst 1) [] (.null) 287 := ⟨rfl, rfl⟩
set_option maxRecDepth 100000 in
theorem jf_228_287 : jG m_R_works 287 (.invokevirtual 327) [6, 3, 9, m_R_term] (.null) 290 := ⟨rfl, rfl⟩
set_option maxRecDepth 100000 in
theorem jf_228_290 : jG m_R_works 290 (.aload_n 0) [] (.null) 291 := ⟨rfl, rfl⟩
set_option maxRecDepth 100000 in
theorem jf_228_291 : jG m_R_works 291 (.aload_n 0) [] (.null) 292 := ⟨rfl, rfl⟩
set_option maxRecDepth 100000 in
theorem jf_228_292 : jG m_R_works 292 (.iload_n 1) [] (.null) 293 := ⟨rfl, rfl⟩
set_option maxRecDepth 100000 in
theorem jf_228_293 : jG m_R_works 293 (.iconst 4) [] (.null) 294 := ⟨rfl, rfl⟩
set_option maxRecDepth 100000 in
theorem jf_228_294 : jG m_R_works 294 (.invokevirtual 323) [6, 2, 9, m_R_c] (.null) 297 := ⟨rfl, rfl⟩
set_option maxRecDepth 100000 in
theorem jf_228_297 : jG m_R_works 297 (.aload_n 0) [] (.null) 298 := ⟨rfl, rfl⟩
set_option maxRecDepth 100000 in
theorem jf_228_298 : jG m_R_works 298 (.iload_n 1) [] (.null) 299 := ⟨rfl, rfl⟩
set_option maxRecDepth 100000 in
theorem jf_228_299 : jG m_R_works 299 (.iconst 1) [] (.null) 300 := ⟨rfl, rfl⟩
set_option maxRecDepth 100000 in
theorem jf_228_300 : jG m_R_works 300 (.invokevirtual 335) [6, 2, 9, m_R_st] (.null) 303 := ⟨rfl, rfl⟩
set_option maxRecDepth 100000 in
theorem jf_228_303 : jG m_R_works 303 (.iconst 1) [] (.null) 304 := ⟨rfl, rfl⟩
set_option maxRecDepth 100000 in
theorem jf_228_304 : jG m_R_works 304 (.invokevirtual 327) [6, 3, 9, m_R_term] (.null) 307 := ⟨rfl, rfl⟩
set_option maxRecDepth 100000 in
theorem jf_228_307 : jG m_R_works 307 (.aload_n 0) [] (.null) 308 := ⟨rfl, rfl⟩
set_option maxRecDepth 100000 in
theorem jf_228_308 : jG m_R_works 308 (.invokevirtual 331) [6, 0, 9, m_R_comes] (.null) 311 := ⟨rfl, rfl⟩
set_option maxRecDepth 100000 in
theorem jf_228_311 : jG m_R_works 311 (.dstore 4) [] (.null) 313 := ⟨rfl, rfl⟩
set_option maxRecDepth 100000 in
theorem jf_228_313 : jG m_R_works 313 (.aload_n 0) [] (.null) 314 := ⟨rfl, rfl⟩
set_option maxRecDepth 100000 in
theorem jf_228_314 : jG m_R_works 314 (.iload_n 1) [] (.null) 315 := ⟨rfl, rfl⟩
set_option maxRecDepth 100000 in
theorem jf_228_315 : jG m_R_works 315 (.invokevirtual 320) [6, 1, 9, m_R_begins] (.null) 318 := ⟨rfl, rfl⟩
set_option maxRecDepth 100000 in
theorem jf_228_318 : jG m_R_works 318 (.aload_n 0) [] (.null) 319 := ⟨rfl, rfl⟩
set_option maxRecDepth 100000 in
theorem jf_228_319 : jG m_R_works 319 (.aload_n 0) [] (.null) 320 := ⟨rfl, rfl⟩
set_option maxRecDepth 100000 in
theorem jf_228_320 : jG m_R_works 320 (.iload_n 1) [] (.null) 321 := ⟨rfl, rfl⟩
set_option maxRecDepth 100000 in
theorem jf_228_321 : jG m_R_works 321 (.iconst 0) [] (.null) 322 := ⟨rfl, rfl⟩
set_option maxRecDepth 100000 in
theorem jf_228_322 : jG m_R_works 322 (.invokevirtual 323) [6, 2, 9, m_R_c] (.null) 325 := ⟨rfl, rfl⟩
set_option maxRecDepth 100000 in
theorem jf_228_325 : jG m_R_works 325 (.dload 4) [] (.null) 327 := ⟨rfl, rfl⟩
set_option maxRecDepth 100000 in
theorem jf_228_327 : jG m_R_works 327 (.iconst 0) [] (.null) 328 := ⟨rfl, rfl⟩
set_option maxRecDepth 100000 in
theorem jf_228_328 : jG m_R_works 328 (.invokevirtual 327) [6, 3, 9, m_R_term] (.null) 331 := ⟨rfl, rfl⟩
set_option maxRecDepth 100000 in
theorem jf_228_331 : jG m_R_works 331 (.aload_n 0) [] (.null) 332 := ⟨rfl, rfl⟩
set_option maxRecDepth 100000 in
theorem jf_228_332 : jG m_R_works 332 (.aload_n 0) [] (.null) 333 := ⟨rfl, rfl⟩
set_option maxRecDepth 100000 in
theorem jf_228_333 : jG m_R_works 333 (.iload_n 1) [] (.null) 334 := ⟨rfl, rfl⟩
set_option maxRecDepth 100000 in
theorem jf_228_334 : jG m_R_works 334 (.iconst 1) [] (.null) 335 := ⟨rfl, rfl⟩
set_option maxRecDepth 100000 in
theorem jf_228_335 : jG m_R_works 335 (.invokevirtual 323) [6, 2, 9, m_R_c] (.null) 338 := ⟨rfl, rfl⟩
set_option maxRecDepth 100000 in
theorem jf_228_338 : jG m_R_works 338 (.aload_n 0) [] (.null) 339 := ⟨rfl, rfl⟩
set_option maxRecDepth 100000 in
theorem jf_228_339 : jG m_R_works 339 (.iload_n 1) [] (.null) 340 := ⟨rfl, rfl⟩
set_option maxRecDepth 100000 in
theorem jf_228_340 : jG m_R_works 340 (.iconst 0) [] (.null) 341 := ⟨rfl, rfl⟩
set_option maxRecDepth 100000 in
theorem jf_228_341 : jG m_R_works 341 (.invokevirtual 335) [6, 2, 9, m_R_st] (.null) 344 := ⟨rfl, rfl⟩
set_option maxRecDepth 100000 in
theorem jf_228_344 : jG m_R_works 344 (.iconst 0) [] (.null) 345 := ⟨rfl, rfl⟩
set_option maxRecDepth 100000 in
theorem jf_228_345 : jG m_R_works 345 (.invokevirtual 327) [6, 3, 9, m_R_term] (.null) 348 := ⟨rfl, rfl⟩
set_option maxRecDepth 100000 in
theorem jf_228_348 : jG m_R_works 348 (.aload_n 0) [] (.null) 349 := ⟨rfl, rfl⟩
set_option maxRecDepth 100000 in
theorem jf_228_349 : jG m_R_works 349 (.aload_n 0) [] (.null) 350 := ⟨rfl, rfl⟩
set_option maxRecDepth 100000 in
theorem jf_228_350 : jG m_R_works 350 (.iload_n 1) [] (.null) 351 := ⟨rfl, rfl⟩
set_option maxRecDepth 100000 in
theorem jf_228_351 : jG m_R_works 351 (.iconst 2) [] (.null) 352 := ⟨rfl, rfl⟩
set_option maxRecDepth 100000 in
theorem jf_228_352 : jG m_R_works 352 (.invokevirtual 323) [6, 2, 9, m_R_c] (.null) 355 := ⟨rfl, rfl⟩
set_option maxRecDepth 100000 in
theorem jf_228_355 : jG m_R_works 355 (.aload_n 0) [] (.null) 356 := ⟨rfl, rfl⟩
set_option maxRecDepth 100000 in
theorem jf_228_356 : jG m_R_works 356 (.iload_n 1) [] (.null) 357 := ⟨rfl, rfl⟩
set_option maxRecDepth 100000 in
theorem jf_228_357 : jG m_R_works 357 (.iconst 1) [] (.null) 358 := ⟨rfl, rfl⟩
set_option maxRecDepth 100000 in
theorem jf_228_358 : jG m_R_works 358 (.invokevirtual 335) [6, 2, 9, m_R_st] (.null) 361 := ⟨rfl, rfl⟩
set_option maxRecDepth 100000 in
theorem jf_228_361 : jG m_R_works 361 (.iconst 0) [] (.null) 362 := ⟨rfl, rfl⟩
set_option maxRecDepth 100000 in
theorem jf_228_362 : jG m_R_works 362 (.invokevirtual 327) [6, 3, 9, m_R_term] (.null) 365 := ⟨rfl, rfl⟩
set_option maxRecDepth 100000 in
theorem jf_228_365 : jG m_R_works 365 (.aload_n 0) [] (.null) 366 := ⟨rfl, rfl⟩
set_option maxRecDepth 100000 in
theorem jf_228_366 : jG m_R_works 366 (.invokevirtual 331) [6, 0, 9, m_R_comes] (.null) 369 := ⟨rfl, rfl⟩
set_option maxRecDepth 100000 in
theorem jf_228_369 : jG m_R_works 369 (.dstore 6) [] (.null) 371 := ⟨rfl, rfl⟩
set_option maxRecDepth 100000 in
theorem jf_228_371 : jG m_R_works 371 (.aload_n 0) [] (.null) 372 := ⟨rfl, rfl⟩
set_option maxRecDepth 100000 in
theorem jf_228_372 : jG m_R_works 372 (.iload_n 1) [] (.null) 373 := ⟨rfl, rfl⟩
set_option maxRecDepth 100000 in
theorem jf_228_373 : jG m_R_works 373 (.iconst 1) [] (.null) 374 := ⟨rfl, rfl⟩
set_option maxRecDepth 100000 in
theorem jf_228_374 : jG m_R_works 374 (.aload_n 0) [] (.null) 375 := ⟨rfl, rfl⟩
set_option maxRecDepth 100000 in
theorem jf_228_375 : jG m_R_works 375 (.iload_n 1) [] (.null) 376 := ⟨rfl, rfl⟩
set_option maxRecDepth 100000 in
theorem jf_228_376 : jG m_R_works 376 (.iconst 0) [] (.null) 377 := ⟨rfl, rfl⟩
set_option maxRecDepth 100000 in
theorem jf_228_377 : jG m_R_works 377 (.invokevirtual 335) [6, 2, 9, m_R_st] (.null) 380 := ⟨rfl, rfl⟩
set_option maxRecDepth 100000 in
theorem jf_228_380 : jG m_R_works 380 (.invokevirtual 338) [6, 3, 9, m_R_st_2] (.null) 383 := ⟨rfl, rfl⟩
set_option maxRecDepth 100000 in
theorem jf_228_383 : jG m_R_works 383 (.aload_n 0) [] (.null) 384 := ⟨rfl, rfl⟩
set_option maxRecDepth 100000 in
theorem jf_228_384 : jG m_R_works 384 (.iload_n 1) [] (.null) 385 := ⟨rfl, rfl⟩
set_option maxRecDepth 100000 in
theorem jf_228_385 : jG m_R_works 385 (.iconst 0) [] (.null) 386 := ⟨rfl, rfl⟩
set_option maxRecDepth 100000 in
theorem jf_228_386 : jG m_R_works 386 (.dload 4) [] (.null) 388 := ⟨rfl, rfl⟩
set_option maxRecDepth 100000 in
theorem jf_228_388 : jG m_R_works 388 (.invokevirtual 338) [6, 3, 9, m_R_st_2] (.null) 391 := ⟨rfl, rfl⟩
set_option maxRecDepth 100000 in
theorem jf_228_391 : jG m_R_works 391 (.dload 6) [] (.null) 393 := ⟨rfl, rfl⟩
set_option maxRecDepth 100000 in
theorem jf_228_393 : jG m_R_works 393 (.dreturn) [] (.null) 394 := ⟨rfl, rfl⟩
set_option maxRecDepth 100000 in
theorem jf_228_394 : jG m_R_works 394 (.aload_n 0) [] (.null) 395 := ⟨rfl, rfl⟩
set_option maxRecDepth 100000 in
theorem jf_228_395 : jG m_R_works 395 (.iload_n 1) [] (.null) 396 := ⟨rfl, rfl⟩
set_option maxRecDepth 100000 in
theorem jf_228_396 : jG m_R_works 396 (.invokevirtual 320) [6, 1, 9, m_R_begins] (.null) 399 := ⟨rfl, rfl⟩
set_option maxRecDepth 100000 in
theorem jf_228_399 : jG m_R_works 399 (.aload_n 0) [] (.null) 400 := ⟨rfl, rfl⟩
set_option maxRecDepth 100000 in
theorem jf_228_400 : jG m_R_works 400 (.aload_n 0) [] (.null) 401 := ⟨rfl, rfl⟩
set_option maxRecDepth 100000 in
theorem jf_228_401 : jG m_R_works 401 (.iload_n 1) [] (.null) 402 := ⟨rfl, rfl⟩
set_option maxRecDepth 100000 in
theorem jf_228_402 : jG m_R_works 402 (.iconst 0) [] (.null) 403 := ⟨rfl, rfl⟩
set_option maxRecDepth 100000 in
theorem jf_228_403 : jG m_R_works 403 (.invokevirtual 323) [6, 2, 9, m_R_c] (.null) 406 := ⟨rfl, rfl⟩
set_option maxRecDepth 100000 in
theorem jf_228_406 : jG m_R_works 406 (.dload_n 2) [] (.null) 407 := ⟨rfl, rfl⟩
set_option maxRecDepth 100000 in
theorem jf_228_407 : jG m_R_works 407 (.iconst 0) [] (.null) 408 := ⟨rfl, rfl⟩
set_option maxRecDepth 100000 in
theorem jf_228_408 : jG m_R_works 408 (.invokevirtual 327) [6, 3, 9, m_R_term] (.null) 411 := ⟨rfl, rfl⟩
set_option maxRecDepth 100000 in
theorem jf_228_411 : jG m_R_works 411 (.aload_n 0) [] (.null) 412 := ⟨rfl, rfl⟩
set_option maxRecDepth 100000 in
theorem jf_228_412 : jG m_R_works 412 (.aload_n 0) [] (.null) 413 := ⟨rfl, rfl⟩
set_option maxRecDepth 100000 in
theorem jf_228_413 : jG m_R_works 413 (.iload_n 1) [] (.null) 414 := ⟨rfl, rfl⟩
set_option maxRecDepth 100000 in
theorem jf_228_414 : jG m_R_works 414 (.iconst 0) [] (.null) 415 := ⟨rfl, rfl⟩
set_option maxRecDepth 100000 in
theorem jf_228_415 : jG m_R_works 415 (.invokevirtual 335) [6, 2, 9, m_R_st] (.null) 418 := ⟨rfl, rfl⟩
set_option maxRecDepth 100000 in
theorem jf_228_418 : jG m_R_works 418 (.iconst 0) [] (.null) 419 := ⟨rfl, rfl⟩
set_option maxRecDepth 100000 in
theorem jf_228_419 : jG m_R_works 419 (.invokevirtual 341) [6, 2, 9, m_R_term_2] (.null) 422 := ⟨rfl, rfl⟩
set_option maxRecDepth 100000 in
theorem jf_228_422 : jG m_R_works 422 (.aload_n 0) [] (.null) 423 := ⟨rfl, rfl⟩
set_option maxRecDepth 100000 in
theorem jf_228_423 : jG m_R_works 423 (.invokevirtual 331) [6, 0, 9, m_R_comes] (.null) 426 := ⟨rfl, rfl⟩
set_option maxRecDepth 100000 in
theorem jf_228_426 : jG m_R_works 426 (.dstore 4) [] (.null) 428 := ⟨rfl, rfl⟩
set_option maxRecDepth 100000 in
theorem jf_228_428 : jG m_R_works 428 (.aload_n 0) [] (.null) 429 := ⟨rfl, rfl⟩
set_option maxRecDepth 100000 in
theorem jf_228_429 : jG m_R_works 429 (.iload_n 1) [] (.null) 430 := ⟨rfl, rfl⟩
set_option maxRecDepth 100000 in
theorem jf_228_430 : jG m_R_works 430 (.invokevirtual 320) [6, 1, 9, m_R_begins] (.null) 433 := ⟨rfl, rfl⟩
set_option maxRecDepth 100000 in
theorem jf_228_433 : jG m_R_works 433 (.aload_n 0) [] (.null) 434 := ⟨rfl, rfl⟩
set_option maxRecDepth 100000 in
theorem jf_228_434 : jG m_R_works 434 (.aload_n 0) [] (.null) 435 := ⟨rfl, rfl⟩
set_option maxRecDepth 100000 in
theorem jf_228_435 : jG m_R_works 435 (.iload_n 1) [] (.null) 436 := ⟨rfl, rfl⟩
set_option maxRecDepth 100000 in
theorem jf_228_436 : jG m_R_works 436 (.iconst 1) [] (.null) 437 := ⟨rfl, rfl⟩
set_option maxRecDepth 100000 in
theorem jf_228_437 : jG m_R_works 437 (.invokevirtual 323) [6, 2, 9, m_R_c] (.null) 440 := ⟨rfl, rfl⟩
set_option maxRecDepth 100000 in
theorem jf_228_440 : jG m_R_works 440 (.dload_n 2) [] (.null) 441 := ⟨rfl, rfl⟩
set_option maxRecDepth 100000 in
theorem jf_228_441 : jG m_R_works 441 (.iconst 0) [] (.null) 442 := ⟨rfl, rfl⟩
set_option maxRecDepth 100000 in
theorem jf_228_442 : jG m_R_works 442 (.invokevirtual 327) [6, 3, 9, m_R_term] (.null) 445 := ⟨rfl, rfl⟩
set_option maxRecDepth 100000 in
theorem jf_228_445 : jG m_R_works 445 (.aload_n 0) [] (.null) 446 := ⟨rfl, rfl⟩
set_option maxRecDepth 100000 in
theorem jf_228_446 : jG m_R_works 446 (.aload_n 0) [] (.null) 447 := ⟨rfl, rfl⟩
set_option maxRecDepth 100000 in
theorem jf_228_447 : jG m_R_works 447 (.iload_n 1) [] (.null) 448 := ⟨rfl, rfl⟩
set_option maxRecDepth 100000 in
theorem jf_228_448 : jG m_R_works 448 (.iconst 3) [] (.null) 449 := ⟨rfl, rfl⟩
set_option maxRecDepth 100000 in
theorem jf_228_449 : jG m_R_works 449 (.invokevirtual 323) [6, 2, 9, m_R_c] (.null) 452 := ⟨rfl, rfl⟩
set_option maxRecDepth 100000 in
theorem jf_228_452 : jG m_R_works 452 (.dload 4) [] (.null) 454 := ⟨rfl, rfl⟩
set_option maxRecDepth 100000 in
theorem jf_228_454 : jG m_R_works 454 (.iconst 1) [] (.null) 455 := ⟨rfl, rfl⟩
set_option maxRecDepth 100000 in
theorem jf_228_455 : jG m_R_works 455 (.invokevirtual 327) [6, 3, 9, m_R_term] (.null) 458 := ⟨rfl, rfl⟩
set_option maxRecDepth 100000 in
theorem jf_228_458 : jG m_R_works 458 (.aload_n 0) [] (.null) 459 := ⟨rfl, rfl⟩
set_option maxRecDepth 100000 in
theorem jf_228_459 : jG m_R_works 459 (.aload_n 0) [] (.null) 460 := ⟨rfl, rfl⟩
set_option maxRecDepth 100000 in
theorem jf_228_460 : jG m_R_works 460 (.iload_n 1) [] (.null) 461 := ⟨rfl, rfl⟩
set_option maxRecDepth 100000 in
theorem jf_228_461 : jG m_R_works 461 (.iconst 1) [] (.null) 462 := ⟨rfl, rfl⟩
set_option maxRecDepth 100000 in
theorem jf_228_462 : jG m_R_works 462 (.invokevirtual 335) [6, 2, 9, m_R_st] (.null) 465 := ⟨rfl, rfl⟩
set_option maxRecDepth 100000 in
theorem jf_228_465 : jG m_R_works 465 (.iconst 0) [] (.null) 466 := ⟨rfl, rfl⟩
set_option maxRecDepth 100000 in
theorem jf_228_466 : jG m_R_works 466 (.invokevirtual 341) [6, 2, 9, m_R_term_2] (.null) 469 := ⟨rfl, rfl⟩
set_option maxRecDepth 100000 in
theorem jf_228_469 : jG m_R_works 469 (.aload_n 0) [] (.null) 470 := ⟨rfl, rfl⟩
set_option maxRecDepth 100000 in
theorem jf_228_470 : jG m_R_works 470 (.iload_n 1) [] (.null) 471 := ⟨rfl, rfl⟩
set_option maxRecDepth 100000 in
theorem jf_228_471 : jG m_R_works 471 (.iconst 0) [] (.null) 472 := ⟨rfl, rfl⟩
set_option maxRecDepth 100000 in
theorem jf_228_472 : jG m_R_works 472 (.aload_n 0) [] (.null) 473 := ⟨rfl, rfl⟩
set_option maxRecDepth 100000 in
theorem jf_228_473 : jG m_R_works 473 (.invokevirtual 331) [6, 0, 9, m_R_comes] (.null) 476 := ⟨rfl, rfl⟩
set_option maxRecDepth 100000 in
theorem jf_228_476 : jG m_R_works 476 (.invokevirtual 338) [6, 3, 9, m_R_st_2] (.null) 479 := ⟨rfl, rfl⟩
set_option maxRecDepth 100000 in
theorem jf_228_479 : jG m_R_works 479 (.aload_n 0) [] (.null) 480 := ⟨rfl, rfl⟩
set_option maxRecDepth 100000 in
theorem jf_228_480 : jG m_R_works 480 (.iload_n 1) [] (.null) 481 := ⟨rfl, rfl⟩
set_option maxRecDepth 100000 in
theorem jf_228_481 : jG m_R_works 481 (.invokevirtual 320) [6, 1, 9, m_R_begins] (.null) 484 := ⟨rfl, rfl⟩
set_option maxRecDepth 100000 in
theorem jf_228_484 : jG m_R_works 484 (.aload_n 0) [] (.null) 485 := ⟨rfl, rfl⟩
set_option maxRecDepth 100000 in
theorem jf_228_485 : jG m_R_works 485 (.aload_n 0) [] (.null) 486 := ⟨rfl, rfl⟩
set_option maxRecDepth 100000 in
theorem jf_228_486 : jG m_R_works 486 (.iload_n 1) [] (.null) 487 := ⟨rfl, rfl⟩
set_option maxRecDepth 100000 in
theorem jf_228_487 : jG m_R_works 487 (.iconst 2) [] (.null) 488 := ⟨rfl, rfl⟩
set_option maxRecDepth 100000 in
theorem jf_228_488 : jG m_R_works 488 (.invokevirtual 323) [6, 2, 9, m_R_c] (.null) 491 := ⟨rfl, rfl⟩
set_option maxRecDepth 100000 in
theorem jf_228_491 : jG m_R_works 491 (.dload_n 2) [] (.null) 492 := ⟨rfl, rfl⟩
set_option maxRecDepth 100000 in
theorem jf_228_492 : jG m_R_works 492 (.iconst 0) [] (.null) 493 := ⟨rfl, rfl⟩
set_option maxRecDepth 100000 in
theorem jf_228_493 : jG m_R_works 493 (.invokevirtual 327) [6, 3, 9, m_R_term] (.null) 496 := ⟨rfl, rfl⟩
set_option maxRecDepth 100000 in
theorem jf_228_496 : jG m_R_works 496 (.aload_n 0) [] (.null) 497 := ⟨rfl, rfl⟩
set_option maxRecDepth 100000 in
theorem jf_228_497 : jG m_R_works 497 (.aload_n 0) [] (.null) 498 := ⟨rfl, rfl⟩
set_option maxRecDepth 100000 in
theorem jf_228_498 : jG m_R_works 498 (.iload_n 1) [] (.null) 499 := ⟨rfl, rfl⟩
set_option maxRecDepth 100000 in
theorem jf_228_499 : jG m_R_works 499 (.iconst 4) [] (.null) 500 := ⟨rfl, rfl⟩
set_option maxRecDepth 100000 in
theorem jf_228_500 : jG m_R_works 500 (.invokevirtual 323) [6, 2, 9, m_R_c] (.null) 503 := ⟨rfl, rfl⟩
set_option maxRecDepth 100000 in
theorem jf_228_503 : jG m_R_works 503 (.dload 4) [] (.null) 505 := ⟨rfl, rfl⟩
set_option maxRecDepth 100000 in
theorem jf_228_505 : jG m_R_works 505 (.iconst 1) [] (.null) 506 := ⟨rfl, rfl⟩
set_option maxRecDepth 100000 in
theorem jf_228_506 : jG m_R_works 506 (.invokevirtual 327) [6, 3, 9, m_R_term] (.null) 509 := ⟨rfl, rfl⟩
set_option maxRecDepth 100000 in
theorem jf_228_509 : jG m_R_works 509 (.aload_n 0) [] (.null) 510 := ⟨rfl, rfl⟩
set_option maxRecDepth 100000 in
theorem jf_228_510 : jG m_R_works 510 (.iload_n 1) [] (.null) 511 := ⟨rfl, rfl⟩
set_option maxRecDepth 100000 in
theorem jf_228_511 : jG m_R_works 511 (.iconst 1) [] (.null) 512 := ⟨rfl, rfl⟩
set_option maxRecDepth 100000 in
theorem jf_228_512 : jG m_R_works 512 (.aload_n 0) [] (.null) 513 := ⟨rfl, rfl⟩
set_option maxRecDepth 100000 in
theorem jf_228_513 : jG m_R_works 513 (.invokevirtual 331) [6, 0, 9, m_R_comes] (.null) 516 := ⟨rfl, rfl⟩
set_option maxRecDepth 100000 in
theorem jf_228_516 : jG m_R_works 516 (.invokevirtual 338) [6, 3, 9, m_R_st_2] (.null) 519 := ⟨rfl, rfl⟩
set_option maxRecDepth 100000 in
theorem jf_228_519 : jG m_R_works 519 (.dload 4) [] (.null) 521 := ⟨rfl, rfl⟩
set_option maxRecDepth 100000 in
theorem jf_228_521 : jG m_R_works 521 (.dreturn) [] (.null) 522 := ⟨rfl, rfl⟩
set_option maxRecDepth 100000 in
theorem jf_228_522 : jG m_R_works 522 (.aload_n 0) [] (.null) 523 := ⟨rfl, rfl⟩
set_option maxRecDepth 100000 in
theorem jf_228_523 : jG m_R_works 523 (.iload_n 1) [] (.null) 524 := ⟨rfl, rfl⟩
set_option maxRecDepth 100000 in
theorem jf_228_524 : jG m_R_works 524 (.invokevirtual 320) [6, 1, 9, m_R_begins] (.null) 527 := ⟨rfl, rfl⟩
set_option maxRecDepth 100000 in
theorem jf_228_527 : jG m_R_works 527 (.aload_n 0) [] (.null) 528 := ⟨rfl, rfl⟩
set_option maxRecDepth 100000 in
theorem jf_228_528 : jG m_R_works 528 (.dload_n 2) [] (.null) 529 := ⟨rfl, rfl⟩
set_option maxRecDepth 100000 in
theorem jf_228_529 : jG m_R_works 529 (.iconst 0) [] (.null) 530 := ⟨rfl, rfl⟩
set_option maxRecDepth 100000 in
theorem jf_228_530 : jG m_R_works 530 (.invokevirtual 341) [6, 2, 9, m_R_term_2] (.null) 533 := ⟨rfl, rfl⟩
set_option maxRecDepth 100000 in
theorem jf_228_533 : jG m_R_works 533 (.aload_n 0) [] (.null) 534 := ⟨rfl, rfl⟩
set_option maxRecDepth 100000 in
theorem jf_228_534 : jG m_R_works 534 (.aload_n 0) [] (.null) 535 := ⟨rfl, rfl⟩
set_option maxRecDepth 100000 in
theorem jf_228_535 : jG m_R_works 535 (.iload_n 1) [] (.null) 536 := ⟨rfl, rfl⟩
set_option maxRecDepth 100000 in
theorem jf_228_536 : jG m_R_works 536 (.iconst 0) [] (.null) 537 := ⟨rfl, rfl⟩
set_option maxRecDepth 100000 in
theorem jf_228_537 : jG m_R_works 537 (.invokevirtual 323) [6, 2, 9, m_R_c] (.null) 540 := ⟨rfl, rfl⟩
set_option maxRecDepth 100000 in
theorem jf_228_540 : jG m_R_works 540 (.aload_n 0) [] (.null) 541 := ⟨rfl, rfl⟩
set_option maxRecDepth 100000 in
theorem jf_228_541 : jG m_R_works 541 (.iload_n 1) [] (.null) 542 := ⟨rfl, rfl⟩
set_option maxRecDepth 100000 in
theorem jf_228_542 : jG m_R_works 542 (.iconst 0) [] (.null) 543 := ⟨rfl, rfl⟩
set_option maxRecDepth 100000 in
theorem jf_228_543 : jG m_R_works 543 (.invokevirtual 335) [6, 2, 9, m_R_st] (.null) 546 := ⟨rfl, rfl⟩
set_option maxRecDepth 100000 in
theorem jf_228_546 : jG m_R_works 546 (.iconst 1) [] (.null) 547 := ⟨rfl, rfl⟩
set_option maxRecDepth 100000 in
theorem jf_228_547 : jG m_R_works 547 (.invokevirtual 327) [6, 3, 9, m_R_term] (.null) 550 := ⟨rfl, rfl⟩
set_option maxRecDepth 100000 in
theorem jf_228_550 : jG m_R_works 550 (.aload_n 0) [] (.null) 551 := ⟨rfl, rfl⟩
set_option maxRecDepth 100000 in
theorem jf_228_551 : jG m_R_works 551 (.invokevirtual 331) [6, 0, 9, m_R_comes] (.null) 554 := ⟨rfl, rfl⟩
set_option maxRecDepth 100000 in
theorem jf_228_554 : jG m_R_works 554 (.dstore 4) [] (.null) 556 := ⟨rfl, rfl⟩
set_option maxRecDepth 100000 in
theorem jf_228_556 : jG m_R_works 556 (.aload_n 0) [] (.null) 557 := ⟨rfl, rfl⟩
set_option maxRecDepth 100000 in
theorem jf_228_557 : jG m_R_works 557 (.iload_n 1) [] (.null) 558 := ⟨rfl, rfl⟩
set_option maxRecDepth 100000 in
theorem jf_228_558 : jG m_R_works 558 (.invokevirtual 320) [6, 1, 9, m_R_begins] (.null) 561 := ⟨rfl, rfl⟩
set_option maxRecDepth 100000 in
theorem jf_228_561 : jG m_R_works 561 (.aload_n 0) [] (.null) 562 := ⟨rfl, rfl⟩
set_option maxRecDepth 100000 in
theorem jf_228_562 : jG m_R_works 562 (.aload_n 0) [] (.null) 563 := ⟨rfl, rfl⟩
set_option maxRecDepth 100000 in
theorem jf_228_563 : jG m_R_works 563 (.iload_n 1) [] (.null) 564 := ⟨rfl, rfl⟩
set_option maxRecDepth 100000 in
theorem jf_228_564 : jG m_R_works 564 (.iconst 0) [] (.null) 565 := ⟨rfl, rfl⟩
set_option maxRecDepth 100000 in
theorem jf_228_565 : jG m_R_works 565 (.invokevirtual 323) [6, 2, 9, m_R_c] (.null) 568 := ⟨rfl, rfl⟩
set_option maxRecDepth 100000 in
theorem jf_228_568 : jG m_R_works 568 (.dload 4) [] (.null) 570 := ⟨rfl, rfl⟩
set_option maxRecDepth 100000 in
theorem jf_228_570 : jG m_R_works 570 (.iconst 0) [] (.null) 571 := ⟨rfl, rfl⟩
set_option maxRecDepth 100000 in
theorem jf_228_571 : jG m_R_works 571 (.invokevirtual 327) [6, 3, 9, m_R_term] (.null) 574 := ⟨rfl, rfl⟩
set_option maxRecDepth 100000 in
theorem jf_228_574 : jG m_R_works 574 (.aload_n 0) [] (.null) 575 := ⟨rfl, rfl⟩
set_option maxRecDepth 100000 in
theorem jf_228_575 : jG m_R_works 575 (.aload_n 0) [] (.null) 576 := ⟨rfl, rfl⟩
set_option maxRecDepth 100000 in
theorem jf_228_576 : jG m_R_works 576 (.iload_n 1) [] (.null) 577 := ⟨rfl, rfl⟩
set_option maxRecDepth 100000 in
theorem jf_228_577 : jG m_R_works 577 (.iconst 0) [] (.null) 578 := ⟨rfl, rfl⟩
set_option maxRecDepth 100000 in
theorem jf_228_578 : jG m_R_works 578 (.invokevirtual 335) [6, 2, 9, m_R_st] (.null) 581 := ⟨rfl, rfl⟩
set_option maxRecDepth 100000 in
theorem jf_228_581 : jG m_R_works 581 (.iconst 0) [] (.null) 582 := ⟨rfl, rfl⟩
set_option maxRecDepth 100000 in
theorem jf_228_582 : jG m_R_works 582 (.invokevirtual 341) [6, 2, 9, m_R_term_2] (.null) 585 := ⟨rfl, rfl⟩
set_option maxRecDepth 100000 in
theorem jf_228_585 : jG m_R_works 585 (.aload_n 0) [] (.null) 586 := ⟨rfl, rfl⟩
set_option maxRecDepth 100000 in
theorem jf_228_586 : jG m_R_works 586 (.iload_n 1) [] (.null) 587 := ⟨rfl, rfl⟩
set_option maxRecDepth 100000 in
theorem jf_228_587 : jG m_R_works 587 (.iconst 0) [] (.null) 588 := ⟨rfl, rfl⟩
set_option maxRecDepth 100000 in
theorem jf_228_588 : jG m_R_works 588 (.dload 4) [] (.null) 590 := ⟨rfl, rfl⟩
set_option maxRecDepth 100000 in
theorem jf_228_590 : jG m_R_works 590 (.invokevirtual 338) [6, 3, 9, m_R_st_2] (.null) 593 := ⟨rfl, rfl⟩
set_option maxRecDepth 100000 in
theorem jf_228_593 : jG m_R_works 593 (.aload_n 0) [] (.null) 594 := ⟨rfl, rfl⟩
set_option maxRecDepth 100000 in
theorem jf_228_594 : jG m_R_works 594 (.invokevirtual 331) [6, 0, 9, m_R_comes] (.null) 597 := ⟨rfl, rfl⟩
set_option maxRecDepth 100000 in
theorem jf_228_597 : jG m_R_works 597 (.dreturn) [] (.null) 598 := ⟨rfl, rfl⟩
set_option maxRecDepth 100000 in
theorem jf_228_598 : jG m_R_works 598 (.aload_n 0) [] (.null) 599 := ⟨rfl, rfl⟩
set_option maxRecDepth 100000 in
theorem jf_228_599 : jG m_R_works 599 (.iload_n 1) [] (.null) 600 := ⟨rfl, rfl⟩
set_option maxRecDepth 100000 in
theorem jf_228_600 : jG m_R_works 600 (.dload_n 2) [] (.null) 601 := ⟨rfl, rfl⟩
set_option maxRecDepth 100000 in
theorem jf_228_601 : jG m_R_works 601 (.invokevirtual 343) [6, 2, 9, m_R_rings] (.null) 604 := ⟨rfl, rfl⟩
set_option maxRecDepth 100000 in
theorem jf_228_604 : jG m_R_works 604 (.dreturn) [] (.null) 605 := ⟨rfl, rfl⟩
set_option maxRecDepth 100000 in
theorem jf_228_605 : jG m_R_works 605 (.aload_n 0) [] (.null) 606 := ⟨rfl, rfl⟩
set_option maxRecDepth 100000 in
theorem jf_228_606 : jG m_R_works 606 (.iload_n 1) [] (.null) 607 := ⟨rfl, rfl⟩
set_option maxRecDepth 100000 in
theorem jf_228_607 : jG m_R_works 607 (.dload_n 2) [] (.null) 608 := ⟨rfl, rfl⟩
set_option maxRecDepth 100000 in
theorem jf_228_608 : jG m_R_works 608 (.invokevirtual 343) [6, 2, 9, m_R_rings] (.null) 611 := ⟨rfl, rfl⟩
set_option maxRecDepth 100000 in
theorem jf_228_611 : jG m_R_works 611 (.pop2) [] (.null) 612 := ⟨rfl, rfl⟩
set_option maxRecDepth 100000 in
theorem jf_228_612 : jG m_R_works 612 (.aload_n 0) [] (.null) 613 := ⟨rfl, rfl⟩
set_option maxRecDepth 100000 in
theorem jf_228_613 : jG m_R_works 613 (.iload_n 1) [] (.null) 614 := ⟨rfl, rfl⟩
set_option maxRecDepth 100000 in
theorem jf_228_614 : jG m_R_works 614 (.invokevirtual 320) [6, 1, 9, m_R_begins] (.null) 617 := ⟨rfl, rfl⟩
set_option maxRecDepth 100000 in
theorem jf_228_617 : jG m_R_works 617 (.iconst 0) [] (.null) 618 := ⟨rfl, rfl⟩
set_option maxRecDepth 100000 in
theorem jf_228_618 : jG m_R_works 618 (.istore 4) [] (.null) 620 := ⟨rfl, rfl⟩
set_option maxRecDepth 100000 in
theorem jf_228_620 : jG m_R_works 620 (.iload 4) [] (.null) 622 := ⟨rfl, rfl⟩
set_option maxRecDepth 100000 in
theorem jf_228_622 : jG m_R_works 622 (.aload_n 0) [] (.null) 623 := ⟨rfl, rfl⟩
set_option maxRecDepth 100000 in
theorem jf_228_623 : jG m_R_works 623 (.getfield 20) [9, 4] (.null) 626 := ⟨rfl, rfl⟩
set_option maxRecDepth 100000 in
theorem jf_228_626 : jG m_R_works 626 (.iload_n 1) [] (.null) 627 := ⟨rfl, rfl⟩
set_option maxRecDepth 100000 in
theorem jf_228_627 : jG m_R_works 627 (.iaload) [] (.null) 628 := ⟨rfl, rfl⟩
set_option maxRecDepth 100000 in
theorem jf_228_628 : jG m_R_works 628 (.if_icmp .ge 35) [663] (.null) 631 := ⟨rfl, rfl⟩
set_option maxRecDepth 100000 in
theorem jf_228_631 : jG m_R_works 631 (.aload_n 0) [] (.null) 632 := ⟨rfl, rfl⟩
set_option maxRecDepth 100000 in
theorem jf_228_632 : jG m_R_works 632 (.aload_n 0) [] (.null) 633 := ⟨rfl, rfl⟩
set_option maxRecDepth 100000 in
theorem jf_228_633 : jG m_R_works 633 (.iload_n 1) [] (.null) 634 := ⟨rfl, rfl⟩
set_option maxRecDepth 100000 in
theorem jf_228_634 : jG m_R_works 634 (.aload_n 0) [] (.null) 635 := ⟨rfl, rfl⟩
set_option maxRecDepth 100000 in
theorem jf_228_635 : jG m_R_works 635 (.getfield 51) [9, 14] (.null) 638 := ⟨rfl, rfl⟩
set_option maxRecDepth 100000 in
theorem jf_228_638 : jG m_R_works 638 (.iload_n 1) [] (.null) 639 := ⟨rfl, rfl⟩
set_option maxRecDepth 100000 in
theorem jf_228_639 : jG m_R_works 639 (.iaload) [] (.null) 640 := ⟨rfl, rfl⟩
set_option maxRecDepth 100000 in
theorem jf_228_640 : jG m_R_works 640 (.iload 4) [] (.null) 642 := ⟨rfl, rfl⟩
set_option maxRecDepth 100000 in
theorem jf_228_642 : jG m_R_works 642 (.iadd) [] (.null) 643 := ⟨rfl, rfl⟩
set_option maxRecDepth 100000 in
theorem jf_228_643 : jG m_R_works 643 (.aload_n 0) [] (.null) 644 := ⟨rfl, rfl⟩
set_option maxRecDepth 100000 in
theorem jf_228_644 : jG m_R_works 644 (.getfield 20) [9, 4] (.null) 647 := ⟨rfl, rfl⟩
set_option maxRecDepth 100000 in
theorem jf_228_647 : jG m_R_works 647 (.iload_n 1) [] (.null) 648 := ⟨rfl, rfl⟩
set_option maxRecDepth 100000 in
theorem jf_228_648 : jG m_R_works 648 (.iaload) [] (.null) 649 := ⟨rfl, rfl⟩
set_option maxRecDepth 100000 in
theorem jf_228_649 : jG m_R_works 649 (.irem) [] (.null) 650 := ⟨rfl, rfl⟩
set_option maxRecDepth 100000 in
theorem jf_228_650 : jG m_R_works 650 (.invokevirtual 335) [6, 2, 9, m_R_st] (.null) 653 := ⟨rfl, rfl⟩
set_option maxRecDepth 100000 in
theorem jf_228_653 : jG m_R_works 653 (.iconst 0) [] (.null) 654 := ⟨rfl, rfl⟩
set_option maxRecDepth 100000 in
theorem jf_228_654 : jG m_R_works 654 (.invokevirtual 341) [6, 2, 9, m_R_term_2] (.null) 657 := ⟨rfl, rfl⟩
set_option maxRecDepth 100000 in
theorem jf_228_657 : jG m_R_works 657 (.iinc 4 1) [] (.null) 660 := ⟨rfl, rfl⟩
set_option maxRecDepth 100000 in
theorem jf_228_660 : jG m_R_works 660 (.goto (-40)) [620] (.null) 663 := ⟨rfl, rfl⟩
set_option maxRecDepth 100000 in
theorem jf_228_663 : jG m_R_works 663 (.aload_n 0) [] (.null) 664 := ⟨rfl, rfl⟩
set_option maxRecDepth 100000 in
theorem jf_228_664 : jG m_R_works 664 (.invokevirtual 331) [6, 0, 9, m_R_comes] (.null) 667 := ⟨rfl, rfl⟩
set_option maxRecDepth 100000 in
theorem jf_228_667 : jG m_R_works 667 (.dstore 4) [] (.null) 669 := ⟨rfl, rfl⟩
set_option maxRecDepth 100000 in
theorem jf_228_669 : jG m_R_works 669 (.aload_n 0) [] (.null) 670 := ⟨rfl, rfl⟩
set_option maxRecDepth 100000 in
theorem jf_228_670 : jG m_R_works 670 (.iload_n 1) [] (.null) 671 := ⟨rfl, rfl⟩
set_option maxRecDepth 100000 in
theorem jf_228_671 : jG m_R_works 671 (.invokevirtual 320) [6, 1, 9, m_R_begins] (.null) 674 := ⟨rfl, rfl⟩
set_option maxRecDepth 100000 in
theorem jf_228_674 : jG m_R_works 674 (.aload_n 0) [] (.null) 675 := ⟨rfl, rfl⟩
set_option maxRecDepth 100000 in
theorem jf_228_675 : jG m_R_works 675 (.aload_n 0) [] (.null) 676 := ⟨rfl, rfl⟩
set_option maxRecDepth 100000 in
theorem jf_228_676 : jG m_R_works 676 (.iload_n 1) [] (.null) 677 := ⟨rfl, rfl⟩
set_option maxRecDepth 100000 in
theorem jf_228_677 : jG m_R_works 677 (.iconst 0) [] (.null) 678 := ⟨rfl, rfl⟩
set_option maxRecDepth 100000 in
theorem jf_228_678 : jG m_R_works 678 (.invokevirtual 323) [6, 2, 9, m_R_c] (.null) 681 := ⟨rfl, rfl⟩
set_option maxRecDepth 100000 in
theorem jf_228_681 : jG m_R_works 681 (.dload 4) [] (.null) 683 := ⟨rfl, rfl⟩
set_option maxRecDepth 100000 in
theorem jf_228_683 : jG m_R_works 683 (.iconst 0) [] (.null) 684 := ⟨rfl, rfl⟩
set_option maxRecDepth 100000 in
theorem jf_228_684 : jG m_R_works 684 (.invokevirtual 327) [6, 3, 9, m_R_term] (.null) 687 := ⟨rfl, rfl⟩
set_option maxRecDepth 100000 in
theorem jf_228_687 : jG m_R_works 687 (.aload_n 0) [] (.null) 688 := ⟨rfl, rfl⟩
set_option maxRecDepth 100000 in
theorem jf_228_688 : jG m_R_works 688 (.invokevirtual 331) [6, 0, 9, m_R_comes] (.null) 691 := ⟨rfl, rfl⟩
set_option maxRecDepth 100000 in
theorem jf_228_691 : jG m_R_works 691 (.dreturn) [] (.null) 692 := ⟨rfl, rfl⟩
set_option maxRecDepth 100000 in
theorem jf_228_692 : jG m_R_works 692 (.aload_n 0) [] (.null) 693 := ⟨rfl, rfl⟩
set_option maxRecDepth 100000 in
theorem jf_228_693 : jG m_R_works 693 (.iload_n 1) [] (.null) 694 := ⟨rfl, rfl⟩
set_option maxRecDepth 100000 in
theorem jf_228_694 : jG m_R_works 694 (.invokevirtual 320) [6, 1, 9, m_R_begins] (.null) 697 := ⟨rfl, rfl⟩
set_option maxRecDepth 100000 in
theorem jf_228_697 : jG m_R_works 697 (.aload_n 0) [] (.null) 698 := ⟨rfl, rfl⟩
set_option maxRecDepth 100000 in
theorem jf_228_698 : jG m_R_works 698 (.dload_n 2) [] (.null) 699 := ⟨rfl, rfl⟩
set_option maxRecDepth 100000 in
theorem jf_228_699 : jG m_R_works 699 (.iconst 0) [] (.null) 700 := ⟨rfl, rfl⟩
set_option maxRecDepth 100000 in
theorem jf_228_700 : jG m_R_works 700 (.invokevirtual 341) [6, 2, 9, m_R_term_2] (.null) 703 := ⟨rfl, rfl⟩
set_option maxRecDepth 100000 in
theorem jf_228_703 : jG m_R_works 703 (.aload_n 0) [] (.null) 704 := ⟨rfl, rfl⟩
set_option maxRecDepth 100000 in
theorem jf_228_704 : jG m_R_works 704 (.aload_n 0) [] (.null) 705 := ⟨rfl, rfl⟩
set_option maxRecDepth 100000 in
theorem jf_228_705 : jG m_R_works 705 (.iload_n 1) [] (.null) 706 := ⟨rfl, rfl⟩
set_option maxRecDepth 100000 in
theorem jf_228_706 : jG m_R_works 706 (.iconst 0) [] (.null) 707 := ⟨rfl, rfl⟩
set_option maxRecDepth 100000 in
theorem jf_228_707 : jG m_R_works 707 (.invokevirtual 323) [6, 2, 9, m_R_c] (.null) 710 := ⟨rfl, rfl⟩
set_option maxRecDepth 100000 in
theorem jf_228_710 : jG m_R_works 710 (.aload_n 0) [] (.null) 711 := ⟨rfl, rfl⟩
set_option maxRecDepth 100000 in
theorem jf_228_711 : jG m_R_works 711 (.iload_n 1) [] (.null) 712 := ⟨rfl, rfl⟩
set_option maxRecDepth 100000 in
theorem jf_228_712 : jG m_R_works 712 (.aload_n 0) [] (.null) 713 := ⟨rfl, rfl⟩
set_option maxRecDepth 100000 in
theorem jf_228_713 : jG m_R_works 713 (.getfield 51) [9, 14] (.null) 716 := ⟨rfl, rfl⟩
set_option maxRecDepth 100000 in
theorem jf_228_716 : jG m_R_works 716 (.iload_n 1) [] (.null) 717 := ⟨rfl, rfl⟩
set_option maxRecDepth 100000 in
theorem jf_228_717 : jG m_R_works 717 (.iaload) [] (.null) 718 := ⟨rfl, rfl⟩
set_option maxRecDepth 100000 in
theorem jf_228_718 : jG m_R_works 718 (.invokevirtual 335) [6, 2, 9, m_R_st] (.null) 721 := ⟨rfl, rfl⟩
set_option maxRecDepth 100000 in
theorem jf_228_721 : jG m_R_works 721 (.iconst 0) [] (.null) 722 := ⟨rfl, rfl⟩
set_option maxRecDepth 100000 in
theorem jf_228_722 : jG m_R_works 722 (.invokevirtual 327) [6, 3, 9, m_R_term] (.null) 725 := ⟨rfl, rfl⟩
set_option maxRecDepth 100000 in
theorem jf_228_725 : jG m_R_works 725 (.aload_n 0) [] (.null) 726 := ⟨rfl, rfl⟩
set_option maxRecDepth 100000 in
theorem jf_228_726 : jG m_R_works 726 (.invokevirtual 331) [6, 0, 9, m_R_comes] (.null) 729 := ⟨rfl, rfl⟩
set_option maxRecDepth 100000 in
theorem jf_228_729 : jG m_R_works 729 (.dstore 4) [] (.null) 731 := ⟨rfl, rfl⟩
set_option maxRecDepth 100000 in
theorem jf_228_731 : jG m_R_works 731 (.aload_n 0) [] (.null) 732 := ⟨rfl, rfl⟩
set_option maxRecDepth 100000 in
theorem jf_228_732 : jG m_R_works 732 (.iload_n 1) [] (.null) 733 := ⟨rfl, rfl⟩
set_option maxRecDepth 100000 in
theorem jf_228_733 : jG m_R_works 733 (.dload 4) [] (.null) 735 := ⟨rfl, rfl⟩
set_option maxRecDepth 100000 in
theorem jf_228_735 : jG m_R_works 735 (.invokevirtual 343) [6, 2, 9, m_R_rings] (.null) 738 := ⟨rfl, rfl⟩
set_option maxRecDepth 100000 in
theorem jf_228_738 : jG m_R_works 738 (.pop2) [] (.null) 739 := ⟨rfl, rfl⟩
set_option maxRecDepth 100000 in
theorem jf_228_739 : jG m_R_works 739 (.dload 4) [] (.null) 741 := ⟨rfl, rfl⟩
set_option maxRecDepth 100000 in
theorem jf_228_741 : jG m_R_works 741 (.dreturn) [] (.null) 742 := ⟨rfl, rfl⟩
set_option maxRecDepth 100000 in
theorem jf_228_742 : jG m_R_works 742 (.aload_n 0) [] (.null) 743 := ⟨rfl, rfl⟩
set_option maxRecDepth 100000 in
theorem jf_228_743 : jG m_R_works 743 (.iload_n 1) [] (.null) 744 := ⟨rfl, rfl⟩
set_option maxRecDepth 100000 in
theorem jf_228_744 : jG m_R_works 744 (.dload_n 2) [] (.null) 745 := ⟨rfl, rfl⟩
set_option maxRecDepth 100000 in
theorem jf_228_745 : jG m_R_works 745 (.invokevirtual 347) [6, 2, 9, m_R_shapes] (.null) 748 := ⟨rfl, rfl⟩
set_option maxRecDepth 100000 in
theorem jf_228_748 : jG m_R_works 748 (.dreturn) [] (.null) 749 := ⟨rfl, rfl⟩
theorem jf_229_0 : jG m_R_rings 0 (.aload_n 0) [] (.null) 1 := ⟨rfl, rfl⟩
theorem jf_229_1 : jG m_R_rings 1 (.getfield 20) [9, 4] (.null) 4 := ⟨rfl, rfl⟩
theorem jf_229_4 : jG m_R_rings 4 (.iload_n 1) [] (.null) 5 := ⟨rfl, rfl⟩
theorem jf_229_5 : jG m_R_rings 5 (.iaload) [] (.null) 6 := ⟨rfl, rfl⟩
theorem jf_229_6 : jG m_R_rings 6 (.istore 4) [] (.null) 8 := ⟨rfl, rfl⟩
theorem jf_229_8 : jG m_R_rings 8 (.bipush 64) [] (.null) 10 := ⟨rfl, rfl⟩
theorem jf_229_10 : jG m_R_rings 10 (.iload_n 1) [] (.null) 11 := ⟨rfl, rfl⟩
theorem jf_229_11 : jG m_R_rings 11 (.imul) [] (.null) 12 := ⟨rfl, rfl⟩
theorem jf_229_12 : jG m_R_rings 12 (.aload_n 0) [] (.null) 13 := ⟨rfl, rfl⟩
theorem jf_229_13 : jG m_R_rings 13 (.getfield 51) [9, 14] (.null) 16 := ⟨rfl, rfl⟩
theorem jf_229_16 : jG m_R_rings 16 (.iload_n 1) [] (.null) 17 := ⟨rfl, rfl⟩
theorem jf_229_17 : jG m_R_rings 17 (.iaload) [] (.null) 18 := ⟨rfl, rfl⟩
theorem jf_229_18 : jG m_R_rings 18 (.iadd) [] (.null) 19 := ⟨rfl, rfl⟩
theorem jf_229_19 : jG m_R_rings 19 (.istore 5) [] (.null) 21 := ⟨rfl, rfl⟩
theorem jf_229_21 : jG m_R_rings 21 (.aload_n 0) [] (.null) 22 := ⟨rfl, rfl⟩
theorem jf_229_22 : jG m_R_rings 22 (.getfield 48) [9, 13] (.null) 25 := ⟨rfl, rfl⟩
theorem jf_229_25 : jG m_R_rings 25 (.iload 5) [] (.null) 27 := ⟨rfl, rfl⟩
theorem jf_229_27 : jG m_R_rings 27 (.daload) [] (.null) 28 := ⟨rfl, rfl⟩
theorem jf_229_28 : jG m_R_rings 28 (.dstore 6) [] (.null) 30 := ⟨rfl, rfl⟩
theorem jf_229_30 : jG m_R_rings 30 (.aload_n 0) [] (.null) 31 := ⟨rfl, rfl⟩
theorem jf_229_31 : jG m_R_rings 31 (.getfield 48) [9, 13] (.null) 34 := ⟨rfl, rfl⟩
theorem jf_229_34 : jG m_R_rings 34 (.iload 5) [] (.null) 36 := ⟨rfl, rfl⟩
theorem jf_229_36 : jG m_R_rings 36 (.dload_n 2) [] (.null) 37 := ⟨rfl, rfl⟩
theorem jf_229_37 : jG m_R_rings 37 (.dastore) [] (.null) 38 := ⟨rfl, rfl⟩
theorem jf_229_38 : jG m_R_rings 38 (.aload_n 0) [] (.null) 39 := ⟨rfl, rfl⟩
theorem jf_229_39 : jG m_R_rings 39 (.getfield 51) [9, 14] (.null) 42 := ⟨rfl, rfl⟩
theorem jf_229_42 : jG m_R_rings 42 (.iload_n 1) [] (.null) 43 := ⟨rfl, rfl⟩
theorem jf_229_43 : jG m_R_rings 43 (.aload_n 0) [] (.null) 44 := ⟨rfl, rfl⟩
theorem jf_229_44 : jG m_R_rings 44 (.getfield 51) [9, 14] (.null) 47 := ⟨rfl, rfl⟩
theorem jf_229_47 : jG m_R_rings 47 (.iload_n 1) [] (.null) 48 := ⟨rfl, rfl⟩
theorem jf_229_48 : jG m_R_rings 48 (.iaload) [] (.null) 49 := ⟨rfl, rfl⟩
theorem jf_229_49 : jG m_R_rings 49 (.iconst 1) [] (.null) 50 := ⟨rfl, rfl⟩
theorem jf_229_50 : jG m_R_rings 50 (.iadd) [] (.null) 51 := ⟨rfl, rfl⟩
theorem jf_229_51 : jG m_R_rings 51 (.iload 4) [] (.null) 53 := ⟨rfl, rfl⟩
theorem jf_229_53 : jG m_R_rings 53 (.irem) [] (.null) 54 := ⟨rfl, rfl⟩
theorem jf_229_54 : jG m_R_rings 54 (.iastore) [] (.null) 55 := ⟨rfl, rfl⟩
theorem jf_229_55 : jG m_R_rings 55 (.dload 6) [] (.null) 57 := ⟨rfl, rfl⟩
theorem jf_229_57 : jG m_R_rings 57 (.dreturn) [] (.null) 58 := ⟨rfl, rfl⟩
set_option maxRecDepth 100000 in
theorem jf_230_0 : jG m_R_shapes 0 (.aload_n 0) [] (.null) 1 := ⟨rfl, rfl⟩
set_option maxRecDepth 100000 in
theorem jf_230_1 : jG m_R_shapes 1 (.iload_n 1) [] (.null) 2 := ⟨rfl, rfl⟩
set_option maxRecDepth 100000 in
theorem jf_230_2 : jG m_R_shapes 2 (.iconst 0) [] (.null) 3 := ⟨rfl, rfl⟩
set_option maxRecDepth 100000 in
theorem jf_230_3 : jG m_R_shapes 3 (.invokevirtual 323) [6, 2, 9, m_R_c] (.null) 6 := ⟨rfl, rfl⟩
set_option maxRecDepth 100000 in
theorem jf_230_6 : jG m_R_shapes 6 (.dstore 4) [] (.null) 8 := ⟨rfl, rfl⟩
set_option maxRecDepth 100000 in
theorem jf_230_8 : jG m_R_shapes 8 (.aload_n 0) [] (.null) 9 := ⟨rfl, rfl⟩
set_option maxRecDepth 100000 in
theorem jf_230_9 : jG m_R_shapes 9 (.getfield 13) [9, 2] (.null) 12 := ⟨rfl, rfl⟩
set_option maxRecDepth 100000 in
theorem jf_230_12 : jG m_R_shapes 12 (.iload_n 1) [] (.null) 13 := ⟨rfl, rfl⟩
set_option maxRecDepth 100000 in
theorem jf_230_13 : jG m_R_shapes 13 (.iaload) [] (.null) 14 := ⟨rfl, rfl⟩
set_option maxRecDepth 100000 in
theorem jf_230_14 : jG m_R_shapes 14 (.tableswitch 199 9 11 #[26, 108, 139]) [213, 40, 122, 153] (.null) 15 := ⟨rfl, rfl⟩
set_option maxRecDepth 100000 in
theorem jf_230_40 : jG m_R_shapes 40 (.aload_n 0) [] (.null) 41 := ⟨rfl, rfl⟩
set_option maxRecDepth 100000 in
theorem jf_230_41 : jG m_R_shapes 41 (.getfield 17) [9, 3] (.null) 44 := ⟨rfl, rfl⟩
set_option maxRecDepth 100000 in
theorem jf_230_44 : jG m_R_shapes 44 (.iload_n 1) [] (.null) 45 := ⟨rfl, rfl⟩
set_option maxRecDepth 100000 in
theorem jf_230_45 : jG m_R_shapes 45 (.iaload) [] (.null) 46 := ⟨rfl, rfl⟩
set_option maxRecDepth 100000 in
theorem jf_230_46 : jG m_R_shapes 46 (.iconst 2) [] (.null) 47 := ⟨rfl, rfl⟩
set_option maxRecDepth 100000 in
theorem jf_230_47 : jG m_R_shapes 47 (.if_icmp .ne 14) [61] (.null) 50 := ⟨rfl, rfl⟩
set_option maxRecDepth 100000 in
theorem jf_230_50 : jG m_R_shapes 50 (.dload 4) [] (.null) 52 := ⟨rfl, rfl⟩
set_option maxRecDepth 100000 in
theorem jf_230_52 : jG m_R_shapes 52 (.d2l) [] (.null) 53 := ⟨rfl, rfl⟩
set_option maxRecDepth 100000 in
theorem jf_230_53 : jG m_R_shapes 53 (.lneg) [] (.null) 54 := ⟨rfl, rfl⟩
set_option maxRecDepth 100000 in
theorem jf_230_54 : jG m_R_shapes 54 (.iconst 0) [] (.null) 55 := ⟨rfl, rfl⟩
set_option maxRecDepth 100000 in
theorem jf_230_55 : jG m_R_shapes 55 (.invokestatic 312) [3, m_R_cut, 2] (.null) 58 := ⟨rfl, rfl⟩
set_option maxRecDepth 100000 in
theorem jf_230_58 : jG m_R_shapes 58 (.goto 20) [78] (.null) 61 := ⟨rfl, rfl⟩
set_option maxRecDepth 100000 in
theorem jf_230_61 : jG m_R_shapes 61 (.dload 4) [] (.null) 63 := ⟨rfl, rfl⟩
set_option maxRecDepth 100000 in
theorem jf_230_63 : jG m_R_shapes 63 (.dload 4) [] (.null) 65 := ⟨rfl, rfl⟩
set_option maxRecDepth 100000 in
theorem jf_230_65 : jG m_R_shapes 65 (.dcmp .l) [] (.null) 66 := ⟨rfl, rfl⟩
set_option maxRecDepth 100000 in
theorem jf_230_66 : jG m_R_shapes 66 (.ifCond .eq 9) [75] (.null) 69 := ⟨rfl, rfl⟩
set_option maxRecDepth 100000 in
theorem jf_230_69 : jG m_R_shapes 69 (.ldc2_w 191) [] (.double (9221120237041090560)) 72 := ⟨rfl, rfl⟩
set_option maxRecDepth 100000 in
theorem jf_230_72 : jG m_R_shapes 72 (.goto 6) [78] (.null) 75 := ⟨rfl, rfl⟩
set_option maxRecDepth 100000 in
theorem jf_230_75 : jG m_R_shapes 75 (.dload 4) [] (.null) 77 := ⟨rfl, rfl⟩
set_option maxRecDepth 100000 in
theorem jf_230_77 : jG m_R_shapes 77 (.dneg) [] (.null) 78 := ⟨rfl, rfl⟩
set_option maxRecDepth 100000 in
theorem jf_230_78 : jG m_R_shapes 78 (.dstore 6) [] (.null) 80 := ⟨rfl, rfl⟩
set_option maxRecDepth 100000 in
theorem jf_230_80 : jG m_R_shapes 80 (.dload_n 2) [] (.null) 81 := ⟨rfl, rfl⟩
set_option maxRecDepth 100000 in
theorem jf_230_81 : jG m_R_shapes 81 (.dload 4) [] (.null) 83 := ⟨rfl, rfl⟩
set_option maxRecDepth 100000 in
theorem jf_230_83 : jG m_R_shapes 83 (.dcmp .l) [] (.null) 84 := ⟨rfl, rfl⟩
set_option maxRecDepth 100000 in
theorem jf_230_84 : jG m_R_shapes 84 (.ifCond .le 16) [100] (.null) 87 := ⟨rfl, rfl⟩
set_option maxRecDepth 100000 in
theorem jf_230_87 : jG m_R_shapes 87 (.aload_n 0) [] (.null) 88 := ⟨rfl, rfl⟩
set_option maxRecDepth 100000 in
theorem jf_230_88 : jG m_R_shapes 88 (.getfield 45) [9, 12] (.null) 91 := ⟨rfl, rfl⟩
set_option maxRecDepth 100000 in
theorem jf_230_91 : jG m_R_shapes 91 (.iload_n 1) [] (.null) 92 := ⟨rfl, rfl⟩
set_option maxRecDepth 100000 in
theorem jf_230_92 : jG m_R_shapes 92 (.dup2) [] (.null) 93 := ⟨rfl, rfl⟩
set_option maxRecDepth 100000 in
theorem jf_230_93 : jG m_R_shapes 93 (.iaload) [] (.null) 94 := ⟨rfl, rfl⟩
set_option maxRecDepth 100000 in
theorem jf_230_94 : jG m_R_shapes 94 (.iconst 1) [] (.null) 95 := ⟨rfl, rfl⟩
set_option maxRecDepth 100000 in
theorem jf_230_95 : jG m_R_shapes 95 (.iadd) [] (.null) 96 := ⟨rfl, rfl⟩
set_option maxRecDepth 100000 in
theorem jf_230_96 : jG m_R_shapes 96 (.iastore) [] (.null) 97 := ⟨rfl, rfl⟩
set_option maxRecDepth 100000 in
theorem jf_230_97 : jG m_R_shapes 97 (.dload 4) [] (.null) 99 := ⟨rfl, rfl⟩
set_option maxRecDepth 100000 in
theorem jf_230_99 : jG m_R_shapes 99 (.dreturn) [] (.null) 100 := ⟨rfl, rfl⟩
set_option maxRecDepth 100000 in
theorem jf_230_100 : jG m_R_shapes 100 (.dload_n 2) [] (.null) 101 := ⟨rfl, rfl⟩
set_option maxRecDepth 100000 in
theorem jf_230_101 : jG m_R_shapes 101 (.dload 6) [] (.null) 103 := ⟨rfl, rfl⟩
set_option maxRecDepth 100000 in
theorem jf_230_103 : jG m_R_shapes 103 (.dcmp .g) [] (.null) 104 := ⟨rfl, rfl⟩
set_option maxRecDepth 100000 in
theorem jf_230_104 : jG m_R_shapes 104 (.ifCond .ge 16) [120] (.null) 107 := ⟨rfl, rfl⟩
set_option maxRecDepth 100000 in
theorem jf_230_107 : jG m_R_shapes 107 (.aload_n 0) [] (.null) 108 := ⟨rfl, rfl⟩
set_option maxRecDepth 100000 in
theorem jf_230_108 : jG m_R_shapes 108 (.getfield 45) [9, 12] (.null) 111 := ⟨rfl, rfl⟩
set_option maxRecDepth 100000 in
theorem jf_230_111 : jG m_R_shapes 111 (.iload_n 1) [] (.null) 112 := ⟨rfl, rfl⟩
set_option maxRecDepth 100000 in
theorem jf_230_112 : jG m_R_shapes 112 (.dup2) [] (.null) 113 := ⟨rfl, rfl⟩
set_option maxRecDepth 100000 in
theorem jf_230_113 : jG m_R_shapes 113 (.iaload) [] (.null) 114 := ⟨rfl, rfl⟩
set_option maxRecDepth 100000 in
theorem jf_230_114 : jG m_R_shapes 114 (.iconst 1) [] (.null) 115 := ⟨rfl, rfl⟩
set_option maxRecDepth 100000 in
theorem jf_230_115 : jG m_R_shapes 115 (.iadd) [] (.null) 116 := ⟨rfl, rfl⟩
set_option maxRecDepth 100000 in
theorem jf_230_116 : jG m_R_shapes 116 (.iastore) [] (.null) 117 := ⟨rfl, rfl⟩
set_option maxRecDepth 100000 in
theorem jf_230_117 : jG m_R_shapes 117 (.dload 6) [] (.null) 119 := ⟨rfl, rfl⟩
set_option maxRecDepth 100000 in
theorem jf_230_119 : jG m_R_shapes 119 (.dreturn) [] (.null) 120 := ⟨rfl, rfl⟩
set_option maxRecDepth 100000 in
theorem jf_230_120 : jG m_R_shapes 120 (.dload_n 2) [] (.null) 121 := ⟨rfl, rfl⟩
set_option maxRecDepth 100000 in
theorem jf_230_121 : jG m_R_shapes 121 (.dreturn) [] (.null) 122 := ⟨rfl, rfl⟩
set_option maxRecDepth 100000 in
theorem jf_230_122 : jG m_R_shapes 122 (.aload_n 0) [] (.null) 123 := ⟨rfl, rfl⟩
set_option maxRecDepth 100000 in
theorem jf_230_123 : jG m_R_shapes 123 (.aload_n 0) [] (.null) 124 := ⟨rfl, rfl⟩
set_option maxRecDepth 100000 in
theorem jf_230_124 : jG m_R_shapes 124 (.getfield 17) [9, 3] (.null) 127 := ⟨rfl, rfl⟩
set_option maxRecDepth 100000 in
theorem jf_230_127 : jG m_R_shapes 127 (.iload_n 1) [] (.null) 128 := ⟨rfl, rfl⟩
set_option maxRecDepth 100000 in
theorem jf_230_128 : jG m_R_shapes 128 (.iaload) [] (.null) 129 := ⟨rfl, rfl⟩
set_option maxRecDepth 100000 in
theorem jf_230_129 : jG m_R_shapes 129 (.dload_n 2) [] (.null) 130 := ⟨rfl, rfl⟩
set_option maxRecDepth 100000 in
theorem jf_230_130 : jG m_R_shapes 130 (.invokevirtual 350) [6, 2, 9, m_R_sizeOf] (.null) 133 := ⟨rfl, rfl⟩
set_option maxRecDepth 100000 in
theorem jf_230_133 : jG m_R_shapes 133 (.dload 4) [] (.null) 135 := ⟨rfl, rfl⟩
set_option maxRecDepth 100000 in
theorem jf_230_135 : jG m_R_shapes 135 (.dcmp .g) [] (.null) 136 := ⟨rfl, rfl⟩
set_option maxRecDepth 100000 in
theorem jf_230_136 : jG m_R_shapes 136 (.ifCond .le 5) [141] (.null) 139 := ⟨rfl, rfl⟩
set_option maxRecDepth 100000 in
theorem jf_230_139 : jG m_R_shapes 139 (.dload_n 2) [] (.null) 140 := ⟨rfl, rfl⟩
set_option maxRecDepth 100000 in
theorem jf_230_140 : jG m_R_shapes 140 (.dreturn) [] (.null) 141 := ⟨rfl, rfl⟩
set_option maxRecDepth 100000 in
theorem jf_230_141 : jG m_R_shapes 141 (.aload_n 0) [] (.null) 142 := ⟨rfl, rfl⟩
set_option maxRecDepth 100000 in
theorem jf_230_142 : jG m_R_shapes 142 (.getfield 45) [9, 12] (.null) 145 := ⟨rfl, rfl⟩
set_option maxRecDepth 100000 in
theorem jf_230_145 : jG m_R_shapes 145 (.iload_n 1) [] (.null) 146 := ⟨rfl, rfl⟩
set_option maxRecDepth 100000 in
theorem jf_230_146 : jG m_R_shapes 146 (.dup2) [] (.null) 147 := ⟨rfl, rfl⟩
set_option maxRecDepth 100000 in
theorem jf_230_147 : jG m_R_shapes 147 (.iaload) [] (.null) 148 := ⟨rfl, rfl⟩
set_option maxRecDepth 100000 in
theorem jf_230_148 : jG m_R_shapes 148 (.iconst 1) [] (.null) 149 := ⟨rfl, rfl⟩
set_option maxRecDepth 100000 in
theorem jf_230_149 : jG m_R_shapes 149 (.iadd) [] (.null) 150 := ⟨rfl, rfl⟩
set_option maxRecDepth 100000 in
theorem jf_230_150 : jG m_R_shapes 150 (.iastore) [] (.null) 151 := ⟨rfl, rfl⟩
set_option maxRecDepth 100000 in
theorem jf_230_151 : jG m_R_shapes 151 (.dconst 0) [] (.null) 152 := ⟨rfl, rfl⟩
set_option maxRecDepth 100000 in
theorem jf_230_152 : jG m_R_shapes 152 (.dreturn) [] (.null) 153 := ⟨rfl, rfl⟩
set_option maxRecDepth 100000 in
theorem jf_230_153 : jG m_R_shapes 153 (.aload_n 0) [] (.null) 154 := ⟨rfl, rfl⟩
set_option maxRecDepth 100000 in
theorem jf_230_154 : jG m_R_shapes 154 (.aload_n 0) [] (.null) 155 := ⟨rfl, rfl⟩
set_option maxRecDepth 100000 in
theorem jf_230_155 : jG m_R_shapes 155 (.getfield 17) [9, 3] (.null) 158 := ⟨rfl, rfl⟩
set_option maxRecDepth 100000 in
theorem jf_230_158 : jG m_R_shapes 158 (.iload_n 1) [] (.null) 159 := ⟨rfl, rfl⟩
set_option maxRecDepth 100000 in
theorem jf_230_159 : jG m_R_shapes 159 (.iaload) [] (.null) 160 := ⟨rfl, rfl⟩
set_option maxRecDepth 100000 in
theorem jf_230_160 : jG m_R_shapes 160 (.dload_n 2) [] (.null) 161 := ⟨rfl, rfl⟩
set_option maxRecDepth 100000 in
theorem jf_230_161 : jG m_R_shapes 161 (.invokevirtual 350) [6, 2, 9, m_R_sizeOf] (.null) 164 := ⟨rfl, rfl⟩
set_option maxRecDepth 100000 in
theorem jf_230_164 : jG m_R_shapes 164 (.dstore 6) [] (.null) 166 := ⟨rfl, rfl⟩
set_option maxRecDepth 100000 in
theorem jf_230_166 : jG m_R_shapes 166 (.dload 6) [] (.null) 168 := ⟨rfl, rfl⟩
set_option maxRecDepth 100000 in
theorem jf_230_168 : jG m_R_shapes 168 (.aload_n 0) [] (.null) 169 := ⟨rfl, rfl⟩
set_option maxRecDepth 100000 in
theorem jf_230_169 : jG m_R_shapes 169 (.iload_n 1) [] (.null) 170 := ⟨rfl, rfl⟩
set_option maxRecDepth 100000 in
theorem jf_230_170 : jG m_R_shapes 170 (.iconst 0) [] (.null) 171 := ⟨rfl, rfl⟩
set_option maxRecDepth 100000 in
theorem jf_230_171 : jG m_R_shapes 171 (.invokevirtual 335) [6, 2, 9, m_R_st] (.null) 174 := ⟨rfl, rfl⟩
set_option maxRecDepth 100000 in
theorem jf_230_174 : jG m_R_shapes 174 (.dcmp .l) [] (.null) 175 := ⟨rfl, rfl⟩
set_option maxRecDepth 100000 in
theorem jf_230_175 : jG m_R_shapes 175 (.ifCond .gt 27) [202] (.null) 178 := ⟨rfl, rfl⟩
set_option maxRecDepth 100000 in
theorem jf_230_178 : jG m_R_shapes 178 (.aload_n 0) [] (.null) 179 := ⟨rfl, rfl⟩
set_option maxRecDepth 100000 in
theorem jf_230_179 : jG m_R_shapes 179 (.iload_n 1) [] (.null) 180 := ⟨rfl, rfl⟩
set_option maxRecDepth 100000 in
theorem jf_230_180 : jG m_R_shapes 180 (.invokevirtual 320) [6, 1, 9, m_R_begins] (.null) 183 := ⟨rfl, rfl⟩
set_option maxRecDepth 100000 in
theorem jf_230_183 : jG m_R_shapes 183 (.aload_n 0) [] (.null) 184 := ⟨rfl, rfl⟩
set_option maxRecDepth 100000 in
theorem jf_230_184 : jG m_R_shapes 184 (.dload 4) [] (.null) 186 := ⟨rfl, rfl⟩
set_option maxRecDepth 100000 in
theorem jf_230_186 : jG m_R_shapes 186 (.aload_n 0) [] (.null) 187 := ⟨rfl, rfl⟩
set_option maxRecDepth 100000 in
theorem jf_230_187 : jG m_R_shapes 187 (.iload_n 1) [] (.null) 188 := ⟨rfl, rfl⟩
set_option maxRecDepth 100000 in
theorem jf_230_188 : jG m_R_shapes 188 (.iconst 0) [] (.null) 189 := ⟨rfl, rfl⟩
set_option maxRecDepth 100000 in
theorem jf_230_189 : jG m_R_shapes 189 (.invokevirtual 335) [6, 2, 9, m_R_st] (.null) 192 := ⟨rfl, rfl⟩
set_option maxRecDepth 100000 in
theorem jf_230_192 : jG m_R_shapes 192 (.iconst 0) [] (.null) 193 := ⟨rfl, rfl⟩
set_option maxRecDepth 100000 in
theorem jf_230_193 : jG m_R_shapes 193 (.invokevirtual 327) [6, 3, 9, m_R_term] (.null) 196 := ⟨rfl, rfl⟩
set_option maxRecDepth 100000 in
theorem jf_230_196 : jG m_R_shapes 196 (.aload_n 0) [] (.null) 197 := ⟨rfl, rfl⟩
set_option maxRecDepth 100000 in
theorem jf_230_197 : jG m_R_shapes 197 (.invokevirtual 331) [6, 0, 9, m_R_comes] (.null) 200 := ⟨rfl, rfl⟩
set_option maxRecDepth 100000 in
theorem jf_230_200 : jG m_R_shapes 200 (.dstore 6) [] (.null) 202 := ⟨rfl, rfl⟩
set_option maxRecDepth 100000 in
theorem jf_230_202 : jG m_R_shapes 202 (.aload_n 0) [] (.null) 203 := ⟨rfl, rfl⟩
set_option maxRecDepth 100000 in
theorem jf_230_203 : jG m_R_shapes 203 (.iload_n 1) [] (.null) 204 := ⟨rfl, rfl⟩
set_option maxRecDepth 100000 in
theorem jf_230_204 : jG m_R_shapes 204 (.iconst 0) [] (.null) 205 := ⟨rfl, rfl⟩
set_option maxRecDepth 100000 in
theorem jf_230_205 : jG m_R_shapes 205 (.dload 6) [] (.null) 207 := ⟨rfl, rfl⟩
set_option maxRecDepth 100000 in
theorem jf_230_207 : jG m_R_shapes 207 (.invokevirtual 338) [6, 3, 9, m_R_st_2] (.null) 210 := ⟨rfl, rfl⟩
set_option maxRecDepth 100000 in
theorem jf_230_210 : jG m_R_shapes 210 (.dload 6) [] (.null) 212 := ⟨rfl, rfl⟩
set_option maxRecDepth 100000 in
theorem jf_230_212 : jG m_R_shapes 212 (.dreturn) [] (.null) 213 := ⟨rfl, rfl⟩
set_option maxRecDepth 100000 in
theorem jf_230_213 : jG m_R_shapes 213 (.aload_n 0) [] (.null) 214 := ⟨rfl, rfl⟩
set_option maxRecDepth 100000 in
theorem jf_230_214 : jG m_R_shapes 214 (.iload_n 1) [] (.null) 215 := ⟨rfl, rfl⟩
set_option maxRecDepth 100000 in
theorem jf_230_215 : jG m_R_shapes 215 (.invokevirtual 320) [6, 1, 9, m_R_begins] (.null) 218 := ⟨rfl, rfl⟩
set_option maxRecDepth 100000 in
theorem jf_230_218 : jG m_R_shapes 218 (.aload_n 0) [] (.null) 219 := ⟨rfl, rfl⟩
set_option maxRecDepth 100000 in
theorem jf_230_219 : jG m_R_shapes 219 (.dload 4) [] (.null) 221 := ⟨rfl, rfl⟩
set_option maxRecDepth 100000 in
theorem jf_230_221 : jG m_R_shapes 221 (.dload_n 2) [] (.null) 222 := ⟨rfl, rfl⟩
set_option maxRecDepth 100000 in
theorem jf_230_222 : jG m_R_shapes 222 (.iconst 0) [] (.null) 223 := ⟨rfl, rfl⟩
set_option maxRecDepth 100000 in
theorem jf_230_223 : jG m_R_shapes 223 (.invokevirtual 327) [6, 3, 9, m_R_term] (.null) 226 := ⟨rfl, rfl⟩
set_option maxRecDepth 100000 in
theorem jf_230_226 : jG m_R_shapes 226 (.aload_n 0) [] (.null) 227 := ⟨rfl, rfl⟩
set_option maxRecDepth 100000 in
theorem jf_230_227 : jG m_R_shapes 227 (.aload_n 0) [] (.null) 228 := ⟨rfl, rfl⟩
set_option maxRecDepth 100000 in
theorem jf_230_228 : jG m_R_shapes 228 (.iload_n 1) [] (.null) 229 := ⟨rfl, rfl⟩
set_option maxRecDepth 100000 in
theorem jf_230_229 : jG m_R_shapes 229 (.iconst 1) [] (.null) 230 := ⟨rfl, rfl⟩
set_option maxRecDepth 100000 in
theorem jf_230_230 : jG m_R_shapes 230 (.invokevirtual 323) [6, 2, 9, m_R_c] (.null) 233 := ⟨rfl, rfl⟩
set_option maxRecDepth 100000 in
theorem jf_230_233 : jG m_R_shapes 233 (.dconst 0) [] (.null) 234 := ⟨rfl, rfl⟩
set_option maxRecDepth 100000 in
theorem jf_230_234 : jG m_R_shapes 234 (.iconst 0) [] (.null) 235 := ⟨rfl, rfl⟩
set_option maxRecDepth 100000 in
theorem jf_230_235 : jG m_R_shapes 235 (.invokevirtual 327) [6, 3, 9, m_R_term] (.null) 238 := ⟨rfl, rfl⟩
set_option maxRecDepth 100000 in
theorem jf_230_238 : jG m_R_shapes 238 (.aload_n 0) [] (.null) 239 := ⟨rfl, rfl⟩
set_option maxRecDepth 100000 in
theorem jf_230_239 : jG m_R_shapes 239 (.invokevirtual 331) [6, 0, 9, m_R_comes] (.null) 242 := ⟨rfl, rfl⟩
set_option maxRecDepth 100000 in
theorem jf_230_242 : jG m_R_shapes 242 (.dreturn) [] (.null) 243 := ⟨rfl, rfl⟩
theorem jf_231_0 : jG m_R_sizeOf 0 (.iload_n 1) [] (.null) 1 := ⟨rfl, rfl⟩
theorem jf_231_1 : jG m_R_sizeOf 1 (.iconst 2) [] (.null) 2 := ⟨rfl, rfl⟩
theorem jf_231_2 : jG m_R_sizeOf 2 (.if_icmp .ne 22) [24] (.null) 5 := ⟨rfl, rfl⟩
theorem jf_231_5 : jG m_R_sizeOf 5 (.dload_n 2) [] (.null) 6 := ⟨rfl, rfl⟩
theorem jf_231_6 : jG m_R_sizeOf 6 (.dconst 0) [] (.null) 7 := ⟨rfl, rfl⟩
theorem jf_231_7 : jG m_R_sizeOf 7 (.dcmp .g) [] (.null) 8 := ⟨rfl, rfl⟩
theorem jf_231_8 : jG m_R_sizeOf 8 (.ifCond .ge 9) [17] (.null) 11 := ⟨rfl, rfl⟩
theorem jf_231_11 : jG m_R_sizeOf 11 (.dload_n 2) [] (.null) 12 := ⟨rfl, rfl⟩
theorem jf_231_12 : jG m_R_sizeOf 12 (.d2l) [] (.null) 13 := ⟨rfl, rfl⟩
theorem jf_231_13 : jG m_R_sizeOf 13 (.lneg) [] (.null) 14 := ⟨rfl, rfl⟩
theorem jf_231_14 : jG m_R_sizeOf 14 (.goto 5) [19] (.null) 17 := ⟨rfl, rfl⟩
theorem jf_231_17 : jG m_R_sizeOf 17 (.dload_n 2) [] (.null) 18 := ⟨rfl, rfl⟩
theorem jf_231_18 : jG m_R_sizeOf 18 (.d2l) [] (.null) 19 := ⟨rfl, rfl⟩
theorem jf_231_19 : jG m_R_sizeOf 19 (.iconst 0) [] (.null) 20 := ⟨rfl, rfl⟩
theorem jf_231_20 : jG m_R_sizeOf 20 (.invokestatic 312) [3, m_R_cut, 2] (.null) 23 := ⟨rfl, rfl⟩
theorem jf_231_23 : jG m_R_sizeOf 23 (.dreturn) [] (.null) 24 := ⟨rfl, rfl⟩
theorem jf_231_24 : jG m_R_sizeOf 24 (.dload_n 2) [] (.null) 25 := ⟨rfl, rfl⟩
theorem jf_231_25 : jG m_R_sizeOf 25 (.dconst 0) [] (.null) 26 := ⟨rfl, rfl⟩
theorem jf_231_26 : jG m_R_sizeOf 26 (.dcmp .g) [] (.null) 27 := ⟨rfl, rfl⟩
theorem jf_231_27 : jG m_R_sizeOf 27 (.ifCond .gt 9) [36] (.null) 30 := ⟨rfl, rfl⟩
theorem jf_231_30 : jG m_R_sizeOf 30 (.dconst 0) [] (.null) 31 := ⟨rfl, rfl⟩
theorem jf_231_31 : jG m_R_sizeOf 31 (.dload_n 2) [] (.null) 32 := ⟨rfl, rfl⟩
theorem jf_231_32 : jG m_R_sizeOf 32 (.dsub) [] (.null) 33 := ⟨rfl, rfl⟩
theorem jf_231_33 : jG m_R_sizeOf 33 (.goto 4) [37] (.null) 36 := ⟨rfl, rfl⟩
theorem jf_231_36 : jG m_R_sizeOf 36 (.dload_n 2) [] (.null) 37 := ⟨rfl, rfl⟩
theorem jf_231_37 : jG m_R_sizeOf 37 (.dreturn) [] (.null) 38 := ⟨rfl, rfl⟩
theorem jf_232_0 : jG m_R_run 0 (.aload_n 0) [] (.null) 1 := ⟨rfl, rfl⟩
theorem jf_232_1 : jG m_R_run 1 (.iload_n 1) [] (.null) 2 := ⟨rfl, rfl⟩
theorem jf_232_2 : jG m_R_run 2 (.invokevirtual 383) [6, 1, 9, m_R_isFed] (.null) 5 := ⟨rfl, rfl⟩
theorem jf_232_5 : jG m_R_run 5 (.ifCond .eq 13) [18] (.null) 8 := ⟨rfl, rfl⟩
theorem jf_232_8 : jG m_R_run 8 (.iload_n 2) [] (.null) 9 := ⟨rfl, rfl⟩
theorem jf_232_9 : jG m_R_run 9 (.iconst 1) [] (.null) 10 := ⟨rfl, rfl⟩
theorem jf_232_10 : jG m_R_run 10 (.bipush 100) [] (.null) 12 := ⟨rfl, rfl⟩
theorem jf_232_12 : jG m_R_run 12 (.invokestatic 170) [3, m_R_in, 3] (.null) 15 := ⟨rfl, rfl⟩
theorem jf_232_15 : jG m_R_run 15 (.ifCond .ne 5) [20] (.null) 18 := ⟨rfl, rfl⟩
theorem jf_232_18 : jG m_R_run 18 (.iconst (-1)) [] (.null) 19 := ⟨rfl, rfl⟩
theorem jf_232_19 : jG m_R_run 19 (.ireturn) [] (.null) 20 := ⟨rfl, rfl⟩
theorem jf_232_20 : jG m_R_run 20 (.iconst 0) [] (.null) 21 := ⟨rfl, rfl⟩
theorem jf_232_21 : jG m_R_run 21 (.istore 4) [] (.null) 23 := ⟨rfl, rfl⟩
theorem jf_232_23 : jG m_R_run 23 (.iload_n 3) [] (.null) 24 := ⟨rfl, rfl⟩
theorem jf_232_24 : jG m_R_run 24 (.istore 5) [] (.null) 26 := ⟨rfl, rfl⟩
theorem jf_232_26 : jG m_R_run 26 (.iconst 0) [] (.null) 27 := ⟨rfl, rfl⟩
theorem jf_232_27 : jG m_R_run 27 (.istore 6) [] (.null) 29 := ⟨rfl, rfl⟩
theorem jf_232_29 : jG m_R_run 29 (.iload 6) [] (.null) 31 := ⟨rfl, rfl⟩
theorem jf_232_31 : jG m_R_run 31 (.iload_n 2) [] (.null) 32 := ⟨rfl, rfl⟩
theorem jf_232_32 : jG m_R_run 32 (.if_icmp .ge 57) [89] (.null) 35 := ⟨rfl, rfl⟩
theorem jf_232_35 : jG m_R_run 35 (.iload 5) [] (.null) 37 := ⟨rfl, rfl⟩
theorem jf_232_37 : jG m_R_run 37 (.i2s) [] (.null) 38 := ⟨rfl, rfl⟩
theorem jf_232_38 : jG m_R_run 38 (.i2d) [] (.null) 39 := ⟨rfl, rfl⟩
theorem jf_232_39 : jG m_R_run 39 (.dstore 7) [] (.null) 41 := ⟨rfl, rfl⟩
theorem jf_232_41 : jG m_R_run 41 (.iload 4) [] (.null) 43 := ⟨rfl, rfl⟩
theorem jf_232_43 : jG m_R_run 43 (.aload_n 0) [] (.null) 44 := ⟨rfl, rfl⟩
theorem jf_232_44 : jG m_R_run 44 (.iload_n 1) [] (.null) 45 := ⟨rfl, rfl⟩
theorem jf_232_45 : jG m_R_run 45 (.aload_n 0) [] (.null) 46 := ⟨rfl, rfl⟩
theorem jf_232_46 : jG m_R_run 46 (.iload_n 1) [] (.null) 47 := ⟨rfl, rfl⟩
theorem jf_232_47 : jG m_R_run 47 (.invokevirtual 266) [6, 1, 9, m_R_sortOf] (.null) 50 := ⟨rfl, rfl⟩
theorem jf_232_50 : jG m_R_run 50 (.iconst 2) [] (.null) 51 := ⟨rfl, rfl⟩
theorem jf_232_51 : jG m_R_run 51 (.if_icmp .ne 8) [59] (.null) 54 := ⟨rfl, rfl⟩
theorem jf_232_54 : jG m_R_run 54 (.dload 7) [] (.null) 56 := ⟨rfl, rfl⟩
theorem jf_232_56 : jG m_R_run 56 (.goto 9) [65] (.null) 59 := ⟨rfl, rfl⟩
theorem jf_232_59 : jG m_R_run 59 (.dload 7) [] (.null) 61 := ⟨rfl, rfl⟩
theorem jf_232_61 : jG m_R_run 61 (.ldc2_w 390) [] (.double (4643211215818981376)) 64 := ⟨rfl, rfl⟩
theorem jf_232_64 : jG m_R_run 64 (.ddiv) [] (.null) 65 := ⟨rfl, rfl⟩
theorem jf_232_65 : jG m_R_run 65 (.invokevirtual 386) [6, 2, 9, m_R_goes] (.null) 68 := ⟨rfl, rfl⟩
theorem jf_232_68 : jG m_R_run 68 (.iadd) [] (.null) 69 := ⟨rfl, rfl⟩
theorem jf_232_69 : jG m_R_run 69 (.istore 4) [] (.null) 71 := ⟨rfl, rfl⟩
theorem jf_232_71 : jG m_R_run 71 (.iload 5) [] (.null) 73 := ⟨rfl, rfl⟩
theorem jf_232_73 : jG m_R_run 73 (.ldc_w 392) [] (.int (1103515245)) 76 := ⟨rfl, rfl⟩
theorem jf_232_76 : jG m_R_run 76 (.imul) [] (.null) 77 := ⟨rfl, rfl⟩
theorem jf_232_77 : jG m_R_run 77 (.sipush 12345) [] (.null) 80 := ⟨rfl, rfl⟩
theorem jf_232_80 : jG m_R_run 80 (.iadd) [] (.null) 81 := ⟨rfl, rfl⟩
theorem jf_232_81 : jG m_R_run 81 (.istore 5) [] (.null) 83 := ⟨rfl, rfl⟩
theorem jf_232_83 : jG m_R_run 83 (.iinc 6 1) [] (.null) 86 := ⟨rfl, rfl⟩
theorem jf_232_86 : jG m_R_run 86 (.goto (-57)) [29] (.null) 89 := ⟨rfl, rfl⟩
theorem jf_232_89 : jG m_R_run 89 (.iload 4) [] (.null) 91 := ⟨rfl, rfl⟩
theorem jf_232_91 : jG m_R_run 91 (.ireturn) [] (.null) 92 := ⟨rfl, rfl⟩
theorem jf_233_0 : jG m_R_output 0 (.aload_n 0) [] (.null) 1 := ⟨rfl, rfl⟩
theorem jf_233_1 : jG m_R_output 1 (.iload_n 1) [] (.null) 2 := ⟨rfl, rfl⟩
theorem jf_233_2 : jG m_R_output 2 (.invokevirtual 263) [6, 1, 9, m_R_isChain] (.null) 5 := ⟨rfl, rfl⟩
theorem jf_233_5 : jG m_R_output 5 (.ifCond .eq 12) [17] (.null) 8 := ⟨rfl, rfl⟩
theorem jf_233_8 : jG m_R_output 8 (.aload_n 0) [] (.null) 9 := ⟨rfl, rfl⟩
theorem jf_233_9 : jG m_R_output 9 (.iload_n 1) [] (.null) 10 := ⟨rfl, rfl⟩
theorem jf_233_10 : jG m_R_output 10 (.iload_n 2) [] (.null) 11 := ⟨rfl, rfl⟩
theorem jf_233_11 : jG m_R_output 11 (.invokevirtual 393) [6, 2, 9, m_R_isKeptOut] (.null) 14 := ⟨rfl, rfl⟩
theorem jf_233_14 : jG m_R_output 14 (.ifCond .ne 5) [19] (.null) 17 := ⟨rfl, rfl⟩
theorem jf_233_17 : jG m_R_output 17 (.lconst 0) [] (.null) 18 := ⟨rfl, rfl⟩
theorem jf_233_18 : jG m_R_output 18 (.lreturn) [] (.null) 19 := ⟨rfl, rfl⟩
theorem jf_233_19 : jG m_R_output 19 (.aload_n 0) [] (.null) 20 := ⟨rfl, rfl⟩
theorem jf_233_20 : jG m_R_output 20 (.iload_n 1) [] (.null) 21 := ⟨rfl, rfl⟩
theorem jf_233_21 : jG m_R_output 21 (.invokevirtual 266) [6, 1, 9, m_R_sortOf] (.null) 24 := ⟨rfl, rfl⟩
theorem jf_233_24 : jG m_R_output 24 (.aload_n 0) [] (.null) 25 := ⟨rfl, rfl⟩
theorem jf_233_25 : jG m_R_output 25 (.getfield 88) [9, 27] (.null) 28 := ⟨rfl, rfl⟩
theorem jf_233_28 : jG m_R_output 28 (.sipush 400) [] (.null) 31 := ⟨rfl, rfl⟩
theorem jf_233_31 : jG m_R_output 31 (.iload_n 1) [] (.null) 32 := ⟨rfl, rfl⟩
theorem jf_233_32 : jG m_R_output 32 (.imul) [] (.null) 33 := ⟨rfl, rfl⟩
theorem jf_233_33 : jG m_R_output 33 (.iload_n 2) [] (.null) 34 := ⟨rfl, rfl⟩
theorem jf_233_34 : jG m_R_output 34 (.sipush 400) [] (.null) 37 := ⟨rfl, rfl⟩
theorem jf_233_37 : jG m_R_output 37 (.irem) [] (.null) 38 := ⟨rfl, rfl⟩
theorem jf_233_38 : jG m_R_output 38 (.iadd) [] (.null) 39 := ⟨rfl, rfl⟩
theorem jf_233_39 : jG m_R_output 39 (.daload) [] (.null) 40 := ⟨rfl, rfl⟩
theorem jf_233_40 : jG m_R_output 40 (.invokestatic 396) [3, m_R_bitsOf, 2] (.null) 43 := ⟨rfl, rfl⟩
theorem jf_233_43 : jG m_R_output 43 (.lreturn) [] (.null) 44 := ⟨rfl, rfl⟩
theorem jf_234_0 : jG m_R_isKeptOut 0 (.iload_n 2) [] (.null) 1 := ⟨rfl, rfl⟩
theorem jf_234_1 : jG m_R_isKeptOut 1 (.ifCond .lt 31) [32] (.null) 4 := ⟨rfl, rfl⟩
theorem jf_234_4 : jG m_R_isKeptOut 4 (.iload_n 2) [] (.null) 5 := ⟨rfl, rfl⟩
theorem jf_234_5 : jG m_R_isKeptOut 5 (.aload_n 0) [] (.null) 6 := ⟨rfl, rfl⟩
theorem jf_234_6 : jG m_R_isKeptOut 6 (.getfield 91) [9, 28] (.null) 9 := ⟨rfl, rfl⟩
theorem jf_234_9 : jG m_R_isKeptOut 9 (.iload_n 1) [] (.null) 10 := ⟨rfl, rfl⟩
theorem jf_234_10 : jG m_R_isKeptOut 10 (.iaload) [] (.null) 11 := ⟨rfl, rfl⟩
theorem jf_234_11 : jG m_R_isKeptOut 11 (.if_icmp .ge 21) [32] (.null) 14 := ⟨rfl, rfl⟩
theorem jf_234_14 : jG m_R_isKeptOut 14 (.iload_n 2) [] (.null) 15 := ⟨rfl, rfl⟩
theorem jf_234_15 : jG m_R_isKeptOut 15 (.aload_n 0) [] (.null) 16 := ⟨rfl, rfl⟩
theorem jf_234_16 : jG m_R_isKeptOut 16 (.getfield 91) [9, 28] (.null) 19 := ⟨rfl, rfl⟩
theorem jf_234_19 : jG m_R_isKeptOut 19 (.iload_n 1) [] (.null) 20 := ⟨rfl, rfl⟩
theorem jf_234_20 : jG m_R_isKeptOut 20 (.iaload) [] (.null) 21 := ⟨rfl, rfl⟩
theorem jf_234_21 : jG m_R_isKeptOut 21 (.sipush 400) [] (.null) 24 := ⟨rfl, rfl⟩
theorem jf_234_24 : jG m_R_isKeptOut 24 (.isub) [] (.null) 25 := ⟨rfl, rfl⟩
theorem jf_234_25 : jG m_R_isKeptOut 25 (.if_icmp .lt 7) [32] (.null) 28 := ⟨rfl, rfl⟩
theorem jf_234_28 : jG m_R_isKeptOut 28 (.iconst 1) [] (.null) 29 := ⟨rfl, rfl⟩
theorem jf_234_29 : jG m_R_isKeptOut 29 (.goto 4) [33] (.null) 32 := ⟨rfl, rfl⟩
theorem jf_234_32 : jG m_R_isKeptOut 32 (.iconst 0) [] (.null) 33 := ⟨rfl, rfl⟩
theorem jf_234_33 : jG m_R_isKeptOut 33 (.ireturn) [] (.null) 34 := ⟨rfl, rfl⟩
theorem jf_235_0 : jG m_R_bitsOf 0 (.dload_n 1) [] (.null) 1 := ⟨rfl, rfl⟩
theorem jf_235_1 : jG m_R_bitsOf 1 (.dload_n 1) [] (.null) 2 := ⟨rfl, rfl⟩
theorem jf_235_2 : jG m_R_bitsOf 2 (.dcmp .l) [] (.null) 3 := ⟨rfl, rfl⟩
theorem jf_235_3 : jG m_R_bitsOf 3 (.ifCond .eq 17) [20] (.null) 6 := ⟨rfl, rfl⟩
theorem jf_235_6 : jG m_R_bitsOf 6 (.iload_n 0) [] (.null) 7 := ⟨rfl, rfl⟩
theorem jf_235_7 : jG m_R_bitsOf 7 (.ifCond .ne 9) [16] (.null) 10 := ⟨rfl, rfl⟩
theorem jf_235_10 : jG m_R_bitsOf 10 (.ldc2_w 205) [] (.long (9221120237041090560)) 13 := ⟨rfl, rfl⟩
theorem jf_235_13 : jG m_R_bitsOf 13 (.goto 6) [19] (.null) 16 := ⟨rfl, rfl⟩
theorem jf_235_16 : jG m_R_bitsOf 16 (.ldc2_w 207) [] (.long (2143289344)) 19 := ⟨rfl, rfl⟩
theorem jf_235_19 : jG m_R_bitsOf 19 (.lreturn) [] (.null) 20 := ⟨rfl, rfl⟩
theorem jf_235_20 : jG m_R_bitsOf 20 (.iload_n 0) [] (.null) 21 := ⟨rfl, rfl⟩
theorem jf_235_21 : jG m_R_bitsOf 21 (.ifCond .ne 8) [29] (.null) 24 := ⟨rfl, rfl⟩
theorem jf_235_24 : jG m_R_bitsOf 24 (.dload_n 1) [] (.null) 25 := ⟨rfl, rfl⟩
theorem jf_235_25 : jG m_R_bitsOf 25 (.invokestatic 209) [3, m_JDouble_doubleToLongBits, 1] (.null) 28 := ⟨rfl, rfl⟩
theorem jf_235_28 : jG m_R_bitsOf 28 (.lreturn) [] (.null) 29 := ⟨rfl, rfl⟩
theorem jf_235_29 : jG m_R_bitsOf 29 (.iload_n 0) [] (.null) 30 := ⟨rfl, rfl⟩
theorem jf_235_30 : jG m_R_bitsOf 30 (.iconst 1) [] (.null) 31 := ⟨rfl, rfl⟩
theorem jf_235_31 : jG m_R_bitsOf 31 (.if_icmp .ne 10) [41] (.null) 34 := ⟨rfl, rfl⟩
theorem jf_235_34 : jG m_R_bitsOf 34 (.dload_n 1) [] (.null) 35 := ⟨rfl, rfl⟩
theorem jf_235_35 : jG m_R_bitsOf 35 (.d2f) [] (.null) 36 := ⟨rfl, rfl⟩
theorem jf_235_36 : jG m_R_bitsOf 36 (.invokestatic 213) [3, m_JFloat_floatToIntBits, 1] (.null) 39 := ⟨rfl, rfl⟩
theorem jf_235_39 : jG m_R_bitsOf 39 (.i2l) [] (.null) 40 := ⟨rfl, rfl⟩
theorem jf_235_40 : jG m_R_bitsOf 40 (.lreturn) [] (.null) 41 := ⟨rfl, rfl⟩
theorem jf_235_41 : jG m_R_bitsOf 41 (.dload_n 1) [] (.null) 42 := ⟨rfl, rfl⟩
theorem jf_235_42 : jG m_R_bitsOf 42 (.d2l) [] (.null) 43 := ⟨rfl, rfl⟩
theorem jf_235_43 : jG m_R_bitsOf 43 (.lreturn) [] (.null) 44 := ⟨rfl, rfl⟩
theorem jf_236_0 : jG m_JDouble_doubleToLongBits 0 (.dload_n 0) [] (.null) 1 := ⟨rfl, rfl⟩
theorem jf_236_1 : jG m_JDouble_doubleToLongBits 1 (.invokestatic 122) [3, m_JDouble_isNaN, 1] (.null) 4 := ⟨rfl, rfl⟩
theorem jf_236_4 : jG m_JDouble_doubleToLongBits 4 (.ifCond .ne 8) [12] (.null) 7 := ⟨rfl, rfl⟩
theorem jf_236_7 : jG m_JDouble_doubleToLongBits 7 (.dload_n 0) [] (.null) 8 := ⟨rfl, rfl⟩
theorem jf_236_8 : jG m_JDouble_doubleToLongBits 8 (.invokestatic 134) [4, 1] (.null) 11 := ⟨rfl, rfl⟩
theorem jf_236_11 : jG m_JDouble_doubleToLongBits 11 (.lreturn) [] (.null) 12 := ⟨rfl, rfl⟩
theorem jf_236_12 : jG m_JDouble_doubleToLongBits 12 (.ldc2_w 137) [] (.long (9221120237041090560)) 15 := ⟨rfl, rfl⟩
theorem jf_236_15 : jG m_JDouble_doubleToLongBits 15 (.lreturn) [] (.null) 16 := ⟨rfl, rfl⟩
theorem jf_237_0 : jG m_JDouble_isNaN 0 (.dload_n 0) [] (.null) 1 := ⟨rfl, rfl⟩
theorem jf_237_1 : jG m_JDouble_isNaN 1 (.dload_n 0) [] (.null) 2 := ⟨rfl, rfl⟩
theorem jf_237_2 : jG m_JDouble_isNaN 2 (.dcmp .l) [] (.null) 3 := ⟨rfl, rfl⟩
theorem jf_237_3 : jG m_JDouble_isNaN 3 (.ifCond .eq 7) [10] (.null) 6 := ⟨rfl, rfl⟩
theorem jf_237_6 : jG m_JDouble_isNaN 6 (.iconst 1) [] (.null) 7 := ⟨rfl, rfl⟩
theorem jf_237_7 : jG m_JDouble_isNaN 7 (.goto 4) [11] (.null) 10 := ⟨rfl, rfl⟩
theorem jf_237_10 : jG m_JDouble_isNaN 10 (.iconst 0) [] (.null) 11 := ⟨rfl, rfl⟩
theorem jf_237_11 : jG m_JDouble_isNaN 11 (.ireturn) [] (.null) 12 := ⟨rfl, rfl⟩
theorem jf_238_0 : jG m_JFloat_floatToIntBits 0 (.fload_n 0) [] (.null) 1 := ⟨rfl, rfl⟩
theorem jf_238_1 : jG m_JFloat_floatToIntBits 1 (.invokestatic 59) [3, m_JFloat_isNaN, 1] (.null) 4 := ⟨rfl, rfl⟩
theorem jf_238_4 : jG m_JFloat_floatToIntBits 4 (.ifCond .ne 8) [12] (.null) 7 := ⟨rfl, rfl⟩
theorem jf_238_7 : jG m_JFloat_floatToIntBits 7 (.fload_n 0) [] (.null) 8 := ⟨rfl, rfl⟩
theorem jf_238_8 : jG m_JFloat_floatToIntBits 8 (.invokestatic 74) [4, 3] (.null) 11 := ⟨rfl, rfl⟩
theorem jf_238_11 : jG m_JFloat_floatToIntBits 11 (.ireturn) [] (.null) 12 := ⟨rfl, rfl⟩
theorem jf_238_12 : jG m_JFloat_floatToIntBits 12 (.ldc 77) [] (.int (2143289344)) 14 := ⟨rfl, rfl⟩
theorem jf_238_14 : jG m_JFloat_floatToIntBits 14 (.ireturn) [] (.null) 15 := ⟨rfl, rfl⟩
theorem jf_239_0 : jG m_JFloat_isNaN 0 (.fload_n 0) [] (.null) 1 := ⟨rfl, rfl⟩
theorem jf_239_1 : jG m_JFloat_isNaN 1 (.fload_n 0) [] (.null) 2 := ⟨rfl, rfl⟩
theorem jf_239_2 : jG m_JFloat_isNaN 2 (.fcmp .l) [] (.null) 3 := ⟨rfl, rfl⟩
theorem jf_239_3 : jG m_JFloat_isNaN 3 (.ifCond .eq 7) [10] (.null) 6 := ⟨rfl, rfl⟩
theorem jf_239_6 : jG m_JFloat_isNaN 6 (.iconst 1) [] (.null) 7 := ⟨rfl, rfl⟩
theorem jf_239_7 : jG m_JFloat_isNaN 7 (.goto 4) [11] (.null) 10 := ⟨rfl, rfl⟩
theorem jf_239_10 : jG m_JFloat_isNaN 10 (.iconst 0) [] (.null) 11 := ⟨rfl, rfl⟩
theorem jf_239_11 : jG m_JFloat_isNaN 11 (.ireturn) [] (.null) 12 := ⟨rfl, rfl⟩
theorem jf_240_0 : jG m_R_state 0 (.aload_n 0) [] (.null) 1 := ⟨rfl, rfl⟩
theorem jf_240_1 : jG m_R_state 1 (.iload_n 1) [] (.null) 2 := ⟨rfl, rfl⟩
theorem jf_240_2 : jG m_R_state 2 (.invokevirtual 229) [6, 1, 9, m_R_isSection] (.null) 5 := ⟨rfl, rfl⟩
theorem jf_240_5 : jG m_R_state 5 (.ifCond .ne 5) [10] (.null) 8 := ⟨rfl, rfl⟩
theorem jf_240_8 : jG m_R_state 8 (.lconst 0) [] (.null) 9 := ⟨rfl, rfl⟩
theorem jf_240_9 : jG m_R_state 9 (.lreturn) [] (.null) 10 := ⟨rfl, rfl⟩
theorem jf_240_10 : jG m_R_state 10 (.iload_n 2) [] (.null) 11 := ⟨rfl, rfl⟩
theorem jf_240_11 : jG m_R_state 11 (.bipush 100) [] (.null) 13 := ⟨rfl, rfl⟩
theorem jf_240_13 : jG m_R_state 13 (.if_icmp .ne 10) [23] (.null) 16 := ⟨rfl, rfl⟩
theorem jf_240_16 : jG m_R_state 16 (.aload_n 0) [] (.null) 17 := ⟨rfl, rfl⟩
theorem jf_240_17 : jG m_R_state 17 (.getfield 54) [9, 15] (.null) 20 := ⟨rfl, rfl⟩
theorem jf_240_20 : jG m_R_state 20 (.iload_n 1) [] (.null) 21 := ⟨rfl, rfl⟩
theorem jf_240_21 : jG m_R_state 21 (.laload) [] (.null) 22 := ⟨rfl, rfl⟩
theorem jf_240_22 : jG m_R_state 22 (.lreturn) [] (.null) 23 := ⟨rfl, rfl⟩
theorem jf_240_23 : jG m_R_state 23 (.iconst 0) [] (.null) 24 := ⟨rfl, rfl⟩
theorem jf_240_24 : jG m_R_state 24 (.istore_n 3) [] (.null) 25 := ⟨rfl, rfl⟩
theorem jf_240_25 : jG m_R_state 25 (.aload_n 0) [] (.null) 26 := ⟨rfl, rfl⟩
theorem jf_240_26 : jG m_R_state 26 (.getfield 13) [9, 2] (.null) 29 := ⟨rfl, rfl⟩
theorem jf_240_29 : jG m_R_state 29 (.iload_n 1) [] (.null) 30 := ⟨rfl, rfl⟩
theorem jf_240_30 : jG m_R_state 30 (.iaload) [] (.null) 31 := ⟨rfl, rfl⟩
theorem jf_240_31 : jG m_R_state 31 (.tableswitch 142 1 12 #[61, 66, 71, 71, 61, 76, 76, 76, 142, 142, 61, 126]) [173, 92, 97, 102, 102, 92, 107, 107, 107, 173, 173, 92, 157] (.null) 32 := ⟨rfl, rfl⟩
theorem jf_240_92 : jG m_R_state 92 (.iconst 1) [] (.null) 93 := ⟨rfl, rfl⟩
theorem jf_240_93 : jG m_R_state 93 (.istore_n 3) [] (.null) 94 := ⟨rfl, rfl⟩
theorem jf_240_94 : jG m_R_state 94 (.goto 81) [175] (.null) 97 := ⟨rfl, rfl⟩
theorem jf_240_97 : jG m_R_state 97 (.iconst 4) [] (.null) 98 := ⟨rfl, rfl⟩
theorem jf_240_98 : jG m_R_state 98 (.istore_n 3) [] (.null) 99 := ⟨rfl, rfl⟩
theorem jf_240_99 : jG m_R_state 99 (.goto 76) [175] (.null) 102 := ⟨rfl, rfl⟩
theorem jf_240_102 : jG m_R_state 102 (.iconst 2) [] (.null) 103 := ⟨rfl, rfl⟩
theorem jf_240_103 : jG m_R_state 103 (.istore_n 3) [] (.null) 104 := ⟨rfl, rfl⟩
theorem jf_240_104 : jG m_R_state 104 (.goto 71) [175] (.null) 107 := ⟨rfl, rfl⟩
theorem jf_240_107 : jG m_R_state 107 (.iload_n 2) [] (.null) 108 := ⟨rfl, rfl⟩
theorem jf_240_108 : jG m_R_state 108 (.iconst 0) [] (.null) 109 := ⟨rfl, rfl⟩
theorem jf_240_109 : jG m_R_state 109 (.aload_n 0) [] (.null) 110 := ⟨rfl, rfl⟩
theorem jf_240_110 : jG m_R_state 110 (.getfield 20) [9, 4] (.null) 113 := ⟨rfl, rfl⟩
theorem jf_240_113 : jG m_R_state 113 (.iload_n 1) [] (.null) 114 := ⟨rfl, rfl⟩
theorem jf_240_114 : jG m_R_state 114 (.iaload) [] (.null) 115 := ⟨rfl, rfl⟩
theorem jf_240_115 : jG m_R_state 115 (.iconst 1) [] (.null) 116 := ⟨rfl, rfl⟩
theorem jf_240_116 : jG m_R_state 116 (.isub) [] (.null) 117 := ⟨rfl, rfl⟩
theorem jf_240_117 : jG m_R_state 117 (.invokestatic 170) [3, m_R_in, 3] (.null) 120 := ⟨rfl, rfl⟩
theorem jf_240_120 : jG m_R_state 120 (.ifCond .eq 35) [155] (.null) 123 := ⟨rfl, rfl⟩
theorem jf_240_123 : jG m_R_state 123 (.aload_n 0) [] (.null) 124 := ⟨rfl, rfl⟩
theorem jf_240_124 : jG m_R_state 124 (.getfield 17) [9, 3] (.null) 127 := ⟨rfl, rfl⟩
theorem jf_240_127 : jG m_R_state 127 (.iload_n 1) [] (.null) 128 := ⟨rfl, rfl⟩
theorem jf_240_128 : jG m_R_state 128 (.iaload) [] (.null) 129 := ⟨rfl, rfl⟩
theorem jf_240_129 : jG m_R_state 129 (.aload_n 0) [] (.null) 130 := ⟨rfl, rfl⟩
theorem jf_240_130 : jG m_R_state 130 (.iload_n 1) [] (.null) 131 := ⟨rfl, rfl⟩
theorem jf_240_131 : jG m_R_state 131 (.aload_n 0) [] (.null) 132 := ⟨rfl, rfl⟩
theorem jf_240_132 : jG m_R_state 132 (.getfield 51) [9, 14] (.null) 135 := ⟨rfl, rfl⟩
theorem jf_240_135 : jG m_R_state 135 (.iload_n 1) [] (.null) 136 := ⟨rfl, rfl⟩
theorem jf_240_136 : jG m_R_state 136 (.iaload) [] (.null) 137 := ⟨rfl, rfl⟩
theorem jf_240_137 : jG m_R_state 137 (.iload_n 2) [] (.null) 138 := ⟨rfl, rfl⟩
theorem jf_240_138 : jG m_R_state 138 (.iadd) [] (.null) 139 := ⟨rfl, rfl⟩
theorem jf_240_139 : jG m_R_state 139 (.aload_n 0) [] (.null) 140 := ⟨rfl, rfl⟩
theorem jf_240_140 : jG m_R_state 140 (.getfield 20) [9, 4] (.null) 143 := ⟨rfl, rfl⟩
theorem jf_240_143 : jG m_R_state 143 (.iload_n 1) [] (.null) 144 := ⟨rfl, rfl⟩
theorem jf_240_144 : jG m_R_state 144 (.iaload) [] (.null) 145 := ⟨rfl, rfl⟩
theorem jf_240_145 : jG m_R_state 145 (.irem) [] (.null) 146 := ⟨rfl, rfl⟩
theorem jf_240_146 : jG m_R_state 146 (.invokevirtual 335) [6, 2, 9, m_R_st] (.null) 149 := ⟨rfl, rfl⟩
theorem jf_240_149 : jG m_R_state 149 (.invokestatic 396) [3, m_R_bitsOf, 2] (.null) 152 := ⟨rfl, rfl⟩
theorem jf_240_152 : jG m_R_state 152 (.goto 4) [156] (.null) 155 := ⟨rfl, rfl⟩
theorem jf_240_155 : jG m_R_state 155 (.lconst 0) [] (.null) 156 := ⟨rfl, rfl⟩
theorem jf_240_156 : jG m_R_state 156 (.lreturn) [] (.null) 157 := ⟨rfl, rfl⟩
theorem jf_240_157 : jG m_R_state 157 (.iload_n 2) [] (.null) 158 := ⟨rfl, rfl⟩
theorem jf_240_158 : jG m_R_state 158 (.ifCond .ne 13) [171] (.null) 161 := ⟨rfl, rfl⟩
theorem jf_240_161 : jG m_R_state 161 (.aload_n 0) [] (.null) 162 := ⟨rfl, rfl⟩
theorem jf_240_162 : jG m_R_state 162 (.iload_n 1) [] (.null) 163 := ⟨rfl, rfl⟩
theorem jf_240_163 : jG m_R_state 163 (.iconst 0) [] (.null) 164 := ⟨rfl, rfl⟩
theorem jf_240_164 : jG m_R_state 164 (.invokevirtual 335) [6, 2, 9, m_R_st] (.null) 167 := ⟨rfl, rfl⟩
theorem jf_240_167 : jG m_R_state 167 (.d2l) [] (.null) 168 := ⟨rfl, rfl⟩
theorem jf_240_168 : jG m_R_state 168 (.goto 4) [172] (.null) 171 := ⟨rfl, rfl⟩
theorem jf_240_171 : jG m_R_state 171 (.lconst 0) [] (.null) 172 := ⟨rfl, rfl⟩
theorem jf_240_172 : jG m_R_state 172 (.lreturn) [] (.null) 173 := ⟨rfl, rfl⟩
theorem jf_240_173 : jG m_R_state 173 (.iconst 0) [] (.null) 174 := ⟨rfl, rfl⟩
theorem jf_240_174 : jG m_R_state 174 (.istore_n 3) [] (.null) 175 := ⟨rfl, rfl⟩
theorem jf_240_175 : jG m_R_state 175 (.iload_n 2) [] (.null) 176 := ⟨rfl, rfl⟩
theorem jf_240_176 : jG m_R_state 176 (.iconst 0) [] (.null) 177 := ⟨rfl, rfl⟩
theorem jf_240_177 : jG m_R_state 177 (.iload_n 3) [] (.null) 178 := ⟨rfl, rfl⟩
theorem jf_240_178 : jG m_R_state 178 (.iconst 1) [] (.null) 179 := ⟨rfl, rfl⟩
theorem jf_240_179 : jG m_R_state 179 (.isub) [] (.null) 180 := ⟨rfl, rfl⟩
theorem jf_240_180 : jG m_R_state 180 (.invokestatic 170) [3, m_R_in, 3] (.null) 183 := ⟨rfl, rfl⟩
theorem jf_240_183 : jG m_R_state 183 (.ifCond .eq 21) [204] (.null) 186 := ⟨rfl, rfl⟩
theorem jf_240_186 : jG m_R_state 186 (.aload_n 0) [] (.null) 187 := ⟨rfl, rfl⟩
theorem jf_240_187 : jG m_R_state 187 (.getfield 17) [9, 3] (.null) 190 := ⟨rfl, rfl⟩
theorem jf_240_190 : jG m_R_state 190 (.iload_n 1) [] (.null) 191 := ⟨rfl, rfl⟩
theorem jf_240_191 : jG m_R_state 191 (.iaload) [] (.null) 192 := ⟨rfl, rfl⟩
theorem jf_240_192 : jG m_R_state 192 (.aload_n 0) [] (.null) 193 := ⟨rfl, rfl⟩
theorem jf_240_193 : jG m_R_state 193 (.iload_n 1) [] (.null) 194 := ⟨rfl, rfl⟩
theorem jf_240_194 : jG m_R_state 194 (.iload_n 2) [] (.null) 195 := ⟨rfl, rfl⟩
theorem jf_240_195 : jG m_R_state 195 (.invokevirtual 335) [6, 2, 9, m_R_st] (.null) 198 := ⟨rfl, rfl⟩
theorem jf_240_198 : jG m_R_state 198 (.invokestatic 396) [3, m_R_bitsOf, 2] (.null) 201 := ⟨rfl, rfl⟩
theorem jf_240_201 : jG m_R_state 201 (.goto 4) [205] (.null) 204 := ⟨rfl, rfl⟩
theorem jf_240_204 : jG m_R_state 204 (.lconst 0) [] (.null) 205 := ⟨rfl, rfl⟩
theorem jf_240_205 : jG m_R_state 205 (.lreturn) [] (.null) 206 := ⟨rfl, rfl⟩
theorem jf_241_0 : jG m_R_about 0 (.aload_n 0) [] (.null) 1 := ⟨rfl, rfl⟩
theorem jf_241_1 : jG m_R_about 1 (.iload_n 1) [] (.null) 2 := ⟨rfl, rfl⟩
theorem jf_241_2 : jG m_R_about 2 (.invokevirtual 229) [6, 1, 9, m_R_isSection] (.null) 5 := ⟨rfl, rfl⟩
theorem jf_241_5 : jG m_R_about 5 (.ifCond .ne 5) [10] (.null) 8 := ⟨rfl, rfl⟩
theorem jf_241_8 : jG m_R_about 8 (.iconst (-1)) [] (.null) 9 := ⟨rfl, rfl⟩
theorem jf_241_9 : jG m_R_about 9 (.ireturn) [] (.null) 10 := ⟨rfl, rfl⟩
theorem jf_241_10 : jG m_R_about 10 (.iload_n 2) [] (.null) 11 := ⟨rfl, rfl⟩
theorem jf_241_11 : jG m_R_about 11 (.tableswitch 123 0 9 #[53, 60, 67, 74, 81, 88, 95, 102, 109, 116]) [134, 64, 71, 78, 85, 92, 99, 106, 113, 120, 127] (.null) 12 := ⟨rfl, rfl⟩
theorem jf_241_64 : jG m_R_about 64 (.aload_n 0) [] (.null) 65 := ⟨rfl, rfl⟩
theorem jf_241_65 : jG m_R_about 65 (.getfield 13) [9, 2] (.null) 68 := ⟨rfl, rfl⟩
theorem jf_241_68 : jG m_R_about 68 (.iload_n 1) [] (.null) 69 := ⟨rfl, rfl⟩
theorem jf_241_69 : jG m_R_about 69 (.iaload) [] (.null) 70 := ⟨rfl, rfl⟩
theorem jf_241_70 : jG m_R_about 70 (.ireturn) [] (.null) 71 := ⟨rfl, rfl⟩
theorem jf_241_71 : jG m_R_about 71 (.aload_n 0) [] (.null) 72 := ⟨rfl, rfl⟩
theorem jf_241_72 : jG m_R_about 72 (.getfield 17) [9, 3] (.null) 75 := ⟨rfl, rfl⟩
theorem jf_241_75 : jG m_R_about 75 (.iload_n 1) [] (.null) 76 := ⟨rfl, rfl⟩
theorem jf_241_76 : jG m_R_about 76 (.iaload) [] (.null) 77 := ⟨rfl, rfl⟩
theorem jf_241_77 : jG m_R_about 77 (.ireturn) [] (.null) 78 := ⟨rfl, rfl⟩
theorem jf_241_78 : jG m_R_about 78 (.aload_n 0) [] (.null) 79 := ⟨rfl, rfl⟩
theorem jf_241_79 : jG m_R_about 79 (.getfield 20) [9, 4] (.null) 82 := ⟨rfl, rfl⟩
theorem jf_241_82 : jG m_R_about 82 (.iload_n 1) [] (.null) 83 := ⟨rfl, rfl⟩
theorem jf_241_83 : jG m_R_about 83 (.iaload) [] (.null) 84 := ⟨rfl, rfl⟩
theorem jf_241_84 : jG m_R_about 84 (.ireturn) [] (.null) 85 := ⟨rfl, rfl⟩
theorem jf_241_85 : jG m_R_about 85 (.aload_n 0) [] (.null) 86 := ⟨rfl, rfl⟩
theorem jf_241_86 : jG m_R_about 86 (.getfield 33) [9, 8] (.null) 89 := ⟨rfl, rfl⟩
theorem jf_241_89 : jG m_R_about 89 (.iload_n 1) [] (.null) 90 := ⟨rfl, rfl⟩
theorem jf_241_90 : jG m_R_about 90 (.iaload) [] (.null) 91 := ⟨rfl, rfl⟩
theorem jf_241_91 : jG m_R_about 91 (.ireturn) [] (.null) 92 := ⟨rfl, rfl⟩
theorem jf_241_92 : jG m_R_about 92 (.aload_n 0) [] (.null) 93 := ⟨rfl, rfl⟩
theorem jf_241_93 : jG m_R_about 93 (.getfield 36) [9, 9] (.null) 96 := ⟨rfl, rfl⟩
theorem jf_241_96 : jG m_R_about 96 (.iload_n 1) [] (.null) 97 := ⟨rfl, rfl⟩
theorem jf_241_97 : jG m_R_about 97 (.iaload) [] (.null) 98 := ⟨rfl, rfl⟩
theorem jf_241_98 : jG m_R_about 98 (.ireturn) [] (.null) 99 := ⟨rfl, rfl⟩
theorem jf_241_99 : jG m_R_about 99 (.aload_n 0) [] (.null) 100 := ⟨rfl, rfl⟩
theorem jf_241_100 : jG m_R_about 100 (.getfield 42) [9, 11] (.null) 103 := ⟨rfl, rfl⟩
theorem jf_241_103 : jG m_R_about 103 (.iload_n 1) [] (.null) 104 := ⟨rfl, rfl⟩
theorem jf_241_104 : jG m_R_about 104 (.iaload) [] (.null) 105 := ⟨rfl, rfl⟩
theorem jf_241_105 : jG m_R_about 105 (.ireturn) [] (.null) 106 := ⟨rfl, rfl⟩
theorem jf_241_106 : jG m_R_about 106 (.aload_n 0) [] (.null) 107 := ⟨rfl, rfl⟩
theorem jf_241_107 : jG m_R_about 107 (.getfield 45) [9, 12] (.null) 110 := ⟨rfl, rfl⟩
theorem jf_241_110 : jG m_R_about 110 (.iload_n 1) [] (.null) 111 := ⟨rfl, rfl⟩
theorem jf_241_111 : jG m_R_about 111 (.iaload) [] (.null) 112 := ⟨rfl, rfl⟩
theorem jf_241_112 : jG m_R_about 112 (.ireturn) [] (.null) 113 := ⟨rfl, rfl⟩
theorem jf_241_113 : jG m_R_about 113 (.aload_n 0) [] (.null) 114 := ⟨rfl, rfl⟩
theorem jf_241_114 : jG m_R_about 114 (.getfield 39) [9, 10] (.null) 117 := ⟨rfl, rfl⟩
theorem jf_241_117 : jG m_R_about 117 (.iload_n 1) [] (.null) 118 := ⟨rfl, rfl⟩
theorem jf_241_118 : jG m_R_about 118 (.iaload) [] (.null) 119 := ⟨rfl, rfl⟩
theorem jf_241_119 : jG m_R_about 119 (.ireturn) [] (.null) 120 := ⟨rfl, rfl⟩
theorem jf_241_120 : jG m_R_about 120 (.aload_n 0) [] (.null) 121 := ⟨rfl, rfl⟩
theorem jf_241_121 : jG m_R_about 121 (.getfield 23) [9, 5] (.null) 124 := ⟨rfl, rfl⟩
theorem jf_241_124 : jG m_R_about 124 (.iload_n 1) [] (.null) 125 := ⟨rfl, rfl⟩
theorem jf_241_125 : jG m_R_about 125 (.iaload) [] (.null) 126 := ⟨rfl, rfl⟩
theorem jf_241_126 : jG m_R_about 126 (.ireturn) [] (.null) 127 := ⟨rfl, rfl⟩
theorem jf_241_127 : jG m_R_about 127 (.aload_n 0) [] (.null) 128 := ⟨rfl, rfl⟩
theorem jf_241_128 : jG m_R_about 128 (.getfield 26) [9, 6] (.null) 131 := ⟨rfl, rfl⟩
theorem jf_241_131 : jG m_R_about 131 (.iload_n 1) [] (.null) 132 := ⟨rfl, rfl⟩
theorem jf_241_132 : jG m_R_about 132 (.iaload) [] (.null) 133 := ⟨rfl, rfl⟩
theorem jf_241_133 : jG m_R_about 133 (.ireturn) [] (.null) 134 := ⟨rfl, rfl⟩
theorem jf_241_134 : jG m_R_about 134 (.iconst (-1)) [] (.null) 135 := ⟨rfl, rfl⟩
theorem jf_241_135 : jG m_R_about 135 (.ireturn) [] (.null) 136 := ⟨rfl, rfl⟩
theorem jf_242_0 : jG m_R_told 0 (.aload_n 0) [] (.null) 1 := ⟨rfl, rfl⟩
theorem jf_242_1 : jG m_R_told 1 (.iload_n 1) [] (.null) 2 := ⟨rfl, rfl⟩
theorem jf_242_2 : jG m_R_told 2 (.iload_n 2) [] (.null) 3 := ⟨rfl, rfl⟩
theorem jf_242_3 : jG m_R_told 3 (.invokevirtual 237) [6, 2, 9, m_R_isCoefficient] (.null) 6 := ⟨rfl, rfl⟩
theorem jf_242_6 : jG m_R_told 6 (.ifCond .eq 21) [27] (.null) 9 := ⟨rfl, rfl⟩
theorem jf_242_9 : jG m_R_told 9 (.aload_n 0) [] (.null) 10 := ⟨rfl, rfl⟩
theorem jf_242_10 : jG m_R_told 10 (.getfield 17) [9, 3] (.null) 13 := ⟨rfl, rfl⟩
theorem jf_242_13 : jG m_R_told 13 (.iload_n 1) [] (.null) 14 := ⟨rfl, rfl⟩
theorem jf_242_14 : jG m_R_told 14 (.iaload) [] (.null) 15 := ⟨rfl, rfl⟩
theorem jf_242_15 : jG m_R_told 15 (.aload_n 0) [] (.null) 16 := ⟨rfl, rfl⟩
theorem jf_242_16 : jG m_R_told 16 (.iload_n 1) [] (.null) 17 := ⟨rfl, rfl⟩
theorem jf_242_17 : jG m_R_told 17 (.iload_n 2) [] (.null) 18 := ⟨rfl, rfl⟩
theorem jf_242_18 : jG m_R_told 18 (.invokevirtual 323) [6, 2, 9, m_R_c] (.null) 21 := ⟨rfl, rfl⟩
theorem jf_242_21 : jG m_R_told 21 (.invokestatic 396) [3, m_R_bitsOf, 2] (.null) 24 := ⟨rfl, rfl⟩
theorem jf_242_24 : jG m_R_told 24 (.goto 4) [28] (.null) 27 := ⟨rfl, rfl⟩
theorem jf_242_27 : jG m_R_told 27 (.lconst 0) [] (.null) 28 := ⟨rfl, rfl⟩
theorem jf_242_28 : jG m_R_told 28 (.lreturn) [] (.null) 29 := ⟨rfl, rfl⟩
theorem jf_243_0 : jG m_R_reset 0 (.aload_n 0) [] (.null) 1 := ⟨rfl, rfl⟩
theorem jf_243_1 : jG m_R_reset 1 (.iload_n 1) [] (.null) 2 := ⟨rfl, rfl⟩
theorem jf_243_2 : jG m_R_reset 2 (.invokevirtual 263) [6, 1, 9, m_R_isChain] (.null) 5 := ⟨rfl, rfl⟩
theorem jf_243_5 : jG m_R_reset 5 (.ifCond .ne 5) [10] (.null) 8 := ⟨rfl, rfl⟩
theorem jf_243_8 : jG m_R_reset 8 (.iconst 0) [] (.null) 9 := ⟨rfl, rfl⟩
theorem jf_243_9 : jG m_R_reset 9 (.ireturn) [] (.null) 10 := ⟨rfl, rfl⟩
theorem jf_243_10 : jG m_R_reset 10 (.aload_n 0) [] (.null) 11 := ⟨rfl, rfl⟩
theorem jf_243_11 : jG m_R_reset 11 (.iload_n 1) [] (.null) 12 := ⟨rfl, rfl⟩
theorem jf_243_12 : jG m_R_reset 12 (.invokevirtual 400) [6, 1, 9, m_R_trees] (.null) 15 := ⟨rfl, rfl⟩
theorem jf_243_15 : jG m_R_reset 15 (.iconst 0) [] (.null) 16 := ⟨rfl, rfl⟩
theorem jf_243_16 : jG m_R_reset 16 (.istore_n 2) [] (.null) 17 := ⟨rfl, rfl⟩
theorem jf_243_17 : jG m_R_reset 17 (.iload_n 2) [] (.null) 18 := ⟨rfl, rfl⟩
theorem jf_243_18 : jG m_R_reset 18 (.aload_n 0) [] (.null) 19 := ⟨rfl, rfl⟩
theorem jf_243_19 : jG m_R_reset 19 (.getfield 380) [9, 42] (.null) 22 := ⟨rfl, rfl⟩
theorem jf_243_22 : jG m_R_reset 22 (.if_icmp .ge 19) [41] (.null) 25 := ⟨rfl, rfl⟩
theorem jf_243_25 : jG m_R_reset 25 (.aload_n 0) [] (.null) 26 := ⟨rfl, rfl⟩
theorem jf_243_26 : jG m_R_reset 26 (.aload_n 0) [] (.null) 27 := ⟨rfl, rfl⟩
theorem jf_243_27 : jG m_R_reset 27 (.getfield 106) [9, 43] (.null) 30 := ⟨rfl, rfl⟩
theorem jf_243_30 : jG m_R_reset 30 (.iload_n 2) [] (.null) 31 := ⟨rfl, rfl⟩
theorem jf_243_31 : jG m_R_reset 31 (.iaload) [] (.null) 32 := ⟨rfl, rfl⟩
theorem jf_243_32 : jG m_R_reset 32 (.invokevirtual 403) [6, 1, 9, m_R_empties] (.null) 35 := ⟨rfl, rfl⟩
theorem jf_243_35 : jG m_R_reset 35 (.iinc 2 1) [] (.null) 38 := ⟨rfl, rfl⟩
theorem jf_243_38 : jG m_R_reset 38 (.goto (-21)) [17] (.null) 41 := ⟨rfl, rfl⟩
theorem jf_243_41 : jG m_R_reset 41 (.iconst 1) [] (.null) 42 := ⟨rfl, rfl⟩
theorem jf_243_42 : jG m_R_reset 42 (.ireturn) [] (.null) 43 := ⟨rfl, rfl⟩
theorem jf_244_0 : jG m_R_trees 0 (.aload_n 0) [] (.null) 1 := ⟨rfl, rfl⟩
theorem jf_244_1 : jG m_R_trees 1 (.iconst 1) [] (.null) 2 := ⟨rfl, rfl⟩
theorem jf_244_2 : jG m_R_trees 2 (.putfield 380) [9, 42] (.null) 5 := ⟨rfl, rfl⟩
theorem jf_244_5 : jG m_R_trees 5 (.aload_n 0) [] (.null) 6 := ⟨rfl, rfl⟩
theorem jf_244_6 : jG m_R_trees 6 (.getfield 106) [9, 43] (.null) 9 := ⟨rfl, rfl⟩
theorem jf_244_9 : jG m_R_trees 9 (.iconst 0) [] (.null) 10 := ⟨rfl, rfl⟩
theorem jf_244_10 : jG m_R_trees 10 (.iload_n 1) [] (.null) 11 := ⟨rfl, rfl⟩
theorem jf_244_11 : jG m_R_trees 11 (.iastore) [] (.null) 12 := ⟨rfl, rfl⟩
theorem jf_244_12 : jG m_R_trees 12 (.iconst 0) [] (.null) 13 := ⟨rfl, rfl⟩
theorem jf_244_13 : jG m_R_trees 13 (.istore_n 2) [] (.null) 14 := ⟨rfl, rfl⟩
theorem jf_244_14 : jG m_R_trees 14 (.iload_n 2) [] (.null) 15 := ⟨rfl, rfl⟩
theorem jf_244_15 : jG m_R_trees 15 (.aload_n 0) [] (.null) 16 := ⟨rfl, rfl⟩
theorem jf_244_16 : jG m_R_trees 16 (.getfield 380) [9, 42] (.null) 19 := ⟨rfl, rfl⟩
theorem jf_244_19 : jG m_R_trees 19 (.if_icmp .ge 90) [109] (.null) 22 := ⟨rfl, rfl⟩
theorem jf_244_22 : jG m_R_trees 22 (.iconst 0) [] (.null) 23 := ⟨rfl, rfl⟩
theorem jf_244_23 : jG m_R_trees 23 (.istore_n 3) [] (.null) 24 := ⟨rfl, rfl⟩
theorem jf_244_24 : jG m_R_trees 24 (.iload_n 3) [] (.null) 25 := ⟨rfl, rfl⟩
theorem jf_244_25 : jG m_R_trees 25 (.aload_n 0) [] (.null) 26 := ⟨rfl, rfl⟩
theorem jf_244_26 : jG m_R_trees 26 (.getfield 58) [9, 17] (.null) 29 := ⟨rfl, rfl⟩
theorem jf_244_29 : jG m_R_trees 29 (.aload_n 0) [] (.null) 30 := ⟨rfl, rfl⟩
theorem jf_244_30 : jG m_R_trees 30 (.getfield 106) [9, 43] (.null) 33 := ⟨rfl, rfl⟩
theorem jf_244_33 : jG m_R_trees 33 (.iload_n 2) [] (.null) 34 := ⟨rfl, rfl⟩
theorem jf_244_34 : jG m_R_trees 34 (.iaload) [] (.null) 35 := ⟨rfl, rfl⟩
theorem jf_244_35 : jG m_R_trees 35 (.iaload) [] (.null) 36 := ⟨rfl, rfl⟩
theorem jf_244_36 : jG m_R_trees 36 (.if_icmp .ge 67) [103] (.null) 39 := ⟨rfl, rfl⟩
theorem jf_244_39 : jG m_R_trees 39 (.aload_n 0) [] (.null) 40 := ⟨rfl, rfl⟩
theorem jf_244_40 : jG m_R_trees 40 (.getfield 61) [9, 18] (.null) 43 := ⟨rfl, rfl⟩
theorem jf_244_43 : jG m_R_trees 43 (.bipush 10) [] (.null) 45 := ⟨rfl, rfl⟩
theorem jf_244_45 : jG m_R_trees 45 (.aload_n 0) [] (.null) 46 := ⟨rfl, rfl⟩
theorem jf_244_46 : jG m_R_trees 46 (.getfield 106) [9, 43] (.null) 49 := ⟨rfl, rfl⟩
theorem jf_244_49 : jG m_R_trees 49 (.iload_n 2) [] (.null) 50 := ⟨rfl, rfl⟩
theorem jf_244_50 : jG m_R_trees 50 (.iaload) [] (.null) 51 := ⟨rfl, rfl⟩
theorem jf_244_51 : jG m_R_trees 51 (.imul) [] (.null) 52 := ⟨rfl, rfl⟩
theorem jf_244_52 : jG m_R_trees 52 (.iload_n 3) [] (.null) 53 := ⟨rfl, rfl⟩
theorem jf_244_53 : jG m_R_trees 53 (.iadd) [] (.null) 54 := ⟨rfl, rfl⟩
theorem jf_244_54 : jG m_R_trees 54 (.iaload) [] (.null) 55 := ⟨rfl, rfl⟩
theorem jf_244_55 : jG m_R_trees 55 (.istore 4) [] (.null) 57 := ⟨rfl, rfl⟩
theorem jf_244_57 : jG m_R_trees 57 (.aload_n 0) [] (.null) 58 := ⟨rfl, rfl⟩
theorem jf_244_58 : jG m_R_trees 58 (.getfield 39) [9, 10] (.null) 61 := ⟨rfl, rfl⟩
theorem jf_244_61 : jG m_R_trees 61 (.iload 4) [] (.null) 63 := ⟨rfl, rfl⟩
theorem jf_244_63 : jG m_R_trees 63 (.iaload) [] (.null) 64 := ⟨rfl, rfl⟩
theorem jf_244_64 : jG m_R_trees 64 (.iconst (-1)) [] (.null) 65 := ⟨rfl, rfl⟩
theorem jf_244_65 : jG m_R_trees 65 (.if_icmp .ne 6) [71] (.null) 68 := ⟨rfl, rfl⟩
theorem jf_244_68 : jG m_R_trees 68 (.goto 29) [97] (.null) 71 := ⟨rfl, rfl⟩
theorem jf_244_71 : jG m_R_trees 71 (.aload_n 0) [] (.null) 72 := ⟨rfl, rfl⟩
theorem jf_244_72 : jG m_R_trees 72 (.getfield 106) [9, 43] (.null) 75 := ⟨rfl, rfl⟩
theorem jf_244_75 : jG m_R_trees 75 (.aload_n 0) [] (.null) 76 := ⟨rfl, rfl⟩
theorem jf_244_76 : jG m_R_trees 76 (.getfield 380) [9, 42] (.null) 79 := ⟨rfl, rfl⟩
theorem jf_244_79 : jG m_R_trees 79 (.aload_n 0) [] (.null) 80 := ⟨rfl, rfl⟩
theorem jf_244_80 : jG m_R_trees 80 (.getfield 39) [9, 10] (.null) 83 := ⟨rfl, rfl⟩
theorem jf_244_83 : jG m_R_trees 83 (.iload 4) [] (.null) 85 := ⟨rfl, rfl⟩
theorem jf_244_85 : jG m_R_trees 85 (.iaload) [] (.null) 86 := ⟨rfl, rfl⟩
theorem jf_244_86 : jG m_R_trees 86 (.iastore) [] (.null) 87 := ⟨rfl, rfl⟩
theorem jf_244_87 : jG m_R_trees 87 (.aload_n 0) [] (.null) 88 := ⟨rfl, rfl⟩
theorem jf_244_88 : jG m_R_trees 88 (.dup) [] (.null) 89 := ⟨rfl, rfl⟩
theorem jf_244_89 : jG m_R_trees 89 (.getfield 380) [9, 42] (.null) 92 := ⟨rfl, rfl⟩
theorem jf_244_92 : jG m_R_trees 92 (.iconst 1) [] (.null) 93 := ⟨rfl, rfl⟩
theorem jf_244_93 : jG m_R_trees 93 (.iadd) [] (.null) 94 := ⟨rfl, rfl⟩
theorem jf_244_94 : jG m_R_trees 94 (.putfield 380) [9, 42] (.null) 97 := ⟨rfl, rfl⟩
theorem jf_244_97 : jG m_R_trees 97 (.iinc 3 1) [] (.null) 100 := ⟨rfl, rfl⟩
theorem jf_244_100 : jG m_R_trees 100 (.goto (-76)) [24] (.null) 103 := ⟨rfl, rfl⟩
theorem jf_244_103 : jG m_R_trees 103 (.iinc 2 1) [] (.null) 106 := ⟨rfl, rfl⟩
theorem jf_244_106 : jG m_R_trees 106 (.goto (-92)) [14] (.null) 109 := ⟨rfl, rfl⟩
theorem jf_244_109 : jG m_R_trees 109 (.return_) [] (.null) 110 := ⟨rfl, rfl⟩
theorem jf_245_0 : jG m_R_empties 0 (.aload_n 0) [] (.null) 1 := ⟨rfl, rfl⟩
theorem jf_245_1 : jG m_R_empties 1 (.getfield 91) [9, 28] (.null) 4 := ⟨rfl, rfl⟩
theorem jf_245_4 : jG m_R_empties 4 (.iload_n 1) [] (.null) 5 := ⟨rfl, rfl⟩
theorem jf_245_5 : jG m_R_empties 5 (.iconst 0) [] (.null) 6 := ⟨rfl, rfl⟩
theorem jf_245_6 : jG m_R_empties 6 (.iastore) [] (.null) 7 := ⟨rfl, rfl⟩
theorem jf_245_7 : jG m_R_empties 7 (.iconst 3) [] (.null) 8 := ⟨rfl, rfl⟩
theorem jf_245_8 : jG m_R_empties 8 (.iload_n 1) [] (.null) 9 := ⟨rfl, rfl⟩
theorem jf_245_9 : jG m_R_empties 9 (.imul) [] (.null) 10 := ⟨rfl, rfl⟩
theorem jf_245_10 : jG m_R_empties 10 (.istore_n 2) [] (.null) 11 := ⟨rfl, rfl⟩
theorem jf_245_11 : jG m_R_empties 11 (.iload_n 2) [] (.null) 12 := ⟨rfl, rfl⟩
theorem jf_245_12 : jG m_R_empties 12 (.iconst 3) [] (.null) 13 := ⟨rfl, rfl⟩
theorem jf_245_13 : jG m_R_empties 13 (.iload_n 1) [] (.null) 14 := ⟨rfl, rfl⟩
theorem jf_245_14 : jG m_R_empties 14 (.imul) [] (.null) 15 := ⟨rfl, rfl⟩
theorem jf_245_15 : jG m_R_empties 15 (.aload_n 0) [] (.null) 16 := ⟨rfl, rfl⟩
theorem jf_245_16 : jG m_R_empties 16 (.getfield 67) [9, 20] (.null) 19 := ⟨rfl, rfl⟩
theorem jf_245_19 : jG m_R_empties 19 (.iload_n 1) [] (.null) 20 := ⟨rfl, rfl⟩
theorem jf_245_20 : jG m_R_empties 20 (.iaload) [] (.null) 21 := ⟨rfl, rfl⟩
theorem jf_245_21 : jG m_R_empties 21 (.iadd) [] (.null) 22 := ⟨rfl, rfl⟩
theorem jf_245_22 : jG m_R_empties 22 (.if_icmp .ge 42) [64] (.null) 25 := ⟨rfl, rfl⟩
theorem jf_245_25 : jG m_R_empties 25 (.iconst 0) [] (.null) 26 := ⟨rfl, rfl⟩
theorem jf_245_26 : jG m_R_empties 26 (.istore_n 3) [] (.null) 27 := ⟨rfl, rfl⟩
theorem jf_245_27 : jG m_R_empties 27 (.iload_n 3) [] (.null) 28 := ⟨rfl, rfl⟩
theorem jf_245_28 : jG m_R_empties 28 (.bipush 64) [] (.null) 30 := ⟨rfl, rfl⟩
theorem jf_245_30 : jG m_R_empties 30 (.if_icmp .ge 21) [51] (.null) 33 := ⟨rfl, rfl⟩
theorem jf_245_33 : jG m_R_empties 33 (.aload_n 0) [] (.null) 34 := ⟨rfl, rfl⟩
theorem jf_245_34 : jG m_R_empties 34 (.getfield 82) [9, 25] (.null) 37 := ⟨rfl, rfl⟩
theorem jf_245_37 : jG m_R_empties 37 (.bipush 64) [] (.null) 39 := ⟨rfl, rfl⟩
theorem jf_245_39 : jG m_R_empties 39 (.iload_n 2) [] (.null) 40 := ⟨rfl, rfl⟩
theorem jf_245_40 : jG m_R_empties 40 (.imul) [] (.null) 41 := ⟨rfl, rfl⟩
theorem jf_245_41 : jG m_R_empties 41 (.iload_n 3) [] (.null) 42 := ⟨rfl, rfl⟩
theorem jf_245_42 : jG m_R_empties 42 (.iadd) [] (.null) 43 := ⟨rfl, rfl⟩
theorem jf_245_43 : jG m_R_empties 43 (.dconst 0) [] (.null) 44 := ⟨rfl, rfl⟩
theorem jf_245_44 : jG m_R_empties 44 (.dastore) [] (.null) 45 := ⟨rfl, rfl⟩
theorem jf_245_45 : jG m_R_empties 45 (.iinc 3 1) [] (.null) 48 := ⟨rfl, rfl⟩
theorem jf_245_48 : jG m_R_empties 48 (.goto (-21)) [27] (.null) 51 := ⟨rfl, rfl⟩
theorem jf_245_51 : jG m_R_empties 51 (.aload_n 0) [] (.null) 52 := ⟨rfl, rfl⟩
theorem jf_245_52 : jG m_R_empties 52 (.getfield 85) [9, 26] (.null) 55 := ⟨rfl, rfl⟩
theorem jf_245_55 : jG m_R_empties 55 (.iload_n 2) [] (.null) 56 := ⟨rfl, rfl⟩
theorem jf_245_56 : jG m_R_empties 56 (.iconst 0) [] (.null) 57 := ⟨rfl, rfl⟩
theorem jf_245_57 : jG m_R_empties 57 (.iastore) [] (.null) 58 := ⟨rfl, rfl⟩
theorem jf_245_58 : jG m_R_empties 58 (.iinc 2 1) [] (.null) 61 := ⟨rfl, rfl⟩
theorem jf_245_61 : jG m_R_empties 61 (.goto (-50)) [11] (.null) 64 := ⟨rfl, rfl⟩
theorem jf_245_64 : jG m_R_empties 64 (.iconst 0) [] (.null) 65 := ⟨rfl, rfl⟩
theorem jf_245_65 : jG m_R_empties 65 (.istore_n 2) [] (.null) 66 := ⟨rfl, rfl⟩
theorem jf_245_66 : jG m_R_empties 66 (.iload_n 2) [] (.null) 67 := ⟨rfl, rfl⟩
theorem jf_245_67 : jG m_R_empties 67 (.aload_n 0) [] (.null) 68 := ⟨rfl, rfl⟩
theorem jf_245_68 : jG m_R_empties 68 (.getfield 58) [9, 17] (.null) 71 := ⟨rfl, rfl⟩
theorem jf_245_71 : jG m_R_empties 71 (.iload_n 1) [] (.null) 72 := ⟨rfl, rfl⟩
theorem jf_245_72 : jG m_R_empties 72 (.iaload) [] (.null) 73 := ⟨rfl, rfl⟩
theorem jf_245_73 : jG m_R_empties 73 (.if_icmp .ge 26) [99] (.null) 76 := ⟨rfl, rfl⟩
theorem jf_245_76 : jG m_R_empties 76 (.aload_n 0) [] (.null) 77 := ⟨rfl, rfl⟩
theorem jf_245_77 : jG m_R_empties 77 (.getfield 61) [9, 18] (.null) 80 := ⟨rfl, rfl⟩
theorem jf_245_80 : jG m_R_empties 80 (.bipush 10) [] (.null) 82 := ⟨rfl, rfl⟩
theorem jf_245_82 : jG m_R_empties 82 (.iload_n 1) [] (.null) 83 := ⟨rfl, rfl⟩
theorem jf_245_83 : jG m_R_empties 83 (.imul) [] (.null) 84 := ⟨rfl, rfl⟩
theorem jf_245_84 : jG m_R_empties 84 (.iload_n 2) [] (.null) 85 := ⟨rfl, rfl⟩
theorem jf_245_85 : jG m_R_empties 85 (.iadd) [] (.null) 86 := ⟨rfl, rfl⟩
theorem jf_245_86 : jG m_R_empties 86 (.iaload) [] (.null) 87 := ⟨rfl, rfl⟩
theorem jf_245_87 : jG m_R_empties 87 (.istore_n 3) [] (.null) 88 := ⟨rfl, rfl⟩
theorem jf_245_88 : jG m_R_empties 88 (.aload_n 0) [] (.null) 89 := ⟨rfl, rfl⟩
theorem jf_245_89 : jG m_R_empties 89 (.iload_n 3) [] (.null) 90 := ⟨rfl, rfl⟩
theorem jf_245_90 : jG m_R_empties 90 (.invokevirtual 225) [6, 1, 9, m_R_clears] (.null) 93 := ⟨rfl, rfl⟩
theorem jf_245_93 : jG m_R_empties 93 (.iinc 2 1) [] (.null) 96 := ⟨rfl, rfl⟩
theorem jf_245_96 : jG m_R_empties 96 (.goto (-30)) [66] (.null) 99 := ⟨rfl, rfl⟩
theorem jf_245_99 : jG m_R_empties 99 (.return_) [] (.null) 100 := ⟨rfl, rfl⟩
theorem jf_246_0 : jG m_R_keep 0 (.aload_n 0) [] (.null) 1 := ⟨rfl, rfl⟩
theorem jf_246_1 : jG m_R_keep 1 (.iload_n 1) [] (.null) 2 := ⟨rfl, rfl⟩
theorem jf_246_2 : jG m_R_keep 2 (.invokevirtual 263) [6, 1, 9, m_R_isChain] (.null) 5 := ⟨rfl, rfl⟩
theorem jf_246_5 : jG m_R_keep 5 (.ifCond .eq 12) [17] (.null) 8 := ⟨rfl, rfl⟩
theorem jf_246_8 : jG m_R_keep 8 (.aload_n 0) [] (.null) 9 := ⟨rfl, rfl⟩
theorem jf_246_9 : jG m_R_keep 9 (.getfield 406) [9, 44] (.null) 12 := ⟨rfl, rfl⟩
theorem jf_246_12 : jG m_R_keep 12 (.bipush 8) [] (.null) 14 := ⟨rfl, rfl⟩
theorem jf_246_14 : jG m_R_keep 14 (.if_icmp .ne 5) [19] (.null) 17 := ⟨rfl, rfl⟩
theorem jf_246_17 : jG m_R_keep 17 (.iconst (-1)) [] (.null) 18 := ⟨rfl, rfl⟩
theorem jf_246_18 : jG m_R_keep 18 (.ireturn) [] (.null) 19 := ⟨rfl, rfl⟩
theorem jf_246_19 : jG m_R_keep 19 (.aload_n 0) [] (.null) 20 := ⟨rfl, rfl⟩
theorem jf_246_20 : jG m_R_keep 20 (.getfield 109) [9, 45] (.null) 23 := ⟨rfl, rfl⟩
theorem jf_246_23 : jG m_R_keep 23 (.aload_n 0) [] (.null) 24 := ⟨rfl, rfl⟩
theorem jf_246_24 : jG m_R_keep 24 (.getfield 406) [9, 44] (.null) 27 := ⟨rfl, rfl⟩
theorem jf_246_27 : jG m_R_keep 27 (.iload_n 1) [] (.null) 28 := ⟨rfl, rfl⟩
theorem jf_246_28 : jG m_R_keep 28 (.iastore) [] (.null) 29 := ⟨rfl, rfl⟩
theorem jf_246_29 : jG m_R_keep 29 (.aload_n 0) [] (.null) 30 := ⟨rfl, rfl⟩
theorem jf_246_30 : jG m_R_keep 30 (.iload_n 1) [] (.null) 31 := ⟨rfl, rfl⟩
theorem jf_246_31 : jG m_R_keep 31 (.invokevirtual 400) [6, 1, 9, m_R_trees] (.null) 34 := ⟨rfl, rfl⟩
theorem jf_246_34 : jG m_R_keep 34 (.iconst 0) [] (.null) 35 := ⟨rfl, rfl⟩
theorem jf_246_35 : jG m_R_keep 35 (.istore_n 2) [] (.null) 36 := ⟨rfl, rfl⟩
theorem jf_246_36 : jG m_R_keep 36 (.iload_n 2) [] (.null) 37 := ⟨rfl, rfl⟩
theorem jf_246_37 : jG m_R_keep 37 (.aload_n 0) [] (.null) 38 := ⟨rfl, rfl⟩
theorem jf_246_38 : jG m_R_keep 38 (.getfield 380) [9, 42] (.null) 41 := ⟨rfl, rfl⟩
theorem jf_246_41 : jG m_R_keep 41 (.if_icmp .ge 23) [64] (.null) 44 := ⟨rfl, rfl⟩
theorem jf_246_44 : jG m_R_keep 44 (.aload_n 0) [] (.null) 45 := ⟨rfl, rfl⟩
theorem jf_246_45 : jG m_R_keep 45 (.aload_n 0) [] (.null) 46 := ⟨rfl, rfl⟩
theorem jf_246_46 : jG m_R_keep 46 (.getfield 406) [9, 44] (.null) 49 := ⟨rfl, rfl⟩
theorem jf_246_49 : jG m_R_keep 49 (.aload_n 0) [] (.null) 50 := ⟨rfl, rfl⟩
theorem jf_246_50 : jG m_R_keep 50 (.getfield 106) [9, 43] (.null) 53 := ⟨rfl, rfl⟩
theorem jf_246_53 : jG m_R_keep 53 (.iload_n 2) [] (.null) 54 := ⟨rfl, rfl⟩
theorem jf_246_54 : jG m_R_keep 54 (.iaload) [] (.null) 55 := ⟨rfl, rfl⟩
theorem jf_246_55 : jG m_R_keep 55 (.invokevirtual 409) [6, 2, 9, m_R_keeps] (.null) 58 := ⟨rfl, rfl⟩
theorem jf_246_58 : jG m_R_keep 58 (.iinc 2 1) [] (.null) 61 := ⟨rfl, rfl⟩
theorem jf_246_61 : jG m_R_keep 61 (.goto (-25)) [36] (.null) 64 := ⟨rfl, rfl⟩
theorem jf_246_64 : jG m_R_keep 64 (.aload_n 0) [] (.null) 65 := ⟨rfl, rfl⟩
theorem jf_246_65 : jG m_R_keep 65 (.dup) [] (.null) 66 := ⟨rfl, rfl⟩
theorem jf_246_66 : jG m_R_keep 66 (.getfield 406) [9, 44] (.null) 69 := ⟨rfl, rfl⟩
theorem jf_246_69 : jG m_R_keep 69 (.iconst 1) [] (.null) 70 := ⟨rfl, rfl⟩
theorem jf_246_70 : jG m_R_keep 70 (.iadd) [] (.null) 71 := ⟨rfl, rfl⟩
theorem jf_246_71 : jG m_R_keep 71 (.putfield 406) [9, 44] (.null) 74 := ⟨rfl, rfl⟩
theorem jf_246_74 : jG m_R_keep 74 (.aload_n 0) [] (.null) 75 := ⟨rfl, rfl⟩
theorem jf_246_75 : jG m_R_keep 75 (.getfield 406) [9, 44] (.null) 78 := ⟨rfl, rfl⟩
theorem jf_246_78 : jG m_R_keep 78 (.iconst 1) [] (.null) 79 := ⟨rfl, rfl⟩
theorem jf_246_79 : jG m_R_keep 79 (.isub) [] (.null) 80 := ⟨rfl, rfl⟩
theorem jf_246_80 : jG m_R_keep 80 (.ireturn) [] (.null) 81 := ⟨rfl, rfl⟩
set_option maxRecDepth 100000 in
theorem jf_247_0 : jG m_R_keeps 0 (.aload_n 0) [] (.null) 1 := ⟨rfl, rfl⟩
set_option maxRecDepth 100000 in
theorem jf_247_1 : jG m_R_keeps 1 (.getfield 127) [9, 51] (.null) 4 := ⟨rfl, rfl⟩
set_option maxRecDepth 100000 in
theorem jf_247_4 : jG m_R_keeps 4 (.bipush 20) [] (.null) 6 := ⟨rfl, rfl⟩
set_option maxRecDepth 100000 in
theorem jf_247_6 : jG m_R_keeps 6 (.iload_n 1) [] (.null) 7 := ⟨rfl, rfl⟩
set_option maxRecDepth 100000 in
theorem jf_247_7 : jG m_R_keeps 7 (.imul) [] (.null) 8 := ⟨rfl, rfl⟩
set_option maxRecDepth 100000 in
theorem jf_247_8 : jG m_R_keeps 8 (.iload_n 2) [] (.null) 9 := ⟨rfl, rfl⟩
set_option maxRecDepth 100000 in
theorem jf_247_9 : jG m_R_keeps 9 (.iadd) [] (.null) 10 := ⟨rfl, rfl⟩
set_option maxRecDepth 100000 in
theorem jf_247_10 : jG m_R_keeps 10 (.aload_n 0) [] (.null) 11 := ⟨rfl, rfl⟩
set_option maxRecDepth 100000 in
theorem jf_247_11 : jG m_R_keeps 11 (.getfield 58) [9, 17] (.null) 14 := ⟨rfl, rfl⟩
set_option maxRecDepth 100000 in
theorem jf_247_14 : jG m_R_keeps 14 (.iload_n 2) [] (.null) 15 := ⟨rfl, rfl⟩
set_option maxRecDepth 100000 in
theorem jf_247_15 : jG m_R_keeps 15 (.iaload) [] (.null) 16 := ⟨rfl, rfl⟩
set_option maxRecDepth 100000 in
theorem jf_247_16 : jG m_R_keeps 16 (.iastore) [] (.null) 17 := ⟨rfl, rfl⟩
set_option maxRecDepth 100000 in
theorem jf_247_17 : jG m_R_keeps 17 (.aload_n 0) [] (.null) 18 := ⟨rfl, rfl⟩
set_option maxRecDepth 100000 in
theorem jf_247_18 : jG m_R_keeps 18 (.getfield 130) [9, 52] (.null) 21 := ⟨rfl, rfl⟩
set_option maxRecDepth 100000 in
theorem jf_247_21 : jG m_R_keeps 21 (.bipush 20) [] (.null) 23 := ⟨rfl, rfl⟩
set_option maxRecDepth 100000 in
theorem jf_247_23 : jG m_R_keeps 23 (.iload_n 1) [] (.null) 24 := ⟨rfl, rfl⟩
set_option maxRecDepth 100000 in
theorem jf_247_24 : jG m_R_keeps 24 (.imul) [] (.null) 25 := ⟨rfl, rfl⟩
set_option maxRecDepth 100000 in
theorem jf_247_25 : jG m_R_keeps 25 (.iload_n 2) [] (.null) 26 := ⟨rfl, rfl⟩
set_option maxRecDepth 100000 in
theorem jf_247_26 : jG m_R_keeps 26 (.iadd) [] (.null) 27 := ⟨rfl, rfl⟩
set_option maxRecDepth 100000 in
theorem jf_247_27 : jG m_R_keeps 27 (.aload_n 0) [] (.null) 28 := ⟨rfl, rfl⟩
set_option maxRecDepth 100000 in
theorem jf_247_28 : jG m_R_keeps 28 (.getfield 67) [9, 20] (.null) 31 := ⟨rfl, rfl⟩
set_option maxRecDepth 100000 in
theorem jf_247_31 : jG m_R_keeps 31 (.iload_n 2) [] (.null) 32 := ⟨rfl, rfl⟩
set_option maxRecDepth 100000 in
theorem jf_247_32 : jG m_R_keeps 32 (.iaload) [] (.null) 33 := ⟨rfl, rfl⟩
set_option maxRecDepth 100000 in
theorem jf_247_33 : jG m_R_keeps 33 (.iastore) [] (.null) 34 := ⟨rfl, rfl⟩
set_option maxRecDepth 100000 in
theorem jf_247_34 : jG m_R_keeps 34 (.iconst 3) [] (.null) 35 := ⟨rfl, rfl⟩
set_option maxRecDepth 100000 in
theorem jf_247_35 : jG m_R_keeps 35 (.iload_n 2) [] (.null) 36 := ⟨rfl, rfl⟩
set_option maxRecDepth 100000 in
theorem jf_247_36 : jG m_R_keeps 36 (.imul) [] (.null) 37 := ⟨rfl, rfl⟩
set_option maxRecDepth 100000 in
theorem jf_247_37 : jG m_R_keeps 37 (.istore_n 3) [] (.null) 38 := ⟨rfl, rfl⟩
set_option maxRecDepth 100000 in
theorem jf_247_38 : jG m_R_keeps 38 (.iload_n 3) [] (.null) 39 := ⟨rfl, rfl⟩
set_option maxRecDepth 100000 in
theorem jf_247_39 : jG m_R_keeps 39 (.iconst 3) [] (.null) 40 := ⟨rfl, rfl⟩
set_option maxRecDepth 100000 in
theorem jf_247_40 : jG m_R_keeps 40 (.iload_n 2) [] (.null) 41 := ⟨rfl, rfl⟩
set_option maxRecDepth 100000 in
theorem jf_247_41 : jG m_R_keeps 41 (.imul) [] (.null) 42 := ⟨rfl, rfl⟩
set_option maxRecDepth 100000 in
theorem jf_247_42 : jG m_R_keeps 42 (.aload_n 0) [] (.null) 43 := ⟨rfl, rfl⟩
set_option maxRecDepth 100000 in
theorem jf_247_43 : jG m_R_keeps 43 (.getfield 67) [9, 20] (.null) 46 := ⟨rfl, rfl⟩
set_option maxRecDepth 100000 in
theorem jf_247_46 : jG m_R_keeps 46 (.iload_n 2) [] (.null) 47 := ⟨rfl, rfl⟩
set_option maxRecDepth 100000 in
theorem jf_247_47 : jG m_R_keeps 47 (.iaload) [] (.null) 48 := ⟨rfl, rfl⟩
set_option maxRecDepth 100000 in
theorem jf_247_48 : jG m_R_keeps 48 (.iadd) [] (.null) 49 := ⟨rfl, rfl⟩
set_option maxRecDepth 100000 in
theorem jf_247_49 : jG m_R_keeps 49 (.if_icmp .ge 71) [120] (.null) 52 := ⟨rfl, rfl⟩
set_option maxRecDepth 100000 in
theorem jf_247_52 : jG m_R_keeps 52 (.bipush 60) [] (.null) 54 := ⟨rfl, rfl⟩
set_option maxRecDepth 100000 in
theorem jf_247_54 : jG m_R_keeps 54 (.iload_n 1) [] (.null) 55 := ⟨rfl, rfl⟩
set_option maxRecDepth 100000 in
theorem jf_247_55 : jG m_R_keeps 55 (.imul) [] (.null) 56 := ⟨rfl, rfl⟩
set_option maxRecDepth 100000 in
theorem jf_247_56 : jG m_R_keeps 56 (.iload_n 3) [] (.null) 57 := ⟨rfl, rfl⟩
set_option maxRecDepth 100000 in
theorem jf_247_57 : jG m_R_keeps 57 (.iadd) [] (.null) 58 := ⟨rfl, rfl⟩
set_option maxRecDepth 100000 in
theorem jf_247_58 : jG m_R_keeps 58 (.istore 4) [] (.null) 60 := ⟨rfl, rfl⟩
set_option maxRecDepth 100000 in
theorem jf_247_60 : jG m_R_keeps 60 (.iconst 0) [] (.null) 61 := ⟨rfl, rfl⟩
set_option maxRecDepth 100000 in
theorem jf_247_61 : jG m_R_keeps 61 (.istore 5) [] (.null) 63 := ⟨rfl, rfl⟩
set_option maxRecDepth 100000 in
theorem jf_247_63 : jG m_R_keeps 63 (.iload 5) [] (.null) 65 := ⟨rfl, rfl⟩
set_option maxRecDepth 100000 in
theorem jf_247_65 : jG m_R_keeps 65 (.bipush 64) [] (.null) 67 := ⟨rfl, rfl⟩
set_option maxRecDepth 100000 in
theorem jf_247_67 : jG m_R_keeps 67 (.if_icmp .ge 34) [101] (.null) 70 := ⟨rfl, rfl⟩
set_option maxRecDepth 100000 in
theorem jf_247_70 : jG m_R_keeps 70 (.aload_n 0) [] (.null) 71 := ⟨rfl, rfl⟩
set_option maxRecDepth 100000 in
theorem jf_247_71 : jG m_R_keeps 71 (.getfield 121) [9, 49] (.null) 74 := ⟨rfl, rfl⟩
set_option maxRecDepth 100000 in
theorem jf_247_74 : jG m_R_keeps 74 (.bipush 64) [] (.null) 76 := ⟨rfl, rfl⟩
set_option maxRecDepth 100000 in
theorem jf_247_76 : jG m_R_keeps 76 (.iload 4) [] (.null) 78 := ⟨rfl, rfl⟩
set_option maxRecDepth 100000 in
theorem jf_247_78 : jG m_R_keeps 78 (.imul) [] (.null) 79 := ⟨rfl, rfl⟩
set_option maxRecDepth 100000 in
theorem jf_247_79 : jG m_R_keeps 79 (.iload 5) [] (.null) 81 := ⟨rfl, rfl⟩
set_option maxRecDepth 100000 in
theorem jf_247_81 : jG m_R_keeps 81 (.iadd) [] (.null) 82 := ⟨rfl, rfl⟩
set_option maxRecDepth 100000 in
theorem jf_247_82 : jG m_R_keeps 82 (.aload_n 0) [] (.null) 83 := ⟨rfl, rfl⟩
set_option maxRecDepth 100000 in
theorem jf_247_83 : jG m_R_keeps 83 (.getfield 82) [9, 25] (.null) 86 := ⟨rfl, rfl⟩
set_option maxRecDepth 100000 in
theorem jf_247_86 : jG m_R_keeps 86 (.bipush 64) [] (.null) 88 := ⟨rfl, rfl⟩
set_option maxRecDepth 100000 in
theorem jf_247_88 : jG m_R_keeps 88 (.iload_n 3) [] (.null) 89 := ⟨rfl, rfl⟩
set_option maxRecDepth 100000 in
theorem jf_247_89 : jG m_R_keeps 89 (.imul) [] (.null) 90 := ⟨rfl, rfl⟩
set_option maxRecDepth 100000 in
theorem jf_247_90 : jG m_R_keeps 90 (.iload 5) [] (.null) 92 := ⟨rfl, rfl⟩
set_option maxRecDepth 100000 in
theorem jf_247_92 : jG m_R_keeps 92 (.iadd) [] (.null) 93 := ⟨rfl, rfl⟩
set_option maxRecDepth 100000 in
theorem jf_247_93 : jG m_R_keeps 93 (.daload) [] (.null) 94 := ⟨rfl, rfl⟩
set_option maxRecDepth 100000 in
theorem jf_247_94 : jG m_R_keeps 94 (.dastore) [] (.null) 95 := ⟨rfl, rfl⟩
set_option maxRecDepth 100000 in
theorem jf_247_95 : jG m_R_keeps 95 (.iinc 5 1) [] (.null) 98 := ⟨rfl, rfl⟩
set_option maxRecDepth 100000 in
theorem jf_247_98 : jG m_R_keeps 98 (.goto (-35)) [63] (.null) 101 := ⟨rfl, rfl⟩
set_option maxRecDepth 100000 in
theorem jf_247_101 : jG m_R_keeps 101 (.aload_n 0) [] (.null) 102 := ⟨rfl, rfl⟩
set_option maxRecDepth 100000 in
theorem jf_247_102 : jG m_R_keeps 102 (.getfield 124) [9, 50] (.null) 105 := ⟨rfl, rfl⟩
set_option maxRecDepth 100000 in
theorem jf_247_105 : jG m_R_keeps 105 (.iload 4) [] (.null) 107 := ⟨rfl, rfl⟩
set_option maxRecDepth 100000 in
theorem jf_247_107 : jG m_R_keeps 107 (.aload_n 0) [] (.null) 108 := ⟨rfl, rfl⟩
set_option maxRecDepth 100000 in
theorem jf_247_108 : jG m_R_keeps 108 (.getfield 85) [9, 26] (.null) 111 := ⟨rfl, rfl⟩
set_option maxRecDepth 100000 in
theorem jf_247_111 : jG m_R_keeps 111 (.iload_n 3) [] (.null) 112 := ⟨rfl, rfl⟩
set_option maxRecDepth 100000 in
theorem jf_247_112 : jG m_R_keeps 112 (.iaload) [] (.null) 113 := ⟨rfl, rfl⟩
set_option maxRecDepth 100000 in
theorem jf_247_113 : jG m_R_keeps 113 (.iastore) [] (.null) 114 := ⟨rfl, rfl⟩
set_option maxRecDepth 100000 in
theorem jf_247_114 : jG m_R_keeps 114 (.iinc 3 1) [] (.null) 117 := ⟨rfl, rfl⟩
set_option maxRecDepth 100000 in
theorem jf_247_117 : jG m_R_keeps 117 (.goto (-79)) [38] (.null) 120 := ⟨rfl, rfl⟩
set_option maxRecDepth 100000 in
theorem jf_247_120 : jG m_R_keeps 120 (.iconst 0) [] (.null) 121 := ⟨rfl, rfl⟩
set_option maxRecDepth 100000 in
theorem jf_247_121 : jG m_R_keeps 121 (.istore_n 3) [] (.null) 122 := ⟨rfl, rfl⟩
set_option maxRecDepth 100000 in
theorem jf_247_122 : jG m_R_keeps 122 (.iload_n 3) [] (.null) 123 := ⟨rfl, rfl⟩
set_option maxRecDepth 100000 in
theorem jf_247_123 : jG m_R_keeps 123 (.aload_n 0) [] (.null) 124 := ⟨rfl, rfl⟩
set_option maxRecDepth 100000 in
theorem jf_247_124 : jG m_R_keeps 124 (.getfield 58) [9, 17] (.null) 127 := ⟨rfl, rfl⟩
set_option maxRecDepth 100000 in
theorem jf_247_127 : jG m_R_keeps 127 (.iload_n 2) [] (.null) 128 := ⟨rfl, rfl⟩
set_option maxRecDepth 100000 in
theorem jf_247_128 : jG m_R_keeps 128 (.iaload) [] (.null) 129 := ⟨rfl, rfl⟩
set_option maxRecDepth 100000 in
theorem jf_247_129 : jG m_R_keeps 129 (.if_icmp .ge 115) [244] (.null) 132 := ⟨rfl, rfl⟩
set_option maxRecDepth 100000 in
theorem jf_247_132 : jG m_R_keeps 132 (.aload_n 0) [] (.null) 133 := ⟨rfl, rfl⟩
set_option maxRecDepth 100000 in
theorem jf_247_133 : jG m_R_keeps 133 (.getfield 61) [9, 18] (.null) 136 := ⟨rfl, rfl⟩
set_option maxRecDepth 100000 in
theorem jf_247_136 : jG m_R_keeps 136 (.bipush 10) [] (.null) 138 := ⟨rfl, rfl⟩
set_option maxRecDepth 100000 in
theorem jf_247_138 : jG m_R_keeps 138 (.iload_n 2) [] (.null) 139 := ⟨rfl, rfl⟩
set_option maxRecDepth 100000 in
theorem jf_247_139 : jG m_R_keeps 139 (.imul) [] (.null) 140 := ⟨rfl, rfl⟩
set_option maxRecDepth 100000 in
theorem jf_247_140 : jG m_R_keeps 140 (.iload_n 3) [] (.null) 141 := ⟨rfl, rfl⟩
set_option maxRecDepth 100000 in
theorem jf_247_141 : jG m_R_keeps 141 (.iadd) [] (.null) 142 := ⟨rfl, rfl⟩
set_option maxRecDepth 100000 in
theorem jf_247_142 : jG m_R_keeps 142 (.iaload) [] (.null) 143 := ⟨rfl, rfl⟩
set_option maxRecDepth 100000 in
theorem jf_247_143 : jG m_R_keeps 143 (.istore 4) [] (.null) 145 := ⟨rfl, rfl⟩
set_option maxRecDepth 100000 in
theorem jf_247_145 : jG m_R_keeps 145 (.bipush 60) [] (.null) 147 := ⟨rfl, rfl⟩
set_option maxRecDepth 100000 in
theorem jf_247_147 : jG m_R_keeps 147 (.iload_n 1) [] (.null) 148 := ⟨rfl, rfl⟩
set_option maxRecDepth 100000 in
theorem jf_247_148 : jG m_R_keeps 148 (.imul) [] (.null) 149 := ⟨rfl, rfl⟩
set_option maxRecDepth 100000 in
theorem jf_247_149 : jG m_R_keeps 149 (.iload 4) [] (.null) 151 := ⟨rfl, rfl⟩
set_option maxRecDepth 100000 in
theorem jf_247_151 : jG m_R_keeps 151 (.iadd) [] (.null) 152 := ⟨rfl, rfl⟩
set_option maxRecDepth 100000 in
theorem jf_247_152 : jG m_R_keeps 152 (.istore 5) [] (.null) 154 := ⟨rfl, rfl⟩
set_option maxRecDepth 100000 in
theorem jf_247_154 : jG m_R_keeps 154 (.iconst 0) [] (.null) 155 := ⟨rfl, rfl⟩
set_option maxRecDepth 100000 in
theorem jf_247_155 : jG m_R_keeps 155 (.istore 6) [] (.null) 157 := ⟨rfl, rfl⟩
set_option maxRecDepth 100000 in
theorem jf_247_157 : jG m_R_keeps 157 (.iload 6) [] (.null) 159 := ⟨rfl, rfl⟩
set_option maxRecDepth 100000 in
theorem jf_247_159 : jG m_R_keeps 159 (.bipush 64) [] (.null) 161 := ⟨rfl, rfl⟩
set_option maxRecDepth 100000 in
theorem jf_247_161 : jG m_R_keeps 161 (.if_icmp .ge 35) [196] (.null) 164 := ⟨rfl, rfl⟩
set_option maxRecDepth 100000 in
theorem jf_247_164 : jG m_R_keeps 164 (.aload_n 0) [] (.null) 165 := ⟨rfl, rfl⟩
set_option maxRecDepth 100000 in
theorem jf_247_165 : jG m_R_keeps 165 (.getfield 112) [9, 46] (.null) 168 := ⟨rfl, rfl⟩
set_option maxRecDepth 100000 in
theorem jf_247_168 : jG m_R_keeps 168 (.bipush 64) [] (.null) 170 := ⟨rfl, rfl⟩
set_option maxRecDepth 100000 in
theorem jf_247_170 : jG m_R_keeps 170 (.iload 5) [] (.null) 172 := ⟨rfl, rfl⟩
set_option maxRecDepth 100000 in
theorem jf_247_172 : jG m_R_keeps 172 (.imul) [] (.null) 173 := ⟨rfl, rfl⟩
set_option maxRecDepth 100000 in
theorem jf_247_173 : jG m_R_keeps 173 (.iload 6) [] (.null) 175 := ⟨rfl, rfl⟩
set_option maxRecDepth 100000 in
theorem jf_247_175 : jG m_R_keeps 175 (.iadd) [] (.null) 176 := ⟨rfl, rfl⟩
set_option maxRecDepth 100000 in
theorem jf_247_176 : jG m_R_keeps 176 (.aload_n 0) [] (.null) 177 := ⟨rfl, rfl⟩
set_option maxRecDepth 100000 in
theorem jf_247_177 : jG m_R_keeps 177 (.getfield 48) [9, 13] (.null) 180 := ⟨rfl, rfl⟩
set_option maxRecDepth 100000 in
theorem jf_247_180 : jG m_R_keeps 180 (.bipush 64) [] (.null) 182 := ⟨rfl, rfl⟩
set_option maxRecDepth 100000 in
theorem jf_247_182 : jG m_R_keeps 182 (.iload 4) [] (.null) 184 := ⟨rfl, rfl⟩
set_option maxRecDepth 100000 in
theorem jf_247_184 : jG m_R_keeps 184 (.imul) [] (.null) 185 := ⟨rfl, rfl⟩
set_option maxRecDepth 100000 in
theorem jf_247_185 : jG m_R_keeps 185 (.iload 6) [] (.null) 187 := ⟨rfl, rfl⟩
set_option maxRecDepth 100000 in
theorem jf_247_187 : jG m_R_keeps 187 (.iadd) [] (.null) 188 := ⟨rfl, rfl⟩
set_option maxRecDepth 100000 in
theorem jf_247_188 : jG m_R_keeps 188 (.daload) [] (.null) 189 := ⟨rfl, rfl⟩
set_option maxRecDepth 100000 in
theorem jf_247_189 : jG m_R_keeps 189 (.dastore) [] (.null) 190 := ⟨rfl, rfl⟩
set_option maxRecDepth 100000 in
theorem jf_247_190 : jG m_R_keeps 190 (.iinc 6 1) [] (.null) 193 := ⟨rfl, rfl⟩
set_option maxRecDepth 100000 in
theorem jf_247_193 : jG m_R_keeps 193 (.goto (-36)) [157] (.null) 196 := ⟨rfl, rfl⟩
set_option maxRecDepth 100000 in
theorem jf_247_196 : jG m_R_keeps 196 (.aload_n 0) [] (.null) 197 := ⟨rfl, rfl⟩
set_option maxRecDepth 100000 in
theorem jf_247_197 : jG m_R_keeps 197 (.getfield 115) [9, 47] (.null) 200 := ⟨rfl, rfl⟩
set_option maxRecDepth 100000 in
theorem jf_247_200 : jG m_R_keeps 200 (.iload 5) [] (.null) 202 := ⟨rfl, rfl⟩
set_option maxRecDepth 100000 in
theorem jf_247_202 : jG m_R_keeps 202 (.aload_n 0) [] (.null) 203 := ⟨rfl, rfl⟩
set_option maxRecDepth 100000 in
theorem jf_247_203 : jG m_R_keeps 203 (.getfield 51) [9, 14] (.null) 206 := ⟨rfl, rfl⟩
set_option maxRecDepth 100000 in
theorem jf_247_206 : jG m_R_keeps 206 (.iload 4) [] (.null) 208 := ⟨rfl, rfl⟩
set_option maxRecDepth 100000 in
theorem jf_247_208 : jG m_R_keeps 208 (.iaload) [] (.null) 209 := ⟨rfl, rfl⟩
set_option maxRecDepth 100000 in
theorem jf_247_209 : jG m_R_keeps 209 (.iastore) [] (.null) 210 := ⟨rfl, rfl⟩
set_option maxRecDepth 100000 in
theorem jf_247_210 : jG m_R_keeps 210 (.aload_n 0) [] (.null) 211 := ⟨rfl, rfl⟩
set_option maxRecDepth 100000 in
theorem jf_247_211 : jG m_R_keeps 211 (.getfield 118) [9, 48] (.null) 214 := ⟨rfl, rfl⟩
set_option maxRecDepth 100000 in
theorem jf_247_214 : jG m_R_keeps 214 (.iload 5) [] (.null) 216 := ⟨rfl, rfl⟩
set_option maxRecDepth 100000 in
theorem jf_247_216 : jG m_R_keeps 216 (.aload_n 0) [] (.null) 217 := ⟨rfl, rfl⟩
set_option maxRecDepth 100000 in
theorem jf_247_217 : jG m_R_keeps 217 (.getfield 54) [9, 15] (.null) 220 := ⟨rfl, rfl⟩
set_option maxRecDepth 100000 in
theorem jf_247_220 : jG m_R_keeps 220 (.iload 4) [] (.null) 222 := ⟨rfl, rfl⟩
set_option maxRecDepth 100000 in
theorem jf_247_222 : jG m_R_keeps 222 (.laload) [] (.null) 223 := ⟨rfl, rfl⟩
set_option maxRecDepth 100000 in
theorem jf_247_223 : jG m_R_keeps 223 (.lastore) [] (.null) 224 := ⟨rfl, rfl⟩
set_option maxRecDepth 100000 in
theorem jf_247_224 : jG m_R_keeps 224 (.aload_n 0) [] (.null) 225 := ⟨rfl, rfl⟩
set_option maxRecDepth 100000 in
theorem jf_247_225 : jG m_R_keeps 225 (.getfield 133) [9, 53] (.null) 228 := ⟨rfl, rfl⟩
set_option maxRecDepth 100000 in
theorem jf_247_228 : jG m_R_keeps 228 (.iload 5) [] (.null) 230 := ⟨rfl, rfl⟩
set_option maxRecDepth 100000 in
theorem jf_247_230 : jG m_R_keeps 230 (.aload_n 0) [] (.null) 231 := ⟨rfl, rfl⟩
set_option maxRecDepth 100000 in
theorem jf_247_231 : jG m_R_keeps 231 (.getfield 39) [9, 10] (.null) 234 := ⟨rfl, rfl⟩
set_option maxRecDepth 100000 in
theorem jf_247_234 : jG m_R_keeps 234 (.iload 4) [] (.null) 236 := ⟨rfl, rfl⟩
set_option maxRecDepth 100000 in
theorem jf_247_236 : jG m_R_keeps 236 (.iaload) [] (.null) 237 := ⟨rfl, rfl⟩
set_option maxRecDepth 100000 in
theorem jf_247_237 : jG m_R_keeps 237 (.iastore) [] (.null) 238 := ⟨rfl, rfl⟩
set_option maxRecDepth 100000 in
theorem jf_247_238 : jG m_R_keeps 238 (.iinc 3 1) [] (.null) 241 := ⟨rfl, rfl⟩
set_option maxRecDepth 100000 in
theorem jf_247_241 : jG m_R_keeps 241 (.goto (-119)) [122] (.null) 244 := ⟨rfl, rfl⟩
set_option maxRecDepth 100000 in
theorem jf_247_244 : jG m_R_keeps 244 (.return_) [] (.null) 245 := ⟨rfl, rfl⟩
theorem jf_248_0 : jG m_R_back 0 (.aload_n 0) [] (.null) 1 := ⟨rfl, rfl⟩
theorem jf_248_1 : jG m_R_back 1 (.iload_n 1) [] (.null) 2 := ⟨rfl, rfl⟩
theorem jf_248_2 : jG m_R_back 2 (.invokevirtual 416) [6, 1, 9, m_R_isKept] (.null) 5 := ⟨rfl, rfl⟩
theorem jf_248_5 : jG m_R_back 5 (.ifCond .ne 5) [10] (.null) 8 := ⟨rfl, rfl⟩
theorem jf_248_8 : jG m_R_back 8 (.iconst 0) [] (.null) 9 := ⟨rfl, rfl⟩
theorem jf_248_9 : jG m_R_back 9 (.ireturn) [] (.null) 10 := ⟨rfl, rfl⟩
theorem jf_248_10 : jG m_R_back 10 (.iconst 0) [] (.null) 11 := ⟨rfl, rfl⟩
theorem jf_248_11 : jG m_R_back 11 (.istore_n 2) [] (.null) 12 := ⟨rfl, rfl⟩
theorem jf_248_12 : jG m_R_back 12 (.iload_n 2) [] (.null) 13 := ⟨rfl, rfl⟩
theorem jf_248_13 : jG m_R_back 13 (.aload_n 0) [] (.null) 14 := ⟨rfl, rfl⟩
theorem jf_248_14 : jG m_R_back 14 (.getfield 380) [9, 42] (.null) 17 := ⟨rfl, rfl⟩
theorem jf_248_17 : jG m_R_back 17 (.if_icmp .ge 20) [37] (.null) 20 := ⟨rfl, rfl⟩
theorem jf_248_20 : jG m_R_back 20 (.aload_n 0) [] (.null) 21 := ⟨rfl, rfl⟩
theorem jf_248_21 : jG m_R_back 21 (.iload_n 1) [] (.null) 22 := ⟨rfl, rfl⟩
theorem jf_248_22 : jG m_R_back 22 (.aload_n 0) [] (.null) 23 := ⟨rfl, rfl⟩
theorem jf_248_23 : jG m_R_back 23 (.getfield 106) [9, 43] (.null) 26 := ⟨rfl, rfl⟩
theorem jf_248_26 : jG m_R_back 26 (.iload_n 2) [] (.null) 27 := ⟨rfl, rfl⟩
theorem jf_248_27 : jG m_R_back 27 (.iaload) [] (.null) 28 := ⟨rfl, rfl⟩
theorem jf_248_28 : jG m_R_back 28 (.invokevirtual 419) [6, 2, 9, m_R_backs] (.null) 31 := ⟨rfl, rfl⟩
theorem jf_248_31 : jG m_R_back 31 (.iinc 2 1) [] (.null) 34 := ⟨rfl, rfl⟩
theorem jf_248_34 : jG m_R_back 34 (.goto (-22)) [12] (.null) 37 := ⟨rfl, rfl⟩
theorem jf_248_37 : jG m_R_back 37 (.iconst 1) [] (.null) 38 := ⟨rfl, rfl⟩
theorem jf_248_38 : jG m_R_back 38 (.ireturn) [] (.null) 39 := ⟨rfl, rfl⟩
theorem jf_249_0 : jG m_R_isKept 0 (.iload_n 1) [] (.null) 1 := ⟨rfl, rfl⟩
theorem jf_249_1 : jG m_R_isKept 1 (.iconst 0) [] (.null) 2 := ⟨rfl, rfl⟩
theorem jf_249_2 : jG m_R_isKept 2 (.aload_n 0) [] (.null) 3 := ⟨rfl, rfl⟩
theorem jf_249_3 : jG m_R_isKept 3 (.getfield 406) [9, 44] (.null) 6 := ⟨rfl, rfl⟩
theorem jf_249_6 : jG m_R_isKept 6 (.iconst 1) [] (.null) 7 := ⟨rfl, rfl⟩
theorem jf_249_7 : jG m_R_isKept 7 (.isub) [] (.null) 8 := ⟨rfl, rfl⟩
theorem jf_249_8 : jG m_R_isKept 8 (.invokestatic 170) [3, m_R_in, 3] (.null) 11 := ⟨rfl, rfl⟩
theorem jf_249_11 : jG m_R_isKept 11 (.ifCond .ne 5) [16] (.null) 14 := ⟨rfl, rfl⟩
theorem jf_249_14 : jG m_R_isKept 14 (.iconst 0) [] (.null) 15 := ⟨rfl, rfl⟩
theorem jf_249_15 : jG m_R_isKept 15 (.ireturn) [] (.null) 16 := ⟨rfl, rfl⟩
theorem jf_249_16 : jG m_R_isKept 16 (.aload_n 0) [] (.null) 17 := ⟨rfl, rfl⟩
theorem jf_249_17 : jG m_R_isKept 17 (.aload_n 0) [] (.null) 18 := ⟨rfl, rfl⟩
theorem jf_249_18 : jG m_R_isKept 18 (.getfield 109) [9, 45] (.null) 21 := ⟨rfl, rfl⟩
theorem jf_249_21 : jG m_R_isKept 21 (.iload_n 1) [] (.null) 22 := ⟨rfl, rfl⟩
theorem jf_249_22 : jG m_R_isKept 22 (.iaload) [] (.null) 23 := ⟨rfl, rfl⟩
theorem jf_249_23 : jG m_R_isKept 23 (.invokevirtual 400) [6, 1, 9, m_R_trees] (.null) 26 := ⟨rfl, rfl⟩
theorem jf_249_26 : jG m_R_isKept 26 (.iconst 0) [] (.null) 27 := ⟨rfl, rfl⟩
theorem jf_249_27 : jG m_R_isKept 27 (.istore_n 2) [] (.null) 28 := ⟨rfl, rfl⟩
theorem jf_249_28 : jG m_R_isKept 28 (.iload_n 2) [] (.null) 29 := ⟨rfl, rfl⟩
theorem jf_249_29 : jG m_R_isKept 29 (.aload_n 0) [] (.null) 30 := ⟨rfl, rfl⟩
theorem jf_249_30 : jG m_R_isKept 30 (.getfield 380) [9, 42] (.null) 33 := ⟨rfl, rfl⟩
theorem jf_249_33 : jG m_R_isKept 33 (.if_icmp .ge 25) [58] (.null) 36 := ⟨rfl, rfl⟩
theorem jf_249_36 : jG m_R_isKept 36 (.aload_n 0) [] (.null) 37 := ⟨rfl, rfl⟩
theorem jf_249_37 : jG m_R_isKept 37 (.iload_n 1) [] (.null) 38 := ⟨rfl, rfl⟩
theorem jf_249_38 : jG m_R_isKept 38 (.aload_n 0) [] (.null) 39 := ⟨rfl, rfl⟩
theorem jf_249_39 : jG m_R_isKept 39 (.getfield 106) [9, 43] (.null) 42 := ⟨rfl, rfl⟩
theorem jf_249_42 : jG m_R_isKept 42 (.iload_n 2) [] (.null) 43 := ⟨rfl, rfl⟩
theorem jf_249_43 : jG m_R_isKept 43 (.iaload) [] (.null) 44 := ⟨rfl, rfl⟩
theorem jf_249_44 : jG m_R_isKept 44 (.invokevirtual 413) [6, 2, 9, m_R_fits] (.null) 47 := ⟨rfl, rfl⟩
theorem jf_249_47 : jG m_R_isKept 47 (.ifCond .ne 5) [52] (.null) 50 := ⟨rfl, rfl⟩
theorem jf_249_50 : jG m_R_isKept 50 (.iconst 0) [] (.null) 51 := ⟨rfl, rfl⟩
theorem jf_249_51 : jG m_R_isKept 51 (.ireturn) [] (.null) 52 := ⟨rfl, rfl⟩
theorem jf_249_52 : jG m_R_isKept 52 (.iinc 2 1) [] (.null) 55 := ⟨rfl, rfl⟩
theorem jf_249_55 : jG m_R_isKept 55 (.goto (-27)) [28] (.null) 58 := ⟨rfl, rfl⟩
theorem jf_249_58 : jG m_R_isKept 58 (.iconst 1) [] (.null) 59 := ⟨rfl, rfl⟩
theorem jf_249_59 : jG m_R_isKept 59 (.ireturn) [] (.null) 60 := ⟨rfl, rfl⟩
theorem jf_250_0 : jG m_R_fits 0 (.aload_n 0) [] (.null) 1 := ⟨rfl, rfl⟩
theorem jf_250_1 : jG m_R_fits 1 (.getfield 127) [9, 51] (.null) 4 := ⟨rfl, rfl⟩
theorem jf_250_4 : jG m_R_fits 4 (.bipush 20) [] (.null) 6 := ⟨rfl, rfl⟩
theorem jf_250_6 : jG m_R_fits 6 (.iload_n 1) [] (.null) 7 := ⟨rfl, rfl⟩
theorem jf_250_7 : jG m_R_fits 7 (.imul) [] (.null) 8 := ⟨rfl, rfl⟩
theorem jf_250_8 : jG m_R_fits 8 (.iload_n 2) [] (.null) 9 := ⟨rfl, rfl⟩
theorem jf_250_9 : jG m_R_fits 9 (.iadd) [] (.null) 10 := ⟨rfl, rfl⟩
theorem jf_250_10 : jG m_R_fits 10 (.iaload) [] (.null) 11 := ⟨rfl, rfl⟩
theorem jf_250_11 : jG m_R_fits 11 (.aload_n 0) [] (.null) 12 := ⟨rfl, rfl⟩
theorem jf_250_12 : jG m_R_fits 12 (.getfield 58) [9, 17] (.null) 15 := ⟨rfl, rfl⟩
theorem jf_250_15 : jG m_R_fits 15 (.iload_n 2) [] (.null) 16 := ⟨rfl, rfl⟩
theorem jf_250_16 : jG m_R_fits 16 (.iaload) [] (.null) 17 := ⟨rfl, rfl⟩
theorem jf_250_17 : jG m_R_fits 17 (.if_icmp .ne 23) [40] (.null) 20 := ⟨rfl, rfl⟩
theorem jf_250_20 : jG m_R_fits 20 (.aload_n 0) [] (.null) 21 := ⟨rfl, rfl⟩
theorem jf_250_21 : jG m_R_fits 21 (.getfield 130) [9, 52] (.null) 24 := ⟨rfl, rfl⟩
theorem jf_250_24 : jG m_R_fits 24 (.bipush 20) [] (.null) 26 := ⟨rfl, rfl⟩
theorem jf_250_26 : jG m_R_fits 26 (.iload_n 1) [] (.null) 27 := ⟨rfl, rfl⟩
theorem jf_250_27 : jG m_R_fits 27 (.imul) [] (.null) 28 := ⟨rfl, rfl⟩
theorem jf_250_28 : jG m_R_fits 28 (.iload_n 2) [] (.null) 29 := ⟨rfl, rfl⟩
theorem jf_250_29 : jG m_R_fits 29 (.iadd) [] (.null) 30 := ⟨rfl, rfl⟩
theorem jf_250_30 : jG m_R_fits 30 (.iaload) [] (.null) 31 := ⟨rfl, rfl⟩
theorem jf_250_31 : jG m_R_fits 31 (.aload_n 0) [] (.null) 32 := ⟨rfl, rfl⟩
theorem jf_250_32 : jG m_R_fits 32 (.getfield 67) [9, 20] (.null) 35 := ⟨rfl, rfl⟩
theorem jf_250_35 : jG m_R_fits 35 (.iload_n 2) [] (.null) 36 := ⟨rfl, rfl⟩
theorem jf_250_36 : jG m_R_fits 36 (.iaload) [] (.null) 37 := ⟨rfl, rfl⟩
theorem jf_250_37 : jG m_R_fits 37 (.if_icmp .eq 5) [42] (.null) 40 := ⟨rfl, rfl⟩
theorem jf_250_40 : jG m_R_fits 40 (.iconst 0) [] (.null) 41 := ⟨rfl, rfl⟩
theorem jf_250_41 : jG m_R_fits 41 (.ireturn) [] (.null) 42 := ⟨rfl, rfl⟩
theorem jf_250_42 : jG m_R_fits 42 (.iconst 0) [] (.null) 43 := ⟨rfl, rfl⟩
theorem jf_250_43 : jG m_R_fits 43 (.istore_n 3) [] (.null) 44 := ⟨rfl, rfl⟩
theorem jf_250_44 : jG m_R_fits 44 (.iload_n 3) [] (.null) 45 := ⟨rfl, rfl⟩
theorem jf_250_45 : jG m_R_fits 45 (.aload_n 0) [] (.null) 46 := ⟨rfl, rfl⟩
theorem jf_250_46 : jG m_R_fits 46 (.getfield 58) [9, 17] (.null) 49 := ⟨rfl, rfl⟩
theorem jf_250_49 : jG m_R_fits 49 (.iload_n 2) [] (.null) 50 := ⟨rfl, rfl⟩
theorem jf_250_50 : jG m_R_fits 50 (.iaload) [] (.null) 51 := ⟨rfl, rfl⟩
theorem jf_250_51 : jG m_R_fits 51 (.if_icmp .ge 46) [97] (.null) 54 := ⟨rfl, rfl⟩
theorem jf_250_54 : jG m_R_fits 54 (.aload_n 0) [] (.null) 55 := ⟨rfl, rfl⟩
theorem jf_250_55 : jG m_R_fits 55 (.getfield 61) [9, 18] (.null) 58 := ⟨rfl, rfl⟩
theorem jf_250_58 : jG m_R_fits 58 (.bipush 10) [] (.null) 60 := ⟨rfl, rfl⟩
theorem jf_250_60 : jG m_R_fits 60 (.iload_n 2) [] (.null) 61 := ⟨rfl, rfl⟩
theorem jf_250_61 : jG m_R_fits 61 (.imul) [] (.null) 62 := ⟨rfl, rfl⟩
theorem jf_250_62 : jG m_R_fits 62 (.iload_n 3) [] (.null) 63 := ⟨rfl, rfl⟩
theorem jf_250_63 : jG m_R_fits 63 (.iadd) [] (.null) 64 := ⟨rfl, rfl⟩
theorem jf_250_64 : jG m_R_fits 64 (.iaload) [] (.null) 65 := ⟨rfl, rfl⟩
theorem jf_250_65 : jG m_R_fits 65 (.istore 4) [] (.null) 67 := ⟨rfl, rfl⟩
theorem jf_250_67 : jG m_R_fits 67 (.aload_n 0) [] (.null) 68 := ⟨rfl, rfl⟩
theorem jf_250_68 : jG m_R_fits 68 (.getfield 133) [9, 53] (.null) 71 := ⟨rfl, rfl⟩
theorem jf_250_71 : jG m_R_fits 71 (.bipush 60) [] (.null) 73 := ⟨rfl, rfl⟩
theorem jf_250_73 : jG m_R_fits 73 (.iload_n 1) [] (.null) 74 := ⟨rfl, rfl⟩
theorem jf_250_74 : jG m_R_fits 74 (.imul) [] (.null) 75 := ⟨rfl, rfl⟩
theorem jf_250_75 : jG m_R_fits 75 (.iload 4) [] (.null) 77 := ⟨rfl, rfl⟩
theorem jf_250_77 : jG m_R_fits 77 (.iadd) [] (.null) 78 := ⟨rfl, rfl⟩
theorem jf_250_78 : jG m_R_fits 78 (.iaload) [] (.null) 79 := ⟨rfl, rfl⟩
theorem jf_250_79 : jG m_R_fits 79 (.aload_n 0) [] (.null) 80 := ⟨rfl, rfl⟩
theorem jf_250_80 : jG m_R_fits 80 (.getfield 39) [9, 10] (.null) 83 := ⟨rfl, rfl⟩
theorem jf_250_83 : jG m_R_fits 83 (.iload 4) [] (.null) 85 := ⟨rfl, rfl⟩
theorem jf_250_85 : jG m_R_fits 85 (.iaload) [] (.null) 86 := ⟨rfl, rfl⟩
theorem jf_250_86 : jG m_R_fits 86 (.if_icmp .eq 5) [91] (.null) 89 := ⟨rfl, rfl⟩
theorem jf_250_89 : jG m_R_fits 89 (.iconst 0) [] (.null) 90 := ⟨rfl, rfl⟩
theorem jf_250_90 : jG m_R_fits 90 (.ireturn) [] (.null) 91 := ⟨rfl, rfl⟩
theorem jf_250_91 : jG m_R_fits 91 (.iinc 3 1) [] (.null) 94 := ⟨rfl, rfl⟩
theorem jf_250_94 : jG m_R_fits 94 (.goto (-50)) [44] (.null) 97 := ⟨rfl, rfl⟩
theorem jf_250_97 : jG m_R_fits 97 (.iconst 1) [] (.null) 98 := ⟨rfl, rfl⟩
theorem jf_250_98 : jG m_R_fits 98 (.ireturn) [] (.null) 99 := ⟨rfl, rfl⟩
set_option maxRecDepth 100000 in
theorem jf_251_0 : jG m_R_backs 0 (.iconst 3) [] (.null) 1 := ⟨rfl, rfl⟩
set_option maxRecDepth 100000 in
theorem jf_251_1 : jG m_R_backs 1 (.iload_n 2) [] (.null) 2 := ⟨rfl, rfl⟩
set_option maxRecDepth 100000 in
theorem jf_251_2 : jG m_R_backs 2 (.imul) [] (.null) 3 := ⟨rfl, rfl⟩
set_option maxRecDepth 100000 in
theorem jf_251_3 : jG m_R_backs 3 (.istore_n 3) [] (.null) 4 := ⟨rfl, rfl⟩
set_option maxRecDepth 100000 in
theorem jf_251_4 : jG m_R_backs 4 (.iload_n 3) [] (.null) 5 := ⟨rfl, rfl⟩
set_option maxRecDepth 100000 in
theorem jf_251_5 : jG m_R_backs 5 (.iconst 3) [] (.null) 6 := ⟨rfl, rfl⟩
set_option maxRecDepth 100000 in
theorem jf_251_6 : jG m_R_backs 6 (.iload_n 2) [] (.null) 7 := ⟨rfl, rfl⟩
set_option maxRecDepth 100000 in
theorem jf_251_7 : jG m_R_backs 7 (.imul) [] (.null) 8 := ⟨rfl, rfl⟩
set_option maxRecDepth 100000 in
theorem jf_251_8 : jG m_R_backs 8 (.aload_n 0) [] (.null) 9 := ⟨rfl, rfl⟩
set_option maxRecDepth 100000 in
theorem jf_251_9 : jG m_R_backs 9 (.getfield 67) [9, 20] (.null) 12 := ⟨rfl, rfl⟩
set_option maxRecDepth 100000 in
theorem jf_251_12 : jG m_R_backs 12 (.iload_n 2) [] (.null) 13 := ⟨rfl, rfl⟩
set_option maxRecDepth 100000 in
theorem jf_251_13 : jG m_R_backs 13 (.iaload) [] (.null) 14 := ⟨rfl, rfl⟩
set_option maxRecDepth 100000 in
theorem jf_251_14 : jG m_R_backs 14 (.iadd) [] (.null) 15 := ⟨rfl, rfl⟩
set_option maxRecDepth 100000 in
theorem jf_251_15 : jG m_R_backs 15 (.if_icmp .ge 71) [86] (.null) 18 := ⟨rfl, rfl⟩
set_option maxRecDepth 100000 in
theorem jf_251_18 : jG m_R_backs 18 (.bipush 60) [] (.null) 20 := ⟨rfl, rfl⟩
set_option maxRecDepth 100000 in
theorem jf_251_20 : jG m_R_backs 20 (.iload_n 1) [] (.null) 21 := ⟨rfl, rfl⟩
set_option maxRecDepth 100000 in
theorem jf_251_21 : jG m_R_backs 21 (.imul) [] (.null) 22 := ⟨rfl, rfl⟩
set_option maxRecDepth 100000 in
theorem jf_251_22 : jG m_R_backs 22 (.iload_n 3) [] (.null) 23 := ⟨rfl, rfl⟩
set_option maxRecDepth 100000 in
theorem jf_251_23 : jG m_R_backs 23 (.iadd) [] (.null) 24 := ⟨rfl, rfl⟩
set_option maxRecDepth 100000 in
theorem jf_251_24 : jG m_R_backs 24 (.istore 4) [] (.null) 26 := ⟨rfl, rfl⟩
set_option maxRecDepth 100000 in
theorem jf_251_26 : jG m_R_backs 26 (.iconst 0) [] (.null) 27 := ⟨rfl, rfl⟩
set_option maxRecDepth 100000 in
theorem jf_251_27 : jG m_R_backs 27 (.istore 5) [] (.null) 29 := ⟨rfl, rfl⟩
set_option maxRecDepth 100000 in
theorem jf_251_29 : jG m_R_backs 29 (.iload 5) [] (.null) 31 := ⟨rfl, rfl⟩
set_option maxRecDepth 100000 in
theorem jf_251_31 : jG m_R_backs 31 (.bipush 64) [] (.null) 33 := ⟨rfl, rfl⟩
set_option maxRecDepth 100000 in
theorem jf_251_33 : jG m_R_backs 33 (.if_icmp .ge 34) [67] (.null) 36 := ⟨rfl, rfl⟩
set_option maxRecDepth 100000 in
theorem jf_251_36 : jG m_R_backs 36 (.aload_n 0) [] (.null) 37 := ⟨rfl, rfl⟩
set_option maxRecDepth 100000 in
theorem jf_251_37 : jG m_R_backs 37 (.getfield 82) [9, 25] (.null) 40 := ⟨rfl, rfl⟩
set_option maxRecDepth 100000 in
theorem jf_251_40 : jG m_R_backs 40 (.bipush 64) [] (.null) 42 := ⟨rfl, rfl⟩
set_option maxRecDepth 100000 in
theorem jf_251_42 : jG m_R_backs 42 (.iload_n 3) [] (.null) 43 := ⟨rfl, rfl⟩
set_option maxRecDepth 100000 in
theorem jf_251_43 : jG m_R_backs 43 (.imul) [] (.null) 44 := ⟨rfl, rfl⟩
set_option maxRecDepth 100000 in
theorem jf_251_44 : jG m_R_backs 44 (.iload 5) [] (.null) 46 := ⟨rfl, rfl⟩
set_option maxRecDepth 100000 in
theorem jf_251_46 : jG m_R_backs 46 (.iadd) [] (.null) 47 := ⟨rfl, rfl⟩
set_option maxRecDepth 100000 in
theorem jf_251_47 : jG m_R_backs 47 (.aload_n 0) [] (.null) 48 := ⟨rfl, rfl⟩
set_option maxRecDepth 100000 in
theorem jf_251_48 : jG m_R_backs 48 (.getfield 121) [9, 49] (.null) 51 := ⟨rfl, rfl⟩
set_option maxRecDepth 100000 in
theorem jf_251_51 : jG m_R_backs 51 (.bipush 64) [] (.null) 53 := ⟨rfl, rfl⟩
set_option maxRecDepth 100000 in
theorem jf_251_53 : jG m_R_backs 53 (.iload 4) [] (.null) 55 := ⟨rfl, rfl⟩
set_option maxRecDepth 100000 in
theorem jf_251_55 : jG m_R_backs 55 (.imul) [] (.null) 56 := ⟨rfl, rfl⟩
set_option maxRecDepth 100000 in
theorem jf_251_56 : jG m_R_backs 56 (.iload 5) [] (.null) 58 := ⟨rfl, rfl⟩
set_option maxRecDepth 100000 in
theorem jf_251_58 : jG m_R_backs 58 (.iadd) [] (.null) 59 := ⟨rfl, rfl⟩
set_option maxRecDepth 100000 in
theorem jf_251_59 : jG m_R_backs 59 (.daload) [] (.null) 60 := ⟨rfl, rfl⟩
set_option maxRecDepth 100000 in
theorem jf_251_60 : jG m_R_backs 60 (.dastore) [] (.null) 61 := ⟨rfl, rfl⟩
set_option maxRecDepth 100000 in
theorem jf_251_61 : jG m_R_backs 61 (.iinc 5 1) [] (.null) 64 := ⟨rfl, rfl⟩
set_option maxRecDepth 100000 in
theorem jf_251_64 : jG m_R_backs 64 (.goto (-35)) [29] (.null) 67 := ⟨rfl, rfl⟩
set_option maxRecDepth 100000 in
theorem jf_251_67 : jG m_R_backs 67 (.aload_n 0) [] (.null) 68 := ⟨rfl, rfl⟩
set_option maxRecDepth 100000 in
theorem jf_251_68 : jG m_R_backs 68 (.getfield 85) [9, 26] (.null) 71 := ⟨rfl, rfl⟩
set_option maxRecDepth 100000 in
theorem jf_251_71 : jG m_R_backs 71 (.iload_n 3) [] (.null) 72 := ⟨rfl, rfl⟩
set_option maxRecDepth 100000 in
theorem jf_251_72 : jG m_R_backs 72 (.aload_n 0) [] (.null) 73 := ⟨rfl, rfl⟩
set_option maxRecDepth 100000 in
theorem jf_251_73 : jG m_R_backs 73 (.getfield 124) [9, 50] (.null) 76 := ⟨rfl, rfl⟩
set_option maxRecDepth 100000 in
theorem jf_251_76 : jG m_R_backs 76 (.iload 4) [] (.null) 78 := ⟨rfl, rfl⟩
set_option maxRecDepth 100000 in
theorem jf_251_78 : jG m_R_backs 78 (.iaload) [] (.null) 79 := ⟨rfl, rfl⟩
set_option maxRecDepth 100000 in
theorem jf_251_79 : jG m_R_backs 79 (.iastore) [] (.null) 80 := ⟨rfl, rfl⟩
set_option maxRecDepth 100000 in
theorem jf_251_80 : jG m_R_backs 80 (.iinc 3 1) [] (.null) 83 := ⟨rfl, rfl⟩
set_option maxRecDepth 100000 in
theorem jf_251_83 : jG m_R_backs 83 (.goto (-79)) [4] (.null) 86 := ⟨rfl, rfl⟩
set_option maxRecDepth 100000 in
theorem jf_251_86 : jG m_R_backs 86 (.iconst 0) [] (.null) 87 := ⟨rfl, rfl⟩
set_option maxRecDepth 100000 in
theorem jf_251_87 : jG m_R_backs 87 (.istore_n 3) [] (.null) 88 := ⟨rfl, rfl⟩
set_option maxRecDepth 100000 in
theorem jf_251_88 : jG m_R_backs 88 (.iload_n 3) [] (.null) 89 := ⟨rfl, rfl⟩
set_option maxRecDepth 100000 in
theorem jf_251_89 : jG m_R_backs 89 (.aload_n 0) [] (.null) 90 := ⟨rfl, rfl⟩
set_option maxRecDepth 100000 in
theorem jf_251_90 : jG m_R_backs 90 (.getfield 58) [9, 17] (.null) 93 := ⟨rfl, rfl⟩
set_option maxRecDepth 100000 in
theorem jf_251_93 : jG m_R_backs 93 (.iload_n 2) [] (.null) 94 := ⟨rfl, rfl⟩
set_option maxRecDepth 100000 in
theorem jf_251_94 : jG m_R_backs 94 (.iaload) [] (.null) 95 := ⟨rfl, rfl⟩
set_option maxRecDepth 100000 in
theorem jf_251_95 : jG m_R_backs 95 (.if_icmp .ge 101) [196] (.null) 98 := ⟨rfl, rfl⟩
set_option maxRecDepth 100000 in
theorem jf_251_98 : jG m_R_backs 98 (.aload_n 0) [] (.null) 99 := ⟨rfl, rfl⟩
set_option maxRecDepth 100000 in
theorem jf_251_99 : jG m_R_backs 99 (.getfield 61) [9, 18] (.null) 102 := ⟨rfl, rfl⟩
set_option maxRecDepth 100000 in
theorem jf_251_102 : jG m_R_backs 102 (.bipush 10) [] (.null) 104 := ⟨rfl, rfl⟩
set_option maxRecDepth 100000 in
theorem jf_251_104 : jG m_R_backs 104 (.iload_n 2) [] (.null) 105 := ⟨rfl, rfl⟩
set_option maxRecDepth 100000 in
theorem jf_251_105 : jG m_R_backs 105 (.imul) [] (.null) 106 := ⟨rfl, rfl⟩
set_option maxRecDepth 100000 in
theorem jf_251_106 : jG m_R_backs 106 (.iload_n 3) [] (.null) 107 := ⟨rfl, rfl⟩
set_option maxRecDepth 100000 in
theorem jf_251_107 : jG m_R_backs 107 (.iadd) [] (.null) 108 := ⟨rfl, rfl⟩
set_option maxRecDepth 100000 in
theorem jf_251_108 : jG m_R_backs 108 (.iaload) [] (.null) 109 := ⟨rfl, rfl⟩
set_option maxRecDepth 100000 in
theorem jf_251_109 : jG m_R_backs 109 (.istore 4) [] (.null) 111 := ⟨rfl, rfl⟩
set_option maxRecDepth 100000 in
theorem jf_251_111 : jG m_R_backs 111 (.bipush 60) [] (.null) 113 := ⟨rfl, rfl⟩
set_option maxRecDepth 100000 in
theorem jf_251_113 : jG m_R_backs 113 (.iload_n 1) [] (.null) 114 := ⟨rfl, rfl⟩
set_option maxRecDepth 100000 in
theorem jf_251_114 : jG m_R_backs 114 (.imul) [] (.null) 115 := ⟨rfl, rfl⟩
set_option maxRecDepth 100000 in
theorem jf_251_115 : jG m_R_backs 115 (.iload 4) [] (.null) 117 := ⟨rfl, rfl⟩
set_option maxRecDepth 100000 in
theorem jf_251_117 : jG m_R_backs 117 (.iadd) [] (.null) 118 := ⟨rfl, rfl⟩
set_option maxRecDepth 100000 in
theorem jf_251_118 : jG m_R_backs 118 (.istore 5) [] (.null) 120 := ⟨rfl, rfl⟩
set_option maxRecDepth 100000 in
theorem jf_251_120 : jG m_R_backs 120 (.iconst 0) [] (.null) 121 := ⟨rfl, rfl⟩
set_option maxRecDepth 100000 in
theorem jf_251_121 : jG m_R_backs 121 (.istore 6) [] (.null) 123 := ⟨rfl, rfl⟩
set_option maxRecDepth 100000 in
theorem jf_251_123 : jG m_R_backs 123 (.iload 6) [] (.null) 125 := ⟨rfl, rfl⟩
set_option maxRecDepth 100000 in
theorem jf_251_125 : jG m_R_backs 125 (.bipush 64) [] (.null) 127 := ⟨rfl, rfl⟩
set_option maxRecDepth 100000 in
theorem jf_251_127 : jG m_R_backs 127 (.if_icmp .ge 35) [162] (.null) 130 := ⟨rfl, rfl⟩
set_option maxRecDepth 100000 in
theorem jf_251_130 : jG m_R_backs 130 (.aload_n 0) [] (.null) 131 := ⟨rfl, rfl⟩
set_option maxRecDepth 100000 in
theorem jf_251_131 : jG m_R_backs 131 (.getfield 48) [9, 13] (.null) 134 := ⟨rfl, rfl⟩
set_option maxRecDepth 100000 in
theorem jf_251_134 : jG m_R_backs 134 (.bipush 64) [] (.null) 136 := ⟨rfl, rfl⟩
set_option maxRecDepth 100000 in
theorem jf_251_136 : jG m_R_backs 136 (.iload 4) [] (.null) 138 := ⟨rfl, rfl⟩
set_option maxRecDepth 100000 in
theorem jf_251_138 : jG m_R_backs 138 (.imul) [] (.null) 139 := ⟨rfl, rfl⟩
set_option maxRecDepth 100000 in
theorem jf_251_139 : jG m_R_backs 139 (.iload 6) [] (.null) 141 := ⟨rfl, rfl⟩
set_option maxRecDepth 100000 in
theorem jf_251_141 : jG m_R_backs 141 (.iadd) [] (.null) 142 := ⟨rfl, rfl⟩
set_option maxRecDepth 100000 in
theorem jf_251_142 : jG m_R_backs 142 (.aload_n 0) [] (.null) 143 := ⟨rfl, rfl⟩
set_option maxRecDepth 100000 in
theorem jf_251_143 : jG m_R_backs 143 (.getfield 112) [9, 46] (.null) 146 := ⟨rfl, rfl⟩
set_option maxRecDepth 100000 in
theorem jf_251_146 : jG m_R_backs 146 (.bipush 64) [] (.null) 148 := ⟨rfl, rfl⟩
set_option maxRecDepth 100000 in
theorem jf_251_148 : jG m_R_backs 148 (.iload 5) [] (.null) 150 := ⟨rfl, rfl⟩
set_option maxRecDepth 100000 in
theorem jf_251_150 : jG m_R_backs 150 (.imul) [] (.null) 151 := ⟨rfl, rfl⟩
set_option maxRecDepth 100000 in
theorem jf_251_151 : jG m_R_backs 151 (.iload 6) [] (.null) 153 := ⟨rfl, rfl⟩
set_option maxRecDepth 100000 in
theorem jf_251_153 : jG m_R_backs 153 (.iadd) [] (.null) 154 := ⟨rfl, rfl⟩
set_option maxRecDepth 100000 in
theorem jf_251_154 : jG m_R_backs 154 (.daload) [] (.null) 155 := ⟨rfl, rfl⟩
set_option maxRecDepth 100000 in
theorem jf_251_155 : jG m_R_backs 155 (.dastore) [] (.null) 156 := ⟨rfl, rfl⟩
set_option maxRecDepth 100000 in
theorem jf_251_156 : jG m_R_backs 156 (.iinc 6 1) [] (.null) 159 := ⟨rfl, rfl⟩
set_option maxRecDepth 100000 in
theorem jf_251_159 : jG m_R_backs 159 (.goto (-36)) [123] (.null) 162 := ⟨rfl, rfl⟩
set_option maxRecDepth 100000 in
theorem jf_251_162 : jG m_R_backs 162 (.aload_n 0) [] (.null) 163 := ⟨rfl, rfl⟩
set_option maxRecDepth 100000 in
theorem jf_251_163 : jG m_R_backs 163 (.getfield 51) [9, 14] (.null) 166 := ⟨rfl, rfl⟩
set_option maxRecDepth 100000 in
theorem jf_251_166 : jG m_R_backs 166 (.iload 4) [] (.null) 168 := ⟨rfl, rfl⟩
set_option maxRecDepth 100000 in
theorem jf_251_168 : jG m_R_backs 168 (.aload_n 0) [] (.null) 169 := ⟨rfl, rfl⟩
set_option maxRecDepth 100000 in
theorem jf_251_169 : jG m_R_backs 169 (.getfield 115) [9, 47] (.null) 172 := ⟨rfl, rfl⟩
set_option maxRecDepth 100000 in
theorem jf_251_172 : jG m_R_backs 172 (.iload 5) [] (.null) 174 := ⟨rfl, rfl⟩
set_option maxRecDepth 100000 in
theorem jf_251_174 : jG m_R_backs 174 (.iaload) [] (.null) 175 := ⟨rfl, rfl⟩
set_option maxRecDepth 100000 in
theorem jf_251_175 : jG m_R_backs 175 (.iastore) [] (.null) 176 := ⟨rfl, rfl⟩
set_option maxRecDepth 100000 in
theorem jf_251_176 : jG m_R_backs 176 (.aload_n 0) [] (.null) 177 := ⟨rfl, rfl⟩
set_option maxRecDepth 100000 in
theorem jf_251_177 : jG m_R_backs 177 (.getfield 54) [9, 15] (.null) 180 := ⟨rfl, rfl⟩
set_option maxRecDepth 100000 in
theorem jf_251_180 : jG m_R_backs 180 (.iload 4) [] (.null) 182 := ⟨rfl, rfl⟩
set_option maxRecDepth 100000 in
theorem jf_251_182 : jG m_R_backs 182 (.aload_n 0) [] (.null) 183 := ⟨rfl, rfl⟩
set_option maxRecDepth 100000 in
theorem jf_251_183 : jG m_R_backs 183 (.getfield 118) [9, 48] (.null) 186 := ⟨rfl, rfl⟩
set_option maxRecDepth 100000 in
theorem jf_251_186 : jG m_R_backs 186 (.iload 5) [] (.null) 188 := ⟨rfl, rfl⟩
set_option maxRecDepth 100000 in
theorem jf_251_188 : jG m_R_backs 188 (.laload) [] (.null) 189 := ⟨rfl, rfl⟩
set_option maxRecDepth 100000 in
theorem jf_251_189 : jG m_R_backs 189 (.lastore) [] (.null) 190 := ⟨rfl, rfl⟩
set_option maxRecDepth 100000 in
theorem jf_251_190 : jG m_R_backs 190 (.iinc 3 1) [] (.null) 193 := ⟨rfl, rfl⟩
set_option maxRecDepth 100000 in
theorem jf_251_193 : jG m_R_backs 193 (.goto (-105)) [88] (.null) 196 := ⟨rfl, rfl⟩
set_option maxRecDepth 100000 in
theorem jf_251_196 : jG m_R_backs 196 (.return_) [] (.null) 197 := ⟨rfl, rfl⟩
theorem jf_252_0 : jG m_R_same 0 (.aload_n 0) [] (.null) 1 := ⟨rfl, rfl⟩
theorem jf_252_1 : jG m_R_same 1 (.iload_n 1) [] (.null) 2 := ⟨rfl, rfl⟩
theorem jf_252_2 : jG m_R_same 2 (.invokevirtual 416) [6, 1, 9, m_R_isKept] (.null) 5 := ⟨rfl, rfl⟩
theorem jf_252_5 : jG m_R_same 5 (.ifCond .ne 5) [10] (.null) 8 := ⟨rfl, rfl⟩
theorem jf_252_8 : jG m_R_same 8 (.iconst 0) [] (.null) 9 := ⟨rfl, rfl⟩
theorem jf_252_9 : jG m_R_same 9 (.ireturn) [] (.null) 10 := ⟨rfl, rfl⟩
theorem jf_252_10 : jG m_R_same 10 (.iconst 0) [] (.null) 11 := ⟨rfl, rfl⟩
theorem jf_252_11 : jG m_R_same 11 (.istore_n 2) [] (.null) 12 := ⟨rfl, rfl⟩
theorem jf_252_12 : jG m_R_same 12 (.iload_n 2) [] (.null) 13 := ⟨rfl, rfl⟩
theorem jf_252_13 : jG m_R_same 13 (.aload_n 0) [] (.null) 14 := ⟨rfl, rfl⟩
theorem jf_252_14 : jG m_R_same 14 (.getfield 380) [9, 42] (.null) 17 := ⟨rfl, rfl⟩
theorem jf_252_17 : jG m_R_same 17 (.if_icmp .ge 25) [42] (.null) 20 := ⟨rfl, rfl⟩
theorem jf_252_20 : jG m_R_same 20 (.aload_n 0) [] (.null) 21 := ⟨rfl, rfl⟩
theorem jf_252_21 : jG m_R_same 21 (.iload_n 1) [] (.null) 22 := ⟨rfl, rfl⟩
theorem jf_252_22 : jG m_R_same 22 (.aload_n 0) [] (.null) 23 := ⟨rfl, rfl⟩
theorem jf_252_23 : jG m_R_same 23 (.getfield 106) [9, 43] (.null) 26 := ⟨rfl, rfl⟩
theorem jf_252_26 : jG m_R_same 26 (.iload_n 2) [] (.null) 27 := ⟨rfl, rfl⟩
theorem jf_252_27 : jG m_R_same 27 (.iaload) [] (.null) 28 := ⟨rfl, rfl⟩
theorem jf_252_28 : jG m_R_same 28 (.invokevirtual 422) [6, 2, 9, m_R_alike] (.null) 31 := ⟨rfl, rfl⟩
theorem jf_252_31 : jG m_R_same 31 (.ifCond .ne 5) [36] (.null) 34 := ⟨rfl, rfl⟩
theorem jf_252_34 : jG m_R_same 34 (.iconst 0) [] (.null) 35 := ⟨rfl, rfl⟩
theorem jf_252_35 : jG m_R_same 35 (.ireturn) [] (.null) 36 := ⟨rfl, rfl⟩
theorem jf_252_36 : jG m_R_same 36 (.iinc 2 1) [] (.null) 39 := ⟨rfl, rfl⟩
theorem jf_252_39 : jG m_R_same 39 (.goto (-27)) [12] (.null) 42 := ⟨rfl, rfl⟩
theorem jf_252_42 : jG m_R_same 42 (.iconst 1) [] (.null) 43 := ⟨rfl, rfl⟩
theorem jf_252_43 : jG m_R_same 43 (.ireturn) [] (.null) 44 := ⟨rfl, rfl⟩
set_option maxRecDepth 100000 in
theorem jf_253_0 : jG m_R_alike 0 (.iconst 3) [] (.null) 1 := ⟨rfl, rfl⟩
set_option maxRecDepth 100000 in
theorem jf_253_1 : jG m_R_alike 1 (.iload_n 2) [] (.null) 2 := ⟨rfl, rfl⟩
set_option maxRecDepth 100000 in
theorem jf_253_2 : jG m_R_alike 2 (.imul) [] (.null) 3 := ⟨rfl, rfl⟩
set_option maxRecDepth 100000 in
theorem jf_253_3 : jG m_R_alike 3 (.istore_n 3) [] (.null) 4 := ⟨rfl, rfl⟩
set_option maxRecDepth 100000 in
theorem jf_253_4 : jG m_R_alike 4 (.iload_n 3) [] (.null) 5 := ⟨rfl, rfl⟩
set_option maxRecDepth 100000 in
theorem jf_253_5 : jG m_R_alike 5 (.iconst 3) [] (.null) 6 := ⟨rfl, rfl⟩
set_option maxRecDepth 100000 in
theorem jf_253_6 : jG m_R_alike 6 (.iload_n 2) [] (.null) 7 := ⟨rfl, rfl⟩
set_option maxRecDepth 100000 in
theorem jf_253_7 : jG m_R_alike 7 (.imul) [] (.null) 8 := ⟨rfl, rfl⟩
set_option maxRecDepth 100000 in
theorem jf_253_8 : jG m_R_alike 8 (.aload_n 0) [] (.null) 9 := ⟨rfl, rfl⟩
set_option maxRecDepth 100000 in
theorem jf_253_9 : jG m_R_alike 9 (.getfield 67) [9, 20] (.null) 12 := ⟨rfl, rfl⟩
set_option maxRecDepth 100000 in
theorem jf_253_12 : jG m_R_alike 12 (.iload_n 2) [] (.null) 13 := ⟨rfl, rfl⟩
set_option maxRecDepth 100000 in
theorem jf_253_13 : jG m_R_alike 13 (.iaload) [] (.null) 14 := ⟨rfl, rfl⟩
set_option maxRecDepth 100000 in
theorem jf_253_14 : jG m_R_alike 14 (.iadd) [] (.null) 15 := ⟨rfl, rfl⟩
set_option maxRecDepth 100000 in
theorem jf_253_15 : jG m_R_alike 15 (.if_icmp .ge 101) [116] (.null) 18 := ⟨rfl, rfl⟩
set_option maxRecDepth 100000 in
theorem jf_253_18 : jG m_R_alike 18 (.bipush 60) [] (.null) 20 := ⟨rfl, rfl⟩
set_option maxRecDepth 100000 in
theorem jf_253_20 : jG m_R_alike 20 (.iload_n 1) [] (.null) 21 := ⟨rfl, rfl⟩
set_option maxRecDepth 100000 in
theorem jf_253_21 : jG m_R_alike 21 (.imul) [] (.null) 22 := ⟨rfl, rfl⟩
set_option maxRecDepth 100000 in
theorem jf_253_22 : jG m_R_alike 22 (.iload_n 3) [] (.null) 23 := ⟨rfl, rfl⟩
set_option maxRecDepth 100000 in
theorem jf_253_23 : jG m_R_alike 23 (.iadd) [] (.null) 24 := ⟨rfl, rfl⟩
set_option maxRecDepth 100000 in
theorem jf_253_24 : jG m_R_alike 24 (.istore 4) [] (.null) 26 := ⟨rfl, rfl⟩
set_option maxRecDepth 100000 in
theorem jf_253_26 : jG m_R_alike 26 (.aload_n 0) [] (.null) 27 := ⟨rfl, rfl⟩
set_option maxRecDepth 100000 in
theorem jf_253_27 : jG m_R_alike 27 (.getfield 76) [9, 23] (.null) 30 := ⟨rfl, rfl⟩
set_option maxRecDepth 100000 in
theorem jf_253_30 : jG m_R_alike 30 (.iload_n 3) [] (.null) 31 := ⟨rfl, rfl⟩
set_option maxRecDepth 100000 in
theorem jf_253_31 : jG m_R_alike 31 (.iaload) [] (.null) 32 := ⟨rfl, rfl⟩
set_option maxRecDepth 100000 in
theorem jf_253_32 : jG m_R_alike 32 (.istore 5) [] (.null) 34 := ⟨rfl, rfl⟩
set_option maxRecDepth 100000 in
theorem jf_253_34 : jG m_R_alike 34 (.iconst 0) [] (.null) 35 := ⟨rfl, rfl⟩
set_option maxRecDepth 100000 in
theorem jf_253_35 : jG m_R_alike 35 (.istore 6) [] (.null) 37 := ⟨rfl, rfl⟩
set_option maxRecDepth 100000 in
theorem jf_253_37 : jG m_R_alike 37 (.iload 6) [] (.null) 39 := ⟨rfl, rfl⟩
set_option maxRecDepth 100000 in
theorem jf_253_39 : jG m_R_alike 39 (.iload 5) [] (.null) 41 := ⟨rfl, rfl⟩
set_option maxRecDepth 100000 in
theorem jf_253_41 : jG m_R_alike 41 (.if_icmp .ge 69) [110] (.null) 44 := ⟨rfl, rfl⟩
set_option maxRecDepth 100000 in
theorem jf_253_44 : jG m_R_alike 44 (.iconst 0) [] (.null) 45 := ⟨rfl, rfl⟩
set_option maxRecDepth 100000 in
theorem jf_253_45 : jG m_R_alike 45 (.aload_n 0) [] (.null) 46 := ⟨rfl, rfl⟩
set_option maxRecDepth 100000 in
theorem jf_253_46 : jG m_R_alike 46 (.getfield 82) [9, 25] (.null) 49 := ⟨rfl, rfl⟩
set_option maxRecDepth 100000 in
theorem jf_253_49 : jG m_R_alike 49 (.bipush 64) [] (.null) 51 := ⟨rfl, rfl⟩
set_option maxRecDepth 100000 in
theorem jf_253_51 : jG m_R_alike 51 (.iload_n 3) [] (.null) 52 := ⟨rfl, rfl⟩
set_option maxRecDepth 100000 in
theorem jf_253_52 : jG m_R_alike 52 (.imul) [] (.null) 53 := ⟨rfl, rfl⟩
set_option maxRecDepth 100000 in
theorem jf_253_53 : jG m_R_alike 53 (.aload_n 0) [] (.null) 54 := ⟨rfl, rfl⟩
set_option maxRecDepth 100000 in
theorem jf_253_54 : jG m_R_alike 54 (.getfield 85) [9, 26] (.null) 57 := ⟨rfl, rfl⟩
set_option maxRecDepth 100000 in
theorem jf_253_57 : jG m_R_alike 57 (.iload_n 3) [] (.null) 58 := ⟨rfl, rfl⟩
set_option maxRecDepth 100000 in
theorem jf_253_58 : jG m_R_alike 58 (.iaload) [] (.null) 59 := ⟨rfl, rfl⟩
set_option maxRecDepth 100000 in
theorem jf_253_59 : jG m_R_alike 59 (.iload 6) [] (.null) 61 := ⟨rfl, rfl⟩
set_option maxRecDepth 100000 in
theorem jf_253_61 : jG m_R_alike 61 (.iadd) [] (.null) 62 := ⟨rfl, rfl⟩
set_option maxRecDepth 100000 in
theorem jf_253_62 : jG m_R_alike 62 (.iload 5) [] (.null) 64 := ⟨rfl, rfl⟩
set_option maxRecDepth 100000 in
theorem jf_253_64 : jG m_R_alike 64 (.irem) [] (.null) 65 := ⟨rfl, rfl⟩
set_option maxRecDepth 100000 in
theorem jf_253_65 : jG m_R_alike 65 (.iadd) [] (.null) 66 := ⟨rfl, rfl⟩
set_option maxRecDepth 100000 in
theorem jf_253_66 : jG m_R_alike 66 (.daload) [] (.null) 67 := ⟨rfl, rfl⟩
set_option maxRecDepth 100000 in
theorem jf_253_67 : jG m_R_alike 67 (.invokestatic 396) [3, m_R_bitsOf, 2] (.null) 70 := ⟨rfl, rfl⟩
set_option maxRecDepth 100000 in
theorem jf_253_70 : jG m_R_alike 70 (.iconst 0) [] (.null) 71 := ⟨rfl, rfl⟩
set_option maxRecDepth 100000 in
theorem jf_253_71 : jG m_R_alike 71 (.aload_n 0) [] (.null) 72 := ⟨rfl, rfl⟩
set_option maxRecDepth 100000 in
theorem jf_253_72 : jG m_R_alike 72 (.getfield 121) [9, 49] (.null) 75 := ⟨rfl, rfl⟩
set_option maxRecDepth 100000 in
theorem jf_253_75 : jG m_R_alike 75 (.bipush 64) [] (.null) 77 := ⟨rfl, rfl⟩
set_option maxRecDepth 100000 in
theorem jf_253_77 : jG m_R_alike 77 (.iload 4) [] (.null) 79 := ⟨rfl, rfl⟩
set_option maxRecDepth 100000 in
theorem jf_253_79 : jG m_R_alike 79 (.imul) [] (.null) 80 := ⟨rfl, rfl⟩
set_option maxRecDepth 100000 in
theorem jf_253_80 : jG m_R_alike 80 (.aload_n 0) [] (.null) 81 := ⟨rfl, rfl⟩
set_option maxRecDepth 100000 in
theorem jf_253_81 : jG m_R_alike 81 (.getfield 124) [9, 50] (.null) 84 := ⟨rfl, rfl⟩
set_option maxRecDepth 100000 in
theorem jf_253_84 : jG m_R_alike 84 (.iload 4) [] (.null) 86 := ⟨rfl, rfl⟩
set_option maxRecDepth 100000 in
theorem jf_253_86 : jG m_R_alike 86 (.iaload) [] (.null) 87 := ⟨rfl, rfl⟩
set_option maxRecDepth 100000 in
theorem jf_253_87 : jG m_R_alike 87 (.iload 6) [] (.null) 89 := ⟨rfl, rfl⟩
set_option maxRecDepth 100000 in
theorem jf_253_89 : jG m_R_alike 89 (.iadd) [] (.null) 90 := ⟨rfl, rfl⟩
set_option maxRecDepth 100000 in
theorem jf_253_90 : jG m_R_alike 90 (.iload 5) [] (.null) 92 := ⟨rfl, rfl⟩
set_option maxRecDepth 100000 in
theorem jf_253_92 : jG m_R_alike 92 (.irem) [] (.null) 93 := ⟨rfl, rfl⟩
set_option maxRecDepth 100000 in
theorem jf_253_93 : jG m_R_alike 93 (.iadd) [] (.null) 94 := ⟨rfl, rfl⟩
set_option maxRecDepth 100000 in
theorem jf_253_94 : jG m_R_alike 94 (.daload) [] (.null) 95 := ⟨rfl, rfl⟩
set_option maxRecDepth 100000 in
theorem jf_253_95 : jG m_R_alike 95 (.invokestatic 396) [3, m_R_bitsOf, 2] (.null) 98 := ⟨rfl, rfl⟩
set_option maxRecDepth 100000 in
theorem jf_253_98 : jG m_R_alike 98 (.lcmp) [] (.null) 99 := ⟨rfl, rfl⟩
set_option maxRecDepth 100000 in
theorem jf_253_99 : jG m_R_alike 99 (.ifCond .eq 5) [104] (.null) 102 := ⟨rfl, rfl⟩
set_option maxRecDepth 100000 in
theorem jf_253_102 : jG m_R_alike 102 (.iconst 0) [] (.null) 103 := ⟨rfl, rfl⟩
set_option maxRecDepth 100000 in
theorem jf_253_103 : jG m_R_alike 103 (.ireturn) [] (.null) 104 := ⟨rfl, rfl⟩
set_option maxRecDepth 100000 in
theorem jf_253_104 : jG m_R_alike 104 (.iinc 6 1) [] (.null) 107 := ⟨rfl, rfl⟩
set_option maxRecDepth 100000 in
theorem jf_253_107 : jG m_R_alike 107 (.goto (-70)) [37] (.null) 110 := ⟨rfl, rfl⟩
set_option maxRecDepth 100000 in
theorem jf_253_110 : jG m_R_alike 110 (.iinc 3 1) [] (.null) 113 := ⟨rfl, rfl⟩
set_option maxRecDepth 100000 in
theorem jf_253_113 : jG m_R_alike 113 (.goto (-109)) [4] (.null) 116 := ⟨rfl, rfl⟩
set_option maxRecDepth 100000 in
theorem jf_253_116 : jG m_R_alike 116 (.iconst 0) [] (.null) 117 := ⟨rfl, rfl⟩
set_option maxRecDepth 100000 in
theorem jf_253_117 : jG m_R_alike 117 (.istore_n 3) [] (.null) 118 := ⟨rfl, rfl⟩
set_option maxRecDepth 100000 in
theorem jf_253_118 : jG m_R_alike 118 (.iload_n 3) [] (.null) 119 := ⟨rfl, rfl⟩
set_option maxRecDepth 100000 in
theorem jf_253_119 : jG m_R_alike 119 (.aload_n 0) [] (.null) 120 := ⟨rfl, rfl⟩
set_option maxRecDepth 100000 in
theorem jf_253_120 : jG m_R_alike 120 (.getfield 58) [9, 17] (.null) 123 := ⟨rfl, rfl⟩
set_option maxRecDepth 100000 in
theorem jf_253_123 : jG m_R_alike 123 (.iload_n 2) [] (.null) 124 := ⟨rfl, rfl⟩
set_option maxRecDepth 100000 in
theorem jf_253_124 : jG m_R_alike 124 (.iaload) [] (.null) 125 := ⟨rfl, rfl⟩
set_option maxRecDepth 100000 in
theorem jf_253_125 : jG m_R_alike 125 (.if_icmp .ge 186) [311] (.null) 128 := ⟨rfl, rfl⟩
set_option maxRecDepth 100000 in
theorem jf_253_128 : jG m_R_alike 128 (.aload_n 0) [] (.null) 129 := ⟨rfl, rfl⟩
set_option maxRecDepth 100000 in
theorem jf_253_129 : jG m_R_alike 129 (.getfield 61) [9, 18] (.null) 132 := ⟨rfl, rfl⟩
set_option maxRecDepth 100000 in
theorem jf_253_132 : jG m_R_alike 132 (.bipush 10) [] (.null) 134 := ⟨rfl, rfl⟩
set_option maxRecDepth 100000 in
theorem jf_253_134 : jG m_R_alike 134 (.iload_n 2) [] (.null) 135 := ⟨rfl, rfl⟩
set_option maxRecDepth 100000 in
theorem jf_253_135 : jG m_R_alike 135 (.imul) [] (.null) 136 := ⟨rfl, rfl⟩
set_option maxRecDepth 100000 in
theorem jf_253_136 : jG m_R_alike 136 (.iload_n 3) [] (.null) 137 := ⟨rfl, rfl⟩
set_option maxRecDepth 100000 in
theorem jf_253_137 : jG m_R_alike 137 (.iadd) [] (.null) 138 := ⟨rfl, rfl⟩
set_option maxRecDepth 100000 in
theorem jf_253_138 : jG m_R_alike 138 (.iaload) [] (.null) 139 := ⟨rfl, rfl⟩
set_option maxRecDepth 100000 in
theorem jf_253_139 : jG m_R_alike 139 (.istore 4) [] (.null) 141 := ⟨rfl, rfl⟩
set_option maxRecDepth 100000 in
theorem jf_253_141 : jG m_R_alike 141 (.bipush 60) [] (.null) 143 := ⟨rfl, rfl⟩
set_option maxRecDepth 100000 in
theorem jf_253_143 : jG m_R_alike 143 (.iload_n 1) [] (.null) 144 := ⟨rfl, rfl⟩
set_option maxRecDepth 100000 in
theorem jf_253_144 : jG m_R_alike 144 (.imul) [] (.null) 145 := ⟨rfl, rfl⟩
set_option maxRecDepth 100000 in
theorem jf_253_145 : jG m_R_alike 145 (.iload 4) [] (.null) 147 := ⟨rfl, rfl⟩
set_option maxRecDepth 100000 in
theorem jf_253_147 : jG m_R_alike 147 (.iadd) [] (.null) 148 := ⟨rfl, rfl⟩
set_option maxRecDepth 100000 in
theorem jf_253_148 : jG m_R_alike 148 (.istore 5) [] (.null) 150 := ⟨rfl, rfl⟩
set_option maxRecDepth 100000 in
theorem jf_253_150 : jG m_R_alike 150 (.aload_n 0) [] (.null) 151 := ⟨rfl, rfl⟩
set_option maxRecDepth 100000 in
theorem jf_253_151 : jG m_R_alike 151 (.getfield 54) [9, 15] (.null) 154 := ⟨rfl, rfl⟩
set_option maxRecDepth 100000 in
theorem jf_253_154 : jG m_R_alike 154 (.iload 4) [] (.null) 156 := ⟨rfl, rfl⟩
set_option maxRecDepth 100000 in
theorem jf_253_156 : jG m_R_alike 156 (.laload) [] (.null) 157 := ⟨rfl, rfl⟩
set_option maxRecDepth 100000 in
theorem jf_253_157 : jG m_R_alike 157 (.aload_n 0) [] (.null) 158 := ⟨rfl, rfl⟩
set_option maxRecDepth 100000 in
theorem jf_253_158 : jG m_R_alike 158 (.getfield 118) [9, 48] (.null) 161 := ⟨rfl, rfl⟩
set_option maxRecDepth 100000 in
theorem jf_253_161 : jG m_R_alike 161 (.iload 5) [] (.null) 163 := ⟨rfl, rfl⟩
set_option maxRecDepth 100000 in
theorem jf_253_163 : jG m_R_alike 163 (.laload) [] (.null) 164 := ⟨rfl, rfl⟩
set_option maxRecDepth 100000 in
theorem jf_253_164 : jG m_R_alike 164 (.lcmp) [] (.null) 165 := ⟨rfl, rfl⟩
set_option maxRecDepth 100000 in
theorem jf_253_165 : jG m_R_alike 165 (.ifCond .eq 5) [170] (.null) 168 := ⟨rfl, rfl⟩
set_option maxRecDepth 100000 in
theorem jf_253_168 : jG m_R_alike 168 (.iconst 0) [] (.null) 169 := ⟨rfl, rfl⟩
set_option maxRecDepth 100000 in
theorem jf_253_169 : jG m_R_alike 169 (.ireturn) [] (.null) 170 := ⟨rfl, rfl⟩
set_option maxRecDepth 100000 in
theorem jf_253_170 : jG m_R_alike 170 (.aload_n 0) [] (.null) 171 := ⟨rfl, rfl⟩
set_option maxRecDepth 100000 in
theorem jf_253_171 : jG m_R_alike 171 (.getfield 13) [9, 2] (.null) 174 := ⟨rfl, rfl⟩
set_option maxRecDepth 100000 in
theorem jf_253_174 : jG m_R_alike 174 (.iload 4) [] (.null) 176 := ⟨rfl, rfl⟩
set_option maxRecDepth 100000 in
theorem jf_253_176 : jG m_R_alike 176 (.iaload) [] (.null) 177 := ⟨rfl, rfl⟩
set_option maxRecDepth 100000 in
theorem jf_253_177 : jG m_R_alike 177 (.bipush 6) [] (.null) 179 := ⟨rfl, rfl⟩
set_option maxRecDepth 100000 in
theorem jf_253_179 : jG m_R_alike 179 (.bipush 8) [] (.null) 181 := ⟨rfl, rfl⟩
set_option maxRecDepth 100000 in
theorem jf_253_181 : jG m_R_alike 181 (.invokestatic 170) [3, m_R_in, 3] (.null) 184 := ⟨rfl, rfl⟩
set_option maxRecDepth 100000 in
theorem jf_253_184 : jG m_R_alike 184 (.istore 6) [] (.null) 186 := ⟨rfl, rfl⟩
set_option maxRecDepth 100000 in
theorem jf_253_186 : jG m_R_alike 186 (.iload 6) [] (.null) 188 := ⟨rfl, rfl⟩
set_option maxRecDepth 100000 in
theorem jf_253_188 : jG m_R_alike 188 (.ifCond .eq 13) [201] (.null) 191 := ⟨rfl, rfl⟩
set_option maxRecDepth 100000 in
theorem jf_253_191 : jG m_R_alike 191 (.aload_n 0) [] (.null) 192 := ⟨rfl, rfl⟩
set_option maxRecDepth 100000 in
theorem jf_253_192 : jG m_R_alike 192 (.getfield 20) [9, 4] (.null) 195 := ⟨rfl, rfl⟩
set_option maxRecDepth 100000 in
theorem jf_253_195 : jG m_R_alike 195 (.iload 4) [] (.null) 197 := ⟨rfl, rfl⟩
set_option maxRecDepth 100000 in
theorem jf_253_197 : jG m_R_alike 197 (.iaload) [] (.null) 198 := ⟨rfl, rfl⟩
set_option maxRecDepth 100000 in
theorem jf_253_198 : jG m_R_alike 198 (.goto 4) [202] (.null) 201 := ⟨rfl, rfl⟩
set_option maxRecDepth 100000 in
theorem jf_253_201 : jG m_R_alike 201 (.iconst 4) [] (.null) 202 := ⟨rfl, rfl⟩
set_option maxRecDepth 100000 in
theorem jf_253_202 : jG m_R_alike 202 (.istore 7) [] (.null) 204 := ⟨rfl, rfl⟩
set_option maxRecDepth 100000 in
theorem jf_253_204 : jG m_R_alike 204 (.iconst 0) [] (.null) 205 := ⟨rfl, rfl⟩
set_option maxRecDepth 100000 in
theorem jf_253_205 : jG m_R_alike 205 (.istore 8) [] (.null) 207 := ⟨rfl, rfl⟩
set_option maxRecDepth 100000 in
theorem jf_253_207 : jG m_R_alike 207 (.iload 8) [] (.null) 209 := ⟨rfl, rfl⟩
set_option maxRecDepth 100000 in
theorem jf_253_209 : jG m_R_alike 209 (.iload 7) [] (.null) 211 := ⟨rfl, rfl⟩
set_option maxRecDepth 100000 in
theorem jf_253_211 : jG m_R_alike 211 (.if_icmp .ge 94) [305] (.null) 214 := ⟨rfl, rfl⟩
set_option maxRecDepth 100000 in
theorem jf_253_214 : jG m_R_alike 214 (.aload_n 0) [] (.null) 215 := ⟨rfl, rfl⟩
set_option maxRecDepth 100000 in
theorem jf_253_215 : jG m_R_alike 215 (.iload 4) [] (.null) 217 := ⟨rfl, rfl⟩
set_option maxRecDepth 100000 in
theorem jf_253_217 : jG m_R_alike 217 (.iload 6) [] (.null) 219 := ⟨rfl, rfl⟩
set_option maxRecDepth 100000 in
theorem jf_253_219 : jG m_R_alike 219 (.ifCond .eq 19) [238] (.null) 222 := ⟨rfl, rfl⟩
set_option maxRecDepth 100000 in
theorem jf_253_222 : jG m_R_alike 222 (.aload_n 0) [] (.null) 223 := ⟨rfl, rfl⟩
set_option maxRecDepth 100000 in
theorem jf_253_223 : jG m_R_alike 223 (.getfield 51) [9, 14] (.null) 226 := ⟨rfl, rfl⟩
set_option maxRecDepth 100000 in
theorem jf_253_226 : jG m_R_alike 226 (.iload 4) [] (.null) 228 := ⟨rfl, rfl⟩
set_option maxRecDepth 100000 in
theorem jf_253_228 : jG m_R_alike 228 (.iaload) [] (.null) 229 := ⟨rfl, rfl⟩
set_option maxRecDepth 100000 in
theorem jf_253_229 : jG m_R_alike 229 (.iload 8) [] (.null) 231 := ⟨rfl, rfl⟩
set_option maxRecDepth 100000 in
theorem jf_253_231 : jG m_R_alike 231 (.iadd) [] (.null) 232 := ⟨rfl, rfl⟩
set_option maxRecDepth 100000 in
theorem jf_253_232 : jG m_R_alike 232 (.iload 7) [] (.null) 234 := ⟨rfl, rfl⟩
set_option maxRecDepth 100000 in
theorem jf_253_234 : jG m_R_alike 234 (.irem) [] (.null) 235 := ⟨rfl, rfl⟩
set_option maxRecDepth 100000 in
theorem jf_253_235 : jG m_R_alike 235 (.goto 5) [240] (.null) 238 := ⟨rfl, rfl⟩
set_option maxRecDepth 100000 in
theorem jf_253_238 : jG m_R_alike 238 (.iload 8) [] (.null) 240 := ⟨rfl, rfl⟩
set_option maxRecDepth 100000 in
theorem jf_253_240 : jG m_R_alike 240 (.invokevirtual 335) [6, 2, 9, m_R_st] (.null) 243 := ⟨rfl, rfl⟩
set_option maxRecDepth 100000 in
theorem jf_253_243 : jG m_R_alike 243 (.dstore 9) [] (.null) 245 := ⟨rfl, rfl⟩
set_option maxRecDepth 100000 in
theorem jf_253_245 : jG m_R_alike 245 (.aload_n 0) [] (.null) 246 := ⟨rfl, rfl⟩
set_option maxRecDepth 100000 in
theorem jf_253_246 : jG m_R_alike 246 (.getfield 112) [9, 46] (.null) 249 := ⟨rfl, rfl⟩
set_option maxRecDepth 100000 in
theorem jf_253_249 : jG m_R_alike 249 (.bipush 64) [] (.null) 251 := ⟨rfl, rfl⟩
set_option maxRecDepth 100000 in
theorem jf_253_251 : jG m_R_alike 251 (.iload 5) [] (.null) 253 := ⟨rfl, rfl⟩
set_option maxRecDepth 100000 in
theorem jf_253_253 : jG m_R_alike 253 (.imul) [] (.null) 254 := ⟨rfl, rfl⟩
set_option maxRecDepth 100000 in
theorem jf_253_254 : jG m_R_alike 254 (.iload 6) [] (.null) 256 := ⟨rfl, rfl⟩
set_option maxRecDepth 100000 in
theorem jf_253_256 : jG m_R_alike 256 (.ifCond .eq 19) [275] (.null) 259 := ⟨rfl, rfl⟩
set_option maxRecDepth 100000 in
theorem jf_253_259 : jG m_R_alike 259 (.aload_n 0) [] (.null) 260 := ⟨rfl, rfl⟩
set_option maxRecDepth 100000 in
theorem jf_253_260 : jG m_R_alike 260 (.getfield 115) [9, 47] (.null) 263 := ⟨rfl, rfl⟩
set_option maxRecDepth 100000 in
theorem jf_253_263 : jG m_R_alike 263 (.iload 5) [] (.null) 265 := ⟨rfl, rfl⟩
set_option maxRecDepth 100000 in
theorem jf_253_265 : jG m_R_alike 265 (.iaload) [] (.null) 266 := ⟨rfl, rfl⟩
set_option maxRecDepth 100000 in
theorem jf_253_266 : jG m_R_alike 266 (.iload 8) [] (.null) 268 := ⟨rfl, rfl⟩
set_option maxRecDepth 100000 in
theorem jf_253_268 : jG m_R_alike 268 (.iadd) [] (.null) 269 := ⟨rfl, rfl⟩
set_option maxRecDepth 100000 in
theorem jf_253_269 : jG m_R_alike 269 (.iload 7) [] (.null) 271 := ⟨rfl, rfl⟩
set_option maxRecDepth 100000 in
theorem jf_253_271 : jG m_R_alike 271 (.irem) [] (.null) 272 := ⟨rfl, rfl⟩
set_option maxRecDepth 100000 in
theorem jf_253_272 : jG m_R_alike 272 (.goto 5) [277] (.null) 275 := ⟨rfl, rfl⟩
set_option maxRecDepth 100000 in
theorem jf_253_275 : jG m_R_alike 275 (.iload 8) [] (.null) 277 := ⟨rfl, rfl⟩
set_option maxRecDepth 100000 in
theorem jf_253_277 : jG m_R_alike 277 (.iadd) [] (.null) 278 := ⟨rfl, rfl⟩
set_option maxRecDepth 100000 in
theorem jf_253_278 : jG m_R_alike 278 (.daload) [] (.null) 279 := ⟨rfl, rfl⟩
set_option maxRecDepth 100000 in
theorem jf_253_279 : jG m_R_alike 279 (.dstore 11) [] (.null) 281 := ⟨rfl, rfl⟩
set_option maxRecDepth 100000 in
theorem jf_253_281 : jG m_R_alike 281 (.iconst 0) [] (.null) 282 := ⟨rfl, rfl⟩
set_option maxRecDepth 100000 in
theorem jf_253_282 : jG m_R_alike 282 (.dload 9) [] (.null) 284 := ⟨rfl, rfl⟩
set_option maxRecDepth 100000 in
theorem jf_253_284 : jG m_R_alike 284 (.invokestatic 396) [3, m_R_bitsOf, 2] (.null) 287 := ⟨rfl, rfl⟩
set_option maxRecDepth 100000 in
theorem jf_253_287 : jG m_R_alike 287 (.iconst 0) [] (.null) 288 := ⟨rfl, rfl⟩
set_option maxRecDepth 100000 in
theorem jf_253_288 : jG m_R_alike 288 (.dload 11) [] (.null) 290 := ⟨rfl, rfl⟩
set_option maxRecDepth 100000 in
theorem jf_253_290 : jG m_R_alike 290 (.invokestatic 396) [3, m_R_bitsOf, 2] (.null) 293 := ⟨rfl, rfl⟩
set_option maxRecDepth 100000 in
theorem jf_253_293 : jG m_R_alike 293 (.lcmp) [] (.null) 294 := ⟨rfl, rfl⟩
set_option maxRecDepth 100000 in
theorem jf_253_294 : jG m_R_alike 294 (.ifCond .eq 5) [299] (.null) 297 := ⟨rfl, rfl⟩
set_option maxRecDepth 100000 in
theorem jf_253_297 : jG m_R_alike 297 (.iconst 0) [] (.null) 298 := ⟨rfl, rfl⟩
set_option maxRecDepth 100000 in
theorem jf_253_298 : jG m_R_alike 298 (.ireturn) [] (.null) 299 := ⟨rfl, rfl⟩
set_option maxRecDepth 100000 in
theorem jf_253_299 : jG m_R_alike 299 (.iinc 8 1) [] (.null) 302 := ⟨rfl, rfl⟩
set_option maxRecDepth 100000 in
theorem jf_253_302 : jG m_R_alike 302 (.goto (-95)) [207] (.null) 305 := ⟨rfl, rfl⟩
set_option maxRecDepth 100000 in
theorem jf_253_305 : jG m_R_alike 305 (.iinc 3 1) [] (.null) 308 := ⟨rfl, rfl⟩
set_option maxRecDepth 100000 in
theorem jf_253_308 : jG m_R_alike 308 (.goto (-190)) [118] (.null) 311 := ⟨rfl, rfl⟩
set_option maxRecDepth 100000 in
theorem jf_253_311 : jG m_R_alike 311 (.iconst 1) [] (.null) 312 := ⟨rfl, rfl⟩
set_option maxRecDepth 100000 in
theorem jf_253_312 : jG m_R_alike 312 (.ireturn) [] (.null) 313 := ⟨rfl, rfl⟩
set_option maxRecDepth 100000 in
theorem jf_254_0 : jG m_R_poles 0 (.aload_n 0) [] (.null) 1 := ⟨rfl, rfl⟩
set_option maxRecDepth 100000 in
theorem jf_254_1 : jG m_R_poles 1 (.iload_n 1) [] (.null) 2 := ⟨rfl, rfl⟩
set_option maxRecDepth 100000 in
theorem jf_254_2 : jG m_R_poles 2 (.invokevirtual 229) [6, 1, 9, m_R_isSection] (.null) 5 := ⟨rfl, rfl⟩
set_option maxRecDepth 100000 in
theorem jf_254_5 : jG m_R_poles 5 (.ifCond .eq 17) [22] (.null) 8 := ⟨rfl, rfl⟩
set_option maxRecDepth 100000 in
theorem jf_254_8 : jG m_R_poles 8 (.aload_n 0) [] (.null) 9 := ⟨rfl, rfl⟩
set_option maxRecDepth 100000 in
theorem jf_254_9 : jG m_R_poles 9 (.getfield 13) [9, 2] (.null) 12 := ⟨rfl, rfl⟩
set_option maxRecDepth 100000 in
theorem jf_254_12 : jG m_R_poles 12 (.iload_n 1) [] (.null) 13 := ⟨rfl, rfl⟩
set_option maxRecDepth 100000 in
theorem jf_254_13 : jG m_R_poles 13 (.iaload) [] (.null) 14 := ⟨rfl, rfl⟩
set_option maxRecDepth 100000 in
theorem jf_254_14 : jG m_R_poles 14 (.iconst 1) [] (.null) 15 := ⟨rfl, rfl⟩
set_option maxRecDepth 100000 in
theorem jf_254_15 : jG m_R_poles 15 (.iconst 5) [] (.null) 16 := ⟨rfl, rfl⟩
set_option maxRecDepth 100000 in
theorem jf_254_16 : jG m_R_poles 16 (.invokestatic 170) [3, m_R_in, 3] (.null) 19 := ⟨rfl, rfl⟩
set_option maxRecDepth 100000 in
theorem jf_254_19 : jG m_R_poles 19 (.ifCond .ne 5) [24] (.null) 22 := ⟨rfl, rfl⟩
set_option maxRecDepth 100000 in
theorem jf_254_22 : jG m_R_poles 22 (.iconst (-1)) [] (.null) 23 := ⟨rfl, rfl⟩
set_option maxRecDepth 100000 in
theorem jf_254_23 : jG m_R_poles 23 (.ireturn) [] (.null) 24 := ⟨rfl, rfl⟩
set_option maxRecDepth 100000 in
theorem jf_254_24 : jG m_R_poles 24 (.aload_n 0) [] (.null) 25 := ⟨rfl, rfl⟩
set_option maxRecDepth 100000 in
theorem jf_254_25 : jG m_R_poles 25 (.getfield 17) [9, 3] (.null) 28 := ⟨rfl, rfl⟩
set_option maxRecDepth 100000 in
theorem jf_254_28 : jG m_R_poles 28 (.iload_n 1) [] (.null) 29 := ⟨rfl, rfl⟩
set_option maxRecDepth 100000 in
theorem jf_254_29 : jG m_R_poles 29 (.iaload) [] (.null) 30 := ⟨rfl, rfl⟩
set_option maxRecDepth 100000 in
theorem jf_254_30 : jG m_R_poles 30 (.iconst 2) [] (.null) 31 := ⟨rfl, rfl⟩
set_option maxRecDepth 100000 in
theorem jf_254_31 : jG m_R_poles 31 (.if_icmp .ne 9) [40] (.null) 34 := ⟨rfl, rfl⟩
set_option maxRecDepth 100000 in
theorem jf_254_34 : jG m_R_poles 34 (.ldc2_w 425) [] (.double (4670232813583204352)) 37 := ⟨rfl, rfl⟩
set_option maxRecDepth 100000 in
theorem jf_254_37 : jG m_R_poles 37 (.goto 4) [41] (.null) 40 := ⟨rfl, rfl⟩
set_option maxRecDepth 100000 in
theorem jf_254_40 : jG m_R_poles 40 (.dconst 1) [] (.null) 41 := ⟨rfl, rfl⟩
set_option maxRecDepth 100000 in
theorem jf_254_41 : jG m_R_poles 41 (.dstore_n 2) [] (.null) 42 := ⟨rfl, rfl⟩
set_option maxRecDepth 100000 in
theorem jf_254_42 : jG m_R_poles 42 (.aload_n 0) [] (.null) 43 := ⟨rfl, rfl⟩
set_option maxRecDepth 100000 in
theorem jf_254_43 : jG m_R_poles 43 (.getfield 13) [9, 2] (.null) 46 := ⟨rfl, rfl⟩
set_option maxRecDepth 100000 in
theorem jf_254_46 : jG m_R_poles 46 (.iload_n 1) [] (.null) 47 := ⟨rfl, rfl⟩
set_option maxRecDepth 100000 in
theorem jf_254_47 : jG m_R_poles 47 (.iaload) [] (.null) 48 := ⟨rfl, rfl⟩
set_option maxRecDepth 100000 in
theorem jf_254_48 : jG m_R_poles 48 (.iconst 1) [] (.null) 49 := ⟨rfl, rfl⟩
set_option maxRecDepth 100000 in
theorem jf_254_49 : jG m_R_poles 49 (.if_icmp .ne 12) [61] (.null) 52 := ⟨rfl, rfl⟩
set_option maxRecDepth 100000 in
theorem jf_254_52 : jG m_R_poles 52 (.aload_n 0) [] (.null) 53 := ⟨rfl, rfl⟩
set_option maxRecDepth 100000 in
theorem jf_254_53 : jG m_R_poles 53 (.iload_n 1) [] (.null) 54 := ⟨rfl, rfl⟩
set_option maxRecDepth 100000 in
theorem jf_254_54 : jG m_R_poles 54 (.iconst 1) [] (.null) 55 := ⟨rfl, rfl⟩
set_option maxRecDepth 100000 in
theorem jf_254_55 : jG m_R_poles 55 (.invokevirtual 323) [6, 2, 9, m_R_c] (.null) 58 := ⟨rfl, rfl⟩
set_option maxRecDepth 100000 in
theorem jf_254_58 : jG m_R_poles 58 (.goto 28) [86] (.null) 61 := ⟨rfl, rfl⟩
set_option maxRecDepth 100000 in
theorem jf_254_61 : jG m_R_poles 61 (.aload_n 0) [] (.null) 62 := ⟨rfl, rfl⟩
set_option maxRecDepth 100000 in
theorem jf_254_62 : jG m_R_poles 62 (.getfield 13) [9, 2] (.null) 65 := ⟨rfl, rfl⟩
set_option maxRecDepth 100000 in
theorem jf_254_65 : jG m_R_poles 65 (.iload_n 1) [] (.null) 66 := ⟨rfl, rfl⟩
set_option maxRecDepth 100000 in
theorem jf_254_66 : jG m_R_poles 66 (.iaload) [] (.null) 67 := ⟨rfl, rfl⟩
set_option maxRecDepth 100000 in
theorem jf_254_67 : jG m_R_poles 67 (.iconst 5) [] (.null) 68 := ⟨rfl, rfl⟩
set_option maxRecDepth 100000 in
theorem jf_254_68 : jG m_R_poles 68 (.if_icmp .ne 12) [80] (.null) 71 := ⟨rfl, rfl⟩
set_option maxRecDepth 100000 in
theorem jf_254_71 : jG m_R_poles 71 (.aload_n 0) [] (.null) 72 := ⟨rfl, rfl⟩
set_option maxRecDepth 100000 in
theorem jf_254_72 : jG m_R_poles 72 (.iload_n 1) [] (.null) 73 := ⟨rfl, rfl⟩
set_option maxRecDepth 100000 in
theorem jf_254_73 : jG m_R_poles 73 (.iconst 0) [] (.null) 74 := ⟨rfl, rfl⟩
set_option maxRecDepth 100000 in
theorem jf_254_74 : jG m_R_poles 74 (.invokevirtual 323) [6, 2, 9, m_R_c] (.null) 77 := ⟨rfl, rfl⟩
set_option maxRecDepth 100000 in
theorem jf_254_77 : jG m_R_poles 77 (.goto 9) [86] (.null) 80 := ⟨rfl, rfl⟩
set_option maxRecDepth 100000 in
theorem jf_254_80 : jG m_R_poles 80 (.aload_n 0) [] (.null) 81 := ⟨rfl, rfl⟩
set_option maxRecDepth 100000 in
theorem jf_254_81 : jG m_R_poles 81 (.iload_n 1) [] (.null) 82 := ⟨rfl, rfl⟩
set_option maxRecDepth 100000 in
theorem jf_254_82 : jG m_R_poles 82 (.iconst 3) [] (.null) 83 := ⟨rfl, rfl⟩
set_option maxRecDepth 100000 in
theorem jf_254_83 : jG m_R_poles 83 (.invokevirtual 323) [6, 2, 9, m_R_c] (.null) 86 := ⟨rfl, rfl⟩
set_option maxRecDepth 100000 in
theorem jf_254_86 : jG m_R_poles 86 (.dstore 4) [] (.null) 88 := ⟨rfl, rfl⟩
set_option maxRecDepth 100000 in
theorem jf_254_88 : jG m_R_poles 88 (.aload_n 0) [] (.null) 89 := ⟨rfl, rfl⟩
set_option maxRecDepth 100000 in
theorem jf_254_89 : jG m_R_poles 89 (.getfield 13) [9, 2] (.null) 92 := ⟨rfl, rfl⟩
set_option maxRecDepth 100000 in
theorem jf_254_92 : jG m_R_poles 92 (.iload_n 1) [] (.null) 93 := ⟨rfl, rfl⟩
set_option maxRecDepth 100000 in
theorem jf_254_93 : jG m_R_poles 93 (.iaload) [] (.null) 94 := ⟨rfl, rfl⟩
set_option maxRecDepth 100000 in
theorem jf_254_94 : jG m_R_poles 94 (.iconst 2) [] (.null) 95 := ⟨rfl, rfl⟩
set_option maxRecDepth 100000 in
theorem jf_254_95 : jG m_R_poles 95 (.iconst 4) [] (.null) 96 := ⟨rfl, rfl⟩
set_option maxRecDepth 100000 in
theorem jf_254_96 : jG m_R_poles 96 (.invokestatic 170) [3, m_R_in, 3] (.null) 99 := ⟨rfl, rfl⟩
set_option maxRecDepth 100000 in
theorem jf_254_99 : jG m_R_poles 99 (.ifCond .eq 12) [111] (.null) 102 := ⟨rfl, rfl⟩
set_option maxRecDepth 100000 in
theorem jf_254_102 : jG m_R_poles 102 (.aload_n 0) [] (.null) 103 := ⟨rfl, rfl⟩
set_option maxRecDepth 100000 in
theorem jf_254_103 : jG m_R_poles 103 (.iload_n 1) [] (.null) 104 := ⟨rfl, rfl⟩
set_option maxRecDepth 100000 in
theorem jf_254_104 : jG m_R_poles 104 (.iconst 4) [] (.null) 105 := ⟨rfl, rfl⟩
set_option maxRecDepth 100000 in
theorem jf_254_105 : jG m_R_poles 105 (.invokevirtual 323) [6, 2, 9, m_R_c] (.null) 108 := ⟨rfl, rfl⟩
set_option maxRecDepth 100000 in
theorem jf_254_108 : jG m_R_poles 108 (.goto 4) [112] (.null) 111 := ⟨rfl, rfl⟩
set_option maxRecDepth 100000 in
theorem jf_254_111 : jG m_R_poles 111 (.dconst 0) [] (.null) 112 := ⟨rfl, rfl⟩
set_option maxRecDepth 100000 in
theorem jf_254_112 : jG m_R_poles 112 (.dstore 6) [] (.null) 114 := ⟨rfl, rfl⟩
set_option maxRecDepth 100000 in
theorem jf_254_114 : jG m_R_poles 114 (.dload 4) [] (.null) 116 := ⟨rfl, rfl⟩
set_option maxRecDepth 100000 in
theorem jf_254_116 : jG m_R_poles 116 (.invokestatic 427) [3, m_R_isFinite, 1] (.null) 119 := ⟨rfl, rfl⟩
set_option maxRecDepth 100000 in
theorem jf_254_119 : jG m_R_poles 119 (.ifCond .eq 11) [130] (.null) 122 := ⟨rfl, rfl⟩
set_option maxRecDepth 100000 in
theorem jf_254_122 : jG m_R_poles 122 (.dload 6) [] (.null) 124 := ⟨rfl, rfl⟩
set_option maxRecDepth 100000 in
theorem jf_254_124 : jG m_R_poles 124 (.invokestatic 427) [3, m_R_isFinite, 1] (.null) 127 := ⟨rfl, rfl⟩
set_option maxRecDepth 100000 in
theorem jf_254_127 : jG m_R_poles 127 (.ifCond .ne 5) [132] (.null) 130 := ⟨rfl, rfl⟩
set_option maxRecDepth 100000 in
theorem jf_254_130 : jG m_R_poles 130 (.iconst 0) [] (.null) 131 := ⟨rfl, rfl⟩
set_option maxRecDepth 100000 in
theorem jf_254_131 : jG m_R_poles 131 (.ireturn) [] (.null) 132 := ⟨rfl, rfl⟩
set_option maxRecDepth 100000 in
theorem jf_254_132 : jG m_R_poles 132 (.aload_n 0) [] (.null) 133 := ⟨rfl, rfl⟩
set_option maxRecDepth 100000 in
theorem jf_254_133 : jG m_R_poles 133 (.iconst 0) [] (.null) 134 := ⟨rfl, rfl⟩
set_option maxRecDepth 100000 in
theorem jf_254_134 : jG m_R_poles 134 (.dload 4) [] (.null) 136 := ⟨rfl, rfl⟩
set_option maxRecDepth 100000 in
theorem jf_254_136 : jG m_R_poles 136 (.invokevirtual 350) [6, 2, 9, m_R_sizeOf] (.null) 139 := ⟨rfl, rfl⟩
set_option maxRecDepth 100000 in
theorem jf_254_139 : jG m_R_poles 139 (.dload_n 2) [] (.null) 140 := ⟨rfl, rfl⟩
set_option maxRecDepth 100000 in
theorem jf_254_140 : jG m_R_poles 140 (.ddiv) [] (.null) 141 := ⟨rfl, rfl⟩
set_option maxRecDepth 100000 in
theorem jf_254_141 : jG m_R_poles 141 (.dstore 4) [] (.null) 143 := ⟨rfl, rfl⟩
set_option maxRecDepth 100000 in
theorem jf_254_143 : jG m_R_poles 143 (.dload 6) [] (.null) 145 := ⟨rfl, rfl⟩
set_option maxRecDepth 100000 in
theorem jf_254_145 : jG m_R_poles 145 (.dload_n 2) [] (.null) 146 := ⟨rfl, rfl⟩
set_option maxRecDepth 100000 in
theorem jf_254_146 : jG m_R_poles 146 (.ddiv) [] (.null) 147 := ⟨rfl, rfl⟩
set_option maxRecDepth 100000 in
theorem jf_254_147 : jG m_R_poles 147 (.dstore 6) [] (.null) 149 := ⟨rfl, rfl⟩
set_option maxRecDepth 100000 in
theorem jf_254_149 : jG m_R_poles 149 (.dload 6) [] (.null) 151 := ⟨rfl, rfl⟩
set_option maxRecDepth 100000 in
theorem jf_254_151 : jG m_R_poles 151 (.dconst 1) [] (.null) 152 := ⟨rfl, rfl⟩
set_option maxRecDepth 100000 in
theorem jf_254_152 : jG m_R_poles 152 (.dcmp .l) [] (.null) 153 := ⟨rfl, rfl⟩
set_option maxRecDepth 100000 in
theorem jf_254_153 : jG m_R_poles 153 (.ifCond .gt 12) [165] (.null) 156 := ⟨rfl, rfl⟩
set_option maxRecDepth 100000 in
theorem jf_254_156 : jG m_R_poles 156 (.dload 6) [] (.null) 158 := ⟨rfl, rfl⟩
set_option maxRecDepth 100000 in
theorem jf_254_158 : jG m_R_poles 158 (.ldc2_w 430) [] (.double (13830554455654793216)) 161 := ⟨rfl, rfl⟩
set_option maxRecDepth 100000 in
theorem jf_254_161 : jG m_R_poles 161 (.dcmp .g) [] (.null) 162 := ⟨rfl, rfl⟩
set_option maxRecDepth 100000 in
theorem jf_254_162 : jG m_R_poles 162 (.ifCond .ge 5) [167] (.null) 165 := ⟨rfl, rfl⟩
set_option maxRecDepth 100000 in
theorem jf_254_165 : jG m_R_poles 165 (.iconst 0) [] (.null) 166 := ⟨rfl, rfl⟩
set_option maxRecDepth 100000 in
theorem jf_254_166 : jG m_R_poles 166 (.ireturn) [] (.null) 167 := ⟨rfl, rfl⟩
set_option maxRecDepth 100000 in
theorem jf_254_167 : jG m_R_poles 167 (.dload 4) [] (.null) 169 := ⟨rfl, rfl⟩
set_option maxRecDepth 100000 in
theorem jf_254_169 : jG m_R_poles 169 (.dload 6) [] (.null) 171 := ⟨rfl, rfl⟩
set_option maxRecDepth 100000 in
theorem jf_254_171 : jG m_R_poles 171 (.invokestatic 432) [3, m_R_against, 2] (.null) 174 := ⟨rfl, rfl⟩
set_option maxRecDepth 100000 in
theorem jf_254_174 : jG m_R_poles 174 (.istore 8) [] (.null) 176 := ⟨rfl, rfl⟩
set_option maxRecDepth 100000 in
theorem jf_254_176 : jG m_R_poles 176 (.iload 8) [] (.null) 178 := ⟨rfl, rfl⟩
set_option maxRecDepth 100000 in
theorem jf_254_178 : jG m_R_poles 178 (.ifCond .le 5) [183] (.null) 181 := ⟨rfl, rfl⟩
set_option maxRecDepth 100000 in
theorem jf_254_181 : jG m_R_poles 181 (.iconst 0) [] (.null) 182 := ⟨rfl, rfl⟩
set_option maxRecDepth 100000 in
theorem jf_254_182 : jG m_R_poles 182 (.ireturn) [] (.null) 183 := ⟨rfl, rfl⟩
set_option maxRecDepth 100000 in
theorem jf_254_183 : jG m_R_poles 183 (.iload 8) [] (.null) 185 := ⟨rfl, rfl⟩
set_option maxRecDepth 100000 in
theorem jf_254_185 : jG m_R_poles 185 (.ifCond .ge 23) [208] (.null) 188 := ⟨rfl, rfl⟩
set_option maxRecDepth 100000 in
theorem jf_254_188 : jG m_R_poles 188 (.dload 6) [] (.null) 190 := ⟨rfl, rfl⟩
set_option maxRecDepth 100000 in
theorem jf_254_190 : jG m_R_poles 190 (.dconst 1) [] (.null) 191 := ⟨rfl, rfl⟩
set_option maxRecDepth 100000 in
theorem jf_254_191 : jG m_R_poles 191 (.dcmp .g) [] (.null) 192 := ⟨rfl, rfl⟩
set_option maxRecDepth 100000 in
theorem jf_254_192 : jG m_R_poles 192 (.ifCond .ge 16) [208] (.null) 195 := ⟨rfl, rfl⟩
set_option maxRecDepth 100000 in
theorem jf_254_195 : jG m_R_poles 195 (.dload 6) [] (.null) 197 := ⟨rfl, rfl⟩
set_option maxRecDepth 100000 in
theorem jf_254_197 : jG m_R_poles 197 (.ldc2_w 430) [] (.double (13830554455654793216)) 200 := ⟨rfl, rfl⟩
set_option maxRecDepth 100000 in
theorem jf_254_200 : jG m_R_poles 200 (.dcmp .l) [] (.null) 201 := ⟨rfl, rfl⟩
set_option maxRecDepth 100000 in
theorem jf_254_201 : jG m_R_poles 201 (.ifCond .le 7) [208] (.null) 204 := ⟨rfl, rfl⟩
set_option maxRecDepth 100000 in
theorem jf_254_204 : jG m_R_poles 204 (.iconst 1) [] (.null) 205 := ⟨rfl, rfl⟩
set_option maxRecDepth 100000 in
theorem jf_254_205 : jG m_R_poles 205 (.goto 4) [209] (.null) 208 := ⟨rfl, rfl⟩
set_option maxRecDepth 100000 in
theorem jf_254_208 : jG m_R_poles 208 (.iconst 2) [] (.null) 209 := ⟨rfl, rfl⟩
set_option maxRecDepth 100000 in
theorem jf_254_209 : jG m_R_poles 209 (.ireturn) [] (.null) 210 := ⟨rfl, rfl⟩
theorem jf_255_0 : jG m_R_isFinite 0 (.dload_n 0) [] (.null) 1 := ⟨rfl, rfl⟩
theorem jf_255_1 : jG m_R_isFinite 1 (.ldc2_w 304) [] (.double (18442240474082181120)) 4 := ⟨rfl, rfl⟩
theorem jf_255_4 : jG m_R_isFinite 4 (.dcmp .l) [] (.null) 5 := ⟨rfl, rfl⟩
theorem jf_255_5 : jG m_R_isFinite 5 (.ifCond .le 15) [20] (.null) 8 := ⟨rfl, rfl⟩
theorem jf_255_8 : jG m_R_isFinite 8 (.dload_n 0) [] (.null) 9 := ⟨rfl, rfl⟩
theorem jf_255_9 : jG m_R_isFinite 9 (.ldc2_w 302) [] (.double (9218868437227405312)) 12 := ⟨rfl, rfl⟩
theorem jf_255_12 : jG m_R_isFinite 12 (.dcmp .g) [] (.null) 13 := ⟨rfl, rfl⟩
theorem jf_255_13 : jG m_R_isFinite 13 (.ifCond .ge 7) [20] (.null) 16 := ⟨rfl, rfl⟩
theorem jf_255_16 : jG m_R_isFinite 16 (.iconst 1) [] (.null) 17 := ⟨rfl, rfl⟩
theorem jf_255_17 : jG m_R_isFinite 17 (.goto 4) [21] (.null) 20 := ⟨rfl, rfl⟩
theorem jf_255_20 : jG m_R_isFinite 20 (.iconst 0) [] (.null) 21 := ⟨rfl, rfl⟩
theorem jf_255_21 : jG m_R_isFinite 21 (.ireturn) [] (.null) 22 := ⟨rfl, rfl⟩
theorem jf_256_0 : jG m_R_against 0 (.dconst 1) [] (.null) 1 := ⟨rfl, rfl⟩
theorem jf_256_1 : jG m_R_against 1 (.dload_n 2) [] (.null) 2 := ⟨rfl, rfl⟩
theorem jf_256_2 : jG m_R_against 2 (.dadd) [] (.null) 3 := ⟨rfl, rfl⟩
theorem jf_256_3 : jG m_R_against 3 (.dstore 4) [] (.null) 5 := ⟨rfl, rfl⟩
theorem jf_256_5 : jG m_R_against 5 (.dload_n 0) [] (.null) 6 := ⟨rfl, rfl⟩
theorem jf_256_6 : jG m_R_against 6 (.dload 4) [] (.null) 8 := ⟨rfl, rfl⟩
theorem jf_256_8 : jG m_R_against 8 (.dcmp .l) [] (.null) 9 := ⟨rfl, rfl⟩
theorem jf_256_9 : jG m_R_against 9 (.ifCond .eq 16) [25] (.null) 12 := ⟨rfl, rfl⟩
theorem jf_256_12 : jG m_R_against 12 (.dload_n 0) [] (.null) 13 := ⟨rfl, rfl⟩
theorem jf_256_13 : jG m_R_against 13 (.dload 4) [] (.null) 15 := ⟨rfl, rfl⟩
theorem jf_256_15 : jG m_R_against 15 (.dcmp .g) [] (.null) 16 := ⟨rfl, rfl⟩
theorem jf_256_16 : jG m_R_against 16 (.ifCond .ge 7) [23] (.null) 19 := ⟨rfl, rfl⟩
theorem jf_256_19 : jG m_R_against 19 (.iconst (-1)) [] (.null) 20 := ⟨rfl, rfl⟩
theorem jf_256_20 : jG m_R_against 20 (.goto 4) [24] (.null) 23 := ⟨rfl, rfl⟩
theorem jf_256_23 : jG m_R_against 23 (.iconst 1) [] (.null) 24 := ⟨rfl, rfl⟩
theorem jf_256_24 : jG m_R_against 24 (.ireturn) [] (.null) 25 := ⟨rfl, rfl⟩
theorem jf_256_25 : jG m_R_against 25 (.dload 4) [] (.null) 27 := ⟨rfl, rfl⟩
theorem jf_256_27 : jG m_R_against 27 (.dconst 1) [] (.null) 28 := ⟨rfl, rfl⟩
theorem jf_256_28 : jG m_R_against 28 (.dsub) [] (.null) 29 := ⟨rfl, rfl⟩
theorem jf_256_29 : jG m_R_against 29 (.dstore 6) [] (.null) 31 := ⟨rfl, rfl⟩
theorem jf_256_31 : jG m_R_against 31 (.dconst 1) [] (.null) 32 := ⟨rfl, rfl⟩
theorem jf_256_32 : jG m_R_against 32 (.dload 4) [] (.null) 34 := ⟨rfl, rfl⟩
theorem jf_256_34 : jG m_R_against 34 (.dload 6) [] (.null) 36 := ⟨rfl, rfl⟩
theorem jf_256_36 : jG m_R_against 36 (.dsub) [] (.null) 37 := ⟨rfl, rfl⟩
theorem jf_256_37 : jG m_R_against 37 (.dsub) [] (.null) 38 := ⟨rfl, rfl⟩
theorem jf_256_38 : jG m_R_against 38 (.dload_n 2) [] (.null) 39 := ⟨rfl, rfl⟩
theorem jf_256_39 : jG m_R_against 39 (.dload 6) [] (.null) 41 := ⟨rfl, rfl⟩
theorem jf_256_41 : jG m_R_against 41 (.dsub) [] (.null) 42 := ⟨rfl, rfl⟩
theorem jf_256_42 : jG m_R_against 42 (.dadd) [] (.null) 43 := ⟨rfl, rfl⟩
theorem jf_256_43 : jG m_R_against 43 (.dstore 8) [] (.null) 45 := ⟨rfl, rfl⟩
theorem jf_256_45 : jG m_R_against 45 (.dload 8) [] (.null) 47 := ⟨rfl, rfl⟩
theorem jf_256_47 : jG m_R_against 47 (.dconst 0) [] (.null) 48 := ⟨rfl, rfl⟩
theorem jf_256_48 : jG m_R_against 48 (.dcmp .l) [] (.null) 49 := ⟨rfl, rfl⟩
theorem jf_256_49 : jG m_R_against 49 (.ifCond .le 7) [56] (.null) 52 := ⟨rfl, rfl⟩
theorem jf_256_52 : jG m_R_against 52 (.iconst (-1)) [] (.null) 53 := ⟨rfl, rfl⟩
theorem jf_256_53 : jG m_R_against 53 (.goto 15) [68] (.null) 56 := ⟨rfl, rfl⟩
theorem jf_256_56 : jG m_R_against 56 (.dload 8) [] (.null) 58 := ⟨rfl, rfl⟩
theorem jf_256_58 : jG m_R_against 58 (.dconst 0) [] (.null) 59 := ⟨rfl, rfl⟩
theorem jf_256_59 : jG m_R_against 59 (.dcmp .g) [] (.null) 60 := ⟨rfl, rfl⟩
theorem jf_256_60 : jG m_R_against 60 (.ifCond .ge 7) [67] (.null) 63 := ⟨rfl, rfl⟩
theorem jf_256_63 : jG m_R_against 63 (.iconst 1) [] (.null) 64 := ⟨rfl, rfl⟩
theorem jf_256_64 : jG m_R_against 64 (.goto 4) [68] (.null) 67 := ⟨rfl, rfl⟩
theorem jf_256_67 : jG m_R_against 67 (.iconst 0) [] (.null) 68 := ⟨rfl, rfl⟩
theorem jf_256_68 : jG m_R_against 68 (.ireturn) [] (.null) 69 := ⟨rfl, rfl⟩
theorem jf_257_0 : jG m_R_cycles 0 (.aload_n 0) [] (.null) 1 := ⟨rfl, rfl⟩
theorem jf_257_1 : jG m_R_cycles 1 (.iload_n 1) [] (.null) 2 := ⟨rfl, rfl⟩
theorem jf_257_2 : jG m_R_cycles 2 (.invokevirtual 440) [6, 1, 9, m_R_isDead] (.null) 5 := ⟨rfl, rfl⟩
theorem jf_257_5 : jG m_R_cycles 5 (.ifCond .ne 5) [10] (.null) 8 := ⟨rfl, rfl⟩
theorem jf_257_8 : jG m_R_cycles 8 (.iconst (-1)) [] (.null) 9 := ⟨rfl, rfl⟩
theorem jf_257_9 : jG m_R_cycles 9 (.ireturn) [] (.null) 10 := ⟨rfl, rfl⟩
theorem jf_257_10 : jG m_R_cycles 10 (.aload_n 0) [] (.null) 11 := ⟨rfl, rfl⟩
theorem jf_257_11 : jG m_R_cycles 11 (.iload_n 1) [] (.null) 12 := ⟨rfl, rfl⟩
theorem jf_257_12 : jG m_R_cycles 12 (.invokevirtual 443) [6, 1, 9, m_R_finds] (.null) 15 := ⟨rfl, rfl⟩
theorem jf_257_15 : jG m_R_cycles 15 (.aload_n 0) [] (.null) 16 := ⟨rfl, rfl⟩
theorem jf_257_16 : jG m_R_cycles 16 (.getfield 436) [9, 55] (.null) 19 := ⟨rfl, rfl⟩
theorem jf_257_19 : jG m_R_cycles 19 (.ireturn) [] (.null) 20 := ⟨rfl, rfl⟩
theorem jf_258_0 : jG m_R_isDead 0 (.aload_n 0) [] (.null) 1 := ⟨rfl, rfl⟩
theorem jf_258_1 : jG m_R_isDead 1 (.iload_n 1) [] (.null) 2 := ⟨rfl, rfl⟩
theorem jf_258_2 : jG m_R_isDead 2 (.invokevirtual 229) [6, 1, 9, m_R_isSection] (.null) 5 := ⟨rfl, rfl⟩
theorem jf_258_5 : jG m_R_isDead 5 (.ifCond .eq 37) [42] (.null) 8 := ⟨rfl, rfl⟩
theorem jf_258_8 : jG m_R_isDead 8 (.aload_n 0) [] (.null) 9 := ⟨rfl, rfl⟩
theorem jf_258_9 : jG m_R_isDead 9 (.getfield 13) [9, 2] (.null) 12 := ⟨rfl, rfl⟩
theorem jf_258_12 : jG m_R_isDead 12 (.iload_n 1) [] (.null) 13 := ⟨rfl, rfl⟩
theorem jf_258_13 : jG m_R_isDead 13 (.iaload) [] (.null) 14 := ⟨rfl, rfl⟩
theorem jf_258_14 : jG m_R_isDead 14 (.iconst 1) [] (.null) 15 := ⟨rfl, rfl⟩
theorem jf_258_15 : jG m_R_isDead 15 (.if_icmp .ne 27) [42] (.null) 18 := ⟨rfl, rfl⟩
theorem jf_258_18 : jG m_R_isDead 18 (.aload_n 0) [] (.null) 19 := ⟨rfl, rfl⟩
theorem jf_258_19 : jG m_R_isDead 19 (.getfield 17) [9, 3] (.null) 22 := ⟨rfl, rfl⟩
theorem jf_258_22 : jG m_R_isDead 22 (.iload_n 1) [] (.null) 23 := ⟨rfl, rfl⟩
theorem jf_258_23 : jG m_R_isDead 23 (.iaload) [] (.null) 24 := ⟨rfl, rfl⟩
theorem jf_258_24 : jG m_R_isDead 24 (.iconst 2) [] (.null) 25 := ⟨rfl, rfl⟩
theorem jf_258_25 : jG m_R_isDead 25 (.if_icmp .ne 17) [42] (.null) 28 := ⟨rfl, rfl⟩
theorem jf_258_28 : jG m_R_isDead 28 (.aload_n 0) [] (.null) 29 := ⟨rfl, rfl⟩
theorem jf_258_29 : jG m_R_isDead 29 (.getfield 23) [9, 5] (.null) 32 := ⟨rfl, rfl⟩
theorem jf_258_32 : jG m_R_isDead 32 (.iload_n 1) [] (.null) 33 := ⟨rfl, rfl⟩
theorem jf_258_33 : jG m_R_isDead 33 (.iaload) [] (.null) 34 := ⟨rfl, rfl⟩
theorem jf_258_34 : jG m_R_isDead 34 (.iconst 2) [] (.null) 35 := ⟨rfl, rfl⟩
theorem jf_258_35 : jG m_R_isDead 35 (.if_icmp .ge 7) [42] (.null) 38 := ⟨rfl, rfl⟩
theorem jf_258_38 : jG m_R_isDead 38 (.iconst 1) [] (.null) 39 := ⟨rfl, rfl⟩
theorem jf_258_39 : jG m_R_isDead 39 (.goto 4) [43] (.null) 42 := ⟨rfl, rfl⟩
theorem jf_258_42 : jG m_R_isDead 42 (.iconst 0) [] (.null) 43 := ⟨rfl, rfl⟩
theorem jf_258_43 : jG m_R_isDead 43 (.ireturn) [] (.null) 44 := ⟨rfl, rfl⟩
set_option maxRecDepth 100000 in
theorem jf_259_0 : jG m_R_finds 0 (.aload_n 0) [] (.null) 1 := ⟨rfl, rfl⟩
set_option maxRecDepth 100000 in
theorem jf_259_1 : jG m_R_finds 1 (.iconst 0) [] (.null) 2 := ⟨rfl, rfl⟩
set_option maxRecDepth 100000 in
theorem jf_259_2 : jG m_R_finds 2 (.putfield 436) [9, 55] (.null) 5 := ⟨rfl, rfl⟩
set_option maxRecDepth 100000 in
theorem jf_259_5 : jG m_R_finds 5 (.iconst 0) [] (.null) 6 := ⟨rfl, rfl⟩
set_option maxRecDepth 100000 in
theorem jf_259_6 : jG m_R_finds 6 (.istore_n 2) [] (.null) 7 := ⟨rfl, rfl⟩
set_option maxRecDepth 100000 in
theorem jf_259_7 : jG m_R_finds 7 (.iload_n 2) [] (.null) 8 := ⟨rfl, rfl⟩
set_option maxRecDepth 100000 in
theorem jf_259_8 : jG m_R_finds 8 (.ldc 136) [] (.int (65536)) 10 := ⟨rfl, rfl⟩
set_option maxRecDepth 100000 in
theorem jf_259_10 : jG m_R_finds 10 (.if_icmp .ge 102) [112] (.null) 13 := ⟨rfl, rfl⟩
set_option maxRecDepth 100000 in
theorem jf_259_13 : jG m_R_finds 13 (.aload_n 0) [] (.null) 14 := ⟨rfl, rfl⟩
set_option maxRecDepth 100000 in
theorem jf_259_14 : jG m_R_finds 14 (.iload_n 1) [] (.null) 15 := ⟨rfl, rfl⟩
set_option maxRecDepth 100000 in
theorem jf_259_15 : jG m_R_finds 15 (.iconst 1) [] (.null) 16 := ⟨rfl, rfl⟩
set_option maxRecDepth 100000 in
theorem jf_259_16 : jG m_R_finds 16 (.invokevirtual 323) [6, 2, 9, m_R_c] (.null) 19 := ⟨rfl, rfl⟩
set_option maxRecDepth 100000 in
theorem jf_259_19 : jG m_R_finds 19 (.d2l) [] (.null) 20 := ⟨rfl, rfl⟩
set_option maxRecDepth 100000 in
theorem jf_259_20 : jG m_R_finds 20 (.iload_n 2) [] (.null) 21 := ⟨rfl, rfl⟩
set_option maxRecDepth 100000 in
theorem jf_259_21 : jG m_R_finds 21 (.ldc_w 439) [] (.int (32768)) 24 := ⟨rfl, rfl⟩
set_option maxRecDepth 100000 in
theorem jf_259_24 : jG m_R_finds 24 (.isub) [] (.null) 25 := ⟨rfl, rfl⟩
set_option maxRecDepth 100000 in
theorem jf_259_25 : jG m_R_finds 25 (.i2l) [] (.null) 26 := ⟨rfl, rfl⟩
set_option maxRecDepth 100000 in
theorem jf_259_26 : jG m_R_finds 26 (.lmul) [] (.null) 27 := ⟨rfl, rfl⟩
set_option maxRecDepth 100000 in
theorem jf_259_27 : jG m_R_finds 27 (.lstore_n 3) [] (.null) 28 := ⟨rfl, rfl⟩
set_option maxRecDepth 100000 in
theorem jf_259_28 : jG m_R_finds 28 (.aload_n 0) [] (.null) 29 := ⟨rfl, rfl⟩
set_option maxRecDepth 100000 in
theorem jf_259_29 : jG m_R_finds 29 (.getfield 23) [9, 5] (.null) 32 := ⟨rfl, rfl⟩
set_option maxRecDepth 100000 in
theorem jf_259_32 : jG m_R_finds 32 (.iload_n 1) [] (.null) 33 := ⟨rfl, rfl⟩
set_option maxRecDepth 100000 in
theorem jf_259_33 : jG m_R_finds 33 (.iaload) [] (.null) 34 := ⟨rfl, rfl⟩
set_option maxRecDepth 100000 in
theorem jf_259_34 : jG m_R_finds 34 (.ifCond .ne 17) [51] (.null) 37 := ⟨rfl, rfl⟩
set_option maxRecDepth 100000 in
theorem jf_259_37 : jG m_R_finds 37 (.lload_n 3) [] (.null) 38 := ⟨rfl, rfl⟩
set_option maxRecDepth 100000 in
theorem jf_259_38 : jG m_R_finds 38 (.ldc2_w 310) [] (.long (8192)) 41 := ⟨rfl, rfl⟩
set_option maxRecDepth 100000 in
theorem jf_259_41 : jG m_R_finds 41 (.ladd) [] (.null) 42 := ⟨rfl, rfl⟩
set_option maxRecDepth 100000 in
theorem jf_259_42 : jG m_R_finds 42 (.ldc2_w 251) [] (.long (16384)) 45 := ⟨rfl, rfl⟩
set_option maxRecDepth 100000 in
theorem jf_259_45 : jG m_R_finds 45 (.invokestatic 253) [3, m_R_floor, 2] (.null) 48 := ⟨rfl, rfl⟩
set_option maxRecDepth 100000 in
theorem jf_259_48 : jG m_R_finds 48 (.goto 8) [56] (.null) 51 := ⟨rfl, rfl⟩
set_option maxRecDepth 100000 in
theorem jf_259_51 : jG m_R_finds 51 (.lload_n 3) [] (.null) 52 := ⟨rfl, rfl⟩
set_option maxRecDepth 100000 in
theorem jf_259_52 : jG m_R_finds 52 (.ldc2_w 251) [] (.long (16384)) 55 := ⟨rfl, rfl⟩
set_option maxRecDepth 100000 in
theorem jf_259_55 : jG m_R_finds 55 (.ldiv) [] (.null) 56 := ⟨rfl, rfl⟩
set_option maxRecDepth 100000 in
theorem jf_259_56 : jG m_R_finds 56 (.lstore 5) [] (.null) 58 := ⟨rfl, rfl⟩
set_option maxRecDepth 100000 in
theorem jf_259_58 : jG m_R_finds 58 (.aload_n 0) [] (.null) 59 := ⟨rfl, rfl⟩
set_option maxRecDepth 100000 in
theorem jf_259_59 : jG m_R_finds 59 (.getfield 137) [9, 56] (.null) 62 := ⟨rfl, rfl⟩
set_option maxRecDepth 100000 in
theorem jf_259_62 : jG m_R_finds 62 (.iload_n 2) [] (.null) 63 := ⟨rfl, rfl⟩
set_option maxRecDepth 100000 in
theorem jf_259_63 : jG m_R_finds 63 (.iconst 2) [] (.null) 64 := ⟨rfl, rfl⟩
set_option maxRecDepth 100000 in
theorem jf_259_64 : jG m_R_finds 64 (.lload 5) [] (.null) 66 := ⟨rfl, rfl⟩
set_option maxRecDepth 100000 in
theorem jf_259_66 : jG m_R_finds 66 (.invokestatic 240) [3, m_R_isValue, 2] (.null) 69 := ⟨rfl, rfl⟩
set_option maxRecDepth 100000 in
theorem jf_259_69 : jG m_R_finds 69 (.ifCond .eq 13) [82] (.null) 72 := ⟨rfl, rfl⟩
set_option maxRecDepth 100000 in
theorem jf_259_72 : jG m_R_finds 72 (.lload 5) [] (.null) 74 := ⟨rfl, rfl⟩
set_option maxRecDepth 100000 in
theorem jf_259_74 : jG m_R_finds 74 (.l2i) [] (.null) 75 := ⟨rfl, rfl⟩
set_option maxRecDepth 100000 in
theorem jf_259_75 : jG m_R_finds 75 (.ldc_w 439) [] (.int (32768)) 78 := ⟨rfl, rfl⟩
set_option maxRecDepth 100000 in
theorem jf_259_78 : jG m_R_finds 78 (.iadd) [] (.null) 79 := ⟨rfl, rfl⟩
set_option maxRecDepth 100000 in
theorem jf_259_79 : jG m_R_finds 79 (.goto 19) [98] (.null) 82 := ⟨rfl, rfl⟩
set_option maxRecDepth 100000 in
theorem jf_259_82 : jG m_R_finds 82 (.lload 5) [] (.null) 84 := ⟨rfl, rfl⟩
set_option maxRecDepth 100000 in
theorem jf_259_84 : jG m_R_finds 84 (.aload_n 0) [] (.null) 85 := ⟨rfl, rfl⟩
set_option maxRecDepth 100000 in
theorem jf_259_85 : jG m_R_finds 85 (.getfield 26) [9, 6] (.null) 88 := ⟨rfl, rfl⟩
set_option maxRecDepth 100000 in
theorem jf_259_88 : jG m_R_finds 88 (.iload_n 1) [] (.null) 89 := ⟨rfl, rfl⟩
set_option maxRecDepth 100000 in
theorem jf_259_89 : jG m_R_finds 89 (.iaload) [] (.null) 90 := ⟨rfl, rfl⟩
set_option maxRecDepth 100000 in
theorem jf_259_90 : jG m_R_finds 90 (.invokestatic 312) [3, m_R_cut, 2] (.null) 93 := ⟨rfl, rfl⟩
set_option maxRecDepth 100000 in
theorem jf_259_93 : jG m_R_finds 93 (.d2i) [] (.null) 94 := ⟨rfl, rfl⟩
set_option maxRecDepth 100000 in
theorem jf_259_94 : jG m_R_finds 94 (.ldc_w 439) [] (.int (32768)) 97 := ⟨rfl, rfl⟩
set_option maxRecDepth 100000 in
theorem jf_259_97 : jG m_R_finds 97 (.iadd) [] (.null) 98 := ⟨rfl, rfl⟩
set_option maxRecDepth 100000 in
theorem jf_259_98 : jG m_R_finds 98 (.iastore) [] (.null) 99 := ⟨rfl, rfl⟩
set_option maxRecDepth 100000 in
theorem jf_259_99 : jG m_R_finds 99 (.aload_n 0) [] (.null) 100 := ⟨rfl, rfl⟩
set_option maxRecDepth 100000 in
theorem jf_259_100 : jG m_R_finds 100 (.getfield 140) [9, 57] (.null) 103 := ⟨rfl, rfl⟩
set_option maxRecDepth 100000 in
theorem jf_259_103 : jG m_R_finds 103 (.iload_n 2) [] (.null) 104 := ⟨rfl, rfl⟩
set_option maxRecDepth 100000 in
theorem jf_259_104 : jG m_R_finds 104 (.iconst 0) [] (.null) 105 := ⟨rfl, rfl⟩
set_option maxRecDepth 100000 in
theorem jf_259_105 : jG m_R_finds 105 (.iastore) [] (.null) 106 := ⟨rfl, rfl⟩
set_option maxRecDepth 100000 in
theorem jf_259_106 : jG m_R_finds 106 (.iinc 2 1) [] (.null) 109 := ⟨rfl, rfl⟩
set_option maxRecDepth 100000 in
theorem jf_259_109 : jG m_R_finds 109 (.goto (-102)) [7] (.null) 112 := ⟨rfl, rfl⟩
set_option maxRecDepth 100000 in
theorem jf_259_112 : jG m_R_finds 112 (.iconst 0) [] (.null) 113 := ⟨rfl, rfl⟩
set_option maxRecDepth 100000 in
theorem jf_259_113 : jG m_R_finds 113 (.istore_n 2) [] (.null) 114 := ⟨rfl, rfl⟩
set_option maxRecDepth 100000 in
theorem jf_259_114 : jG m_R_finds 114 (.iload_n 2) [] (.null) 115 := ⟨rfl, rfl⟩
set_option maxRecDepth 100000 in
theorem jf_259_115 : jG m_R_finds 115 (.ldc 136) [] (.int (65536)) 117 := ⟨rfl, rfl⟩
set_option maxRecDepth 100000 in
theorem jf_259_117 : jG m_R_finds 117 (.if_icmp .ge 209) [326] (.null) 120 := ⟨rfl, rfl⟩
set_option maxRecDepth 100000 in
theorem jf_259_120 : jG m_R_finds 120 (.iload_n 2) [] (.null) 121 := ⟨rfl, rfl⟩
set_option maxRecDepth 100000 in
theorem jf_259_121 : jG m_R_finds 121 (.istore_n 3) [] (.null) 122 := ⟨rfl, rfl⟩
set_option maxRecDepth 100000 in
theorem jf_259_122 : jG m_R_finds 122 (.aload_n 0) [] (.null) 123 := ⟨rfl, rfl⟩
set_option maxRecDepth 100000 in
theorem jf_259_123 : jG m_R_finds 123 (.getfield 140) [9, 57] (.null) 126 := ⟨rfl, rfl⟩
set_option maxRecDepth 100000 in
theorem jf_259_126 : jG m_R_finds 126 (.iload_n 3) [] (.null) 127 := ⟨rfl, rfl⟩
set_option maxRecDepth 100000 in
theorem jf_259_127 : jG m_R_finds 127 (.iaload) [] (.null) 128 := ⟨rfl, rfl⟩
set_option maxRecDepth 100000 in
theorem jf_259_128 : jG m_R_finds 128 (.ifCond .ne 22) [150] (.null) 131 := ⟨rfl, rfl⟩
set_option maxRecDepth 100000 in
theorem jf_259_131 : jG m_R_finds 131 (.aload_n 0) [] (.null) 132 := ⟨rfl, rfl⟩
set_option maxRecDepth 100000 in
theorem jf_259_132 : jG m_R_finds 132 (.getfield 140) [9, 57] (.null) 135 := ⟨rfl, rfl⟩
set_option maxRecDepth 100000 in
theorem jf_259_135 : jG m_R_finds 135 (.iload_n 3) [] (.null) 136 := ⟨rfl, rfl⟩
set_option maxRecDepth 100000 in
theorem jf_259_136 : jG m_R_finds 136 (.iconst (-1)) [] (.null) 137 := ⟨rfl, rfl⟩
set_option maxRecDepth 100000 in
theorem jf_259_137 : jG m_R_finds 137 (.iload_n 2) [] (.null) 138 := ⟨rfl, rfl⟩
set_option maxRecDepth 100000 in
theorem jf_259_138 : jG m_R_finds 138 (.isub) [] (.null) 139 := ⟨rfl, rfl⟩
set_option maxRecDepth 100000 in
theorem jf_259_139 : jG m_R_finds 139 (.iastore) [] (.null) 140 := ⟨rfl, rfl⟩
set_option maxRecDepth 100000 in
theorem jf_259_140 : jG m_R_finds 140 (.aload_n 0) [] (.null) 141 := ⟨rfl, rfl⟩
set_option maxRecDepth 100000 in
theorem jf_259_141 : jG m_R_finds 141 (.getfield 137) [9, 56] (.null) 144 := ⟨rfl, rfl⟩
set_option maxRecDepth 100000 in
theorem jf_259_144 : jG m_R_finds 144 (.iload_n 3) [] (.null) 145 := ⟨rfl, rfl⟩
set_option maxRecDepth 100000 in
theorem jf_259_145 : jG m_R_finds 145 (.iaload) [] (.null) 146 := ⟨rfl, rfl⟩
set_option maxRecDepth 100000 in
theorem jf_259_146 : jG m_R_finds 146 (.istore_n 3) [] (.null) 147 := ⟨rfl, rfl⟩
set_option maxRecDepth 100000 in
theorem jf_259_147 : jG m_R_finds 147 (.goto (-25)) [122] (.null) 150 := ⟨rfl, rfl⟩
set_option maxRecDepth 100000 in
theorem jf_259_150 : jG m_R_finds 150 (.aload_n 0) [] (.null) 151 := ⟨rfl, rfl⟩
set_option maxRecDepth 100000 in
theorem jf_259_151 : jG m_R_finds 151 (.getfield 140) [9, 57] (.null) 154 := ⟨rfl, rfl⟩
set_option maxRecDepth 100000 in
theorem jf_259_154 : jG m_R_finds 154 (.iload_n 3) [] (.null) 155 := ⟨rfl, rfl⟩
set_option maxRecDepth 100000 in
theorem jf_259_155 : jG m_R_finds 155 (.iaload) [] (.null) 156 := ⟨rfl, rfl⟩
set_option maxRecDepth 100000 in
theorem jf_259_156 : jG m_R_finds 156 (.istore 4) [] (.null) 158 := ⟨rfl, rfl⟩
set_option maxRecDepth 100000 in
theorem jf_259_158 : jG m_R_finds 158 (.iload 4) [] (.null) 160 := ⟨rfl, rfl⟩
set_option maxRecDepth 100000 in
theorem jf_259_160 : jG m_R_finds 160 (.iconst (-1)) [] (.null) 161 := ⟨rfl, rfl⟩
set_option maxRecDepth 100000 in
theorem jf_259_161 : jG m_R_finds 161 (.iload_n 2) [] (.null) 162 := ⟨rfl, rfl⟩
set_option maxRecDepth 100000 in
theorem jf_259_162 : jG m_R_finds 162 (.isub) [] (.null) 163 := ⟨rfl, rfl⟩
set_option maxRecDepth 100000 in
theorem jf_259_163 : jG m_R_finds 163 (.if_icmp .ne 112) [275] (.null) 166 := ⟨rfl, rfl⟩
set_option maxRecDepth 100000 in
theorem jf_259_166 : jG m_R_finds 166 (.aload_n 0) [] (.null) 167 := ⟨rfl, rfl⟩
set_option maxRecDepth 100000 in
theorem jf_259_167 : jG m_R_finds 167 (.dup) [] (.null) 168 := ⟨rfl, rfl⟩
set_option maxRecDepth 100000 in
theorem jf_259_168 : jG m_R_finds 168 (.getfield 436) [9, 55] (.null) 171 := ⟨rfl, rfl⟩
set_option maxRecDepth 100000 in
theorem jf_259_171 : jG m_R_finds 171 (.iconst 1) [] (.null) 172 := ⟨rfl, rfl⟩
set_option maxRecDepth 100000 in
theorem jf_259_172 : jG m_R_finds 172 (.iadd) [] (.null) 173 := ⟨rfl, rfl⟩
set_option maxRecDepth 100000 in
theorem jf_259_173 : jG m_R_finds 173 (.putfield 436) [9, 55] (.null) 176 := ⟨rfl, rfl⟩
set_option maxRecDepth 100000 in
theorem jf_259_176 : jG m_R_finds 176 (.aload_n 0) [] (.null) 177 := ⟨rfl, rfl⟩
set_option maxRecDepth 100000 in
theorem jf_259_177 : jG m_R_finds 177 (.getfield 436) [9, 55] (.null) 180 := ⟨rfl, rfl⟩
set_option maxRecDepth 100000 in
theorem jf_259_180 : jG m_R_finds 180 (.istore 4) [] (.null) 182 := ⟨rfl, rfl⟩
set_option maxRecDepth 100000 in
theorem jf_259_182 : jG m_R_finds 182 (.iconst 0) [] (.null) 183 := ⟨rfl, rfl⟩
set_option maxRecDepth 100000 in
theorem jf_259_183 : jG m_R_finds 183 (.istore 5) [] (.null) 185 := ⟨rfl, rfl⟩
set_option maxRecDepth 100000 in
theorem jf_259_185 : jG m_R_finds 185 (.iload_n 3) [] (.null) 186 := ⟨rfl, rfl⟩
set_option maxRecDepth 100000 in
theorem jf_259_186 : jG m_R_finds 186 (.istore 6) [] (.null) 188 := ⟨rfl, rfl⟩
set_option maxRecDepth 100000 in
theorem jf_259_188 : jG m_R_finds 188 (.iload_n 3) [] (.null) 189 := ⟨rfl, rfl⟩
set_option maxRecDepth 100000 in
theorem jf_259_189 : jG m_R_finds 189 (.istore 7) [] (.null) 191 := ⟨rfl, rfl⟩
set_option maxRecDepth 100000 in
theorem jf_259_191 : jG m_R_finds 191 (.iconst 1) [] (.null) 192 := ⟨rfl, rfl⟩
set_option maxRecDepth 100000 in
theorem jf_259_192 : jG m_R_finds 192 (.istore 8) [] (.null) 194 := ⟨rfl, rfl⟩
set_option maxRecDepth 100000 in
theorem jf_259_194 : jG m_R_finds 194 (.iload 8) [] (.null) 196 := ⟨rfl, rfl⟩
set_option maxRecDepth 100000 in
theorem jf_259_196 : jG m_R_finds 196 (.ifCond .eq 47) [243] (.null) 199 := ⟨rfl, rfl⟩
set_option maxRecDepth 100000 in
theorem jf_259_199 : jG m_R_finds 199 (.iload 7) [] (.null) 201 := ⟨rfl, rfl⟩
set_option maxRecDepth 100000 in
theorem jf_259_201 : jG m_R_finds 201 (.iload 6) [] (.null) 203 := ⟨rfl, rfl⟩
set_option maxRecDepth 100000 in
theorem jf_259_203 : jG m_R_finds 203 (.if_icmp .ge 8) [211] (.null) 206 := ⟨rfl, rfl⟩
set_option maxRecDepth 100000 in
theorem jf_259_206 : jG m_R_finds 206 (.iload 7) [] (.null) 208 := ⟨rfl, rfl⟩
set_option maxRecDepth 100000 in
theorem jf_259_208 : jG m_R_finds 208 (.goto 5) [213] (.null) 211 := ⟨rfl, rfl⟩
set_option maxRecDepth 100000 in
theorem jf_259_211 : jG m_R_finds 211 (.iload 6) [] (.null) 213 := ⟨rfl, rfl⟩
set_option maxRecDepth 100000 in
theorem jf_259_213 : jG m_R_finds 213 (.istore 6) [] (.null) 215 := ⟨rfl, rfl⟩
set_option maxRecDepth 100000 in
theorem jf_259_215 : jG m_R_finds 215 (.iinc 5 1) [] (.null) 218 := ⟨rfl, rfl⟩
set_option maxRecDepth 100000 in
theorem jf_259_218 : jG m_R_finds 218 (.aload_n 0) [] (.null) 219 := ⟨rfl, rfl⟩
set_option maxRecDepth 100000 in
theorem jf_259_219 : jG m_R_finds 219 (.getfield 137) [9, 56] (.null) 222 := ⟨rfl, rfl⟩
set_option maxRecDepth 100000 in
theorem jf_259_222 : jG m_R_finds 222 (.iload 7) [] (.null) 224 := ⟨rfl, rfl⟩
set_option maxRecDepth 100000 in
theorem jf_259_224 : jG m_R_finds 224 (.iaload) [] (.null) 225 := ⟨rfl, rfl⟩
set_option maxRecDepth 100000 in
theorem jf_259_225 : jG m_R_finds 225 (.istore 7) [] (.null) 227 := ⟨rfl, rfl⟩
set_option maxRecDepth 100000 in
theorem jf_259_227 : jG m_R_finds 227 (.iload 7) [] (.null) 229 := ⟨rfl, rfl⟩
set_option maxRecDepth 100000 in
theorem jf_259_229 : jG m_R_finds 229 (.iload_n 3) [] (.null) 230 := ⟨rfl, rfl⟩
set_option maxRecDepth 100000 in
theorem jf_259_230 : jG m_R_finds 230 (.if_icmp .eq 7) [237] (.null) 233 := ⟨rfl, rfl⟩
set_option maxRecDepth 100000 in
theorem jf_259_233 : jG m_R_finds 233 (.iconst 1) [] (.null) 234 := ⟨rfl, rfl⟩
set_option maxRecDepth 100000 in
theorem jf_259_234 : jG m_R_finds 234 (.goto 4) [238] (.null) 237 := ⟨rfl, rfl⟩
set_option maxRecDepth 100000 in
theorem jf_259_237 : jG m_R_finds 237 (.iconst 0) [] (.null) 238 := ⟨rfl, rfl⟩
set_option maxRecDepth 100000 in
theorem jf_259_238 : jG m_R_finds 238 (.istore 8) [] (.null) 240 := ⟨rfl, rfl⟩
set_option maxRecDepth 100000 in
theorem jf_259_240 : jG m_R_finds 240 (.goto (-46)) [194] (.null) 243 := ⟨rfl, rfl⟩
set_option maxRecDepth 100000 in
theorem jf_259_243 : jG m_R_finds 243 (.aload_n 0) [] (.null) 244 := ⟨rfl, rfl⟩
set_option maxRecDepth 100000 in
theorem jf_259_244 : jG m_R_finds 244 (.getfield 143) [9, 58] (.null) 247 := ⟨rfl, rfl⟩
set_option maxRecDepth 100000 in
theorem jf_259_247 : jG m_R_finds 247 (.iload 4) [] (.null) 249 := ⟨rfl, rfl⟩
set_option maxRecDepth 100000 in
theorem jf_259_249 : jG m_R_finds 249 (.iconst 1) [] (.null) 250 := ⟨rfl, rfl⟩
set_option maxRecDepth 100000 in
theorem jf_259_250 : jG m_R_finds 250 (.isub) [] (.null) 251 := ⟨rfl, rfl⟩
set_option maxRecDepth 100000 in
theorem jf_259_251 : jG m_R_finds 251 (.iload 6) [] (.null) 253 := ⟨rfl, rfl⟩
set_option maxRecDepth 100000 in
theorem jf_259_253 : jG m_R_finds 253 (.iastore) [] (.null) 254 := ⟨rfl, rfl⟩
set_option maxRecDepth 100000 in
theorem jf_259_254 : jG m_R_finds 254 (.aload_n 0) [] (.null) 255 := ⟨rfl, rfl⟩
set_option maxRecDepth 100000 in
theorem jf_259_255 : jG m_R_finds 255 (.getfield 146) [9, 59] (.null) 258 := ⟨rfl, rfl⟩
set_option maxRecDepth 100000 in
theorem jf_259_258 : jG m_R_finds 258 (.iload 4) [] (.null) 260 := ⟨rfl, rfl⟩
set_option maxRecDepth 100000 in
theorem jf_259_260 : jG m_R_finds 260 (.iconst 1) [] (.null) 261 := ⟨rfl, rfl⟩
set_option maxRecDepth 100000 in
theorem jf_259_261 : jG m_R_finds 261 (.isub) [] (.null) 262 := ⟨rfl, rfl⟩
set_option maxRecDepth 100000 in
theorem jf_259_262 : jG m_R_finds 262 (.iload 5) [] (.null) 264 := ⟨rfl, rfl⟩
set_option maxRecDepth 100000 in
theorem jf_259_264 : jG m_R_finds 264 (.iastore) [] (.null) 265 := ⟨rfl, rfl⟩
set_option maxRecDepth 100000 in
theorem jf_259_265 : jG m_R_finds 265 (.aload_n 0) [] (.null) 266 := ⟨rfl, rfl⟩
set_option maxRecDepth 100000 in
theorem jf_259_266 : jG m_R_finds 266 (.getfield 149) [9, 60] (.null) 269 := ⟨rfl, rfl⟩
set_option maxRecDepth 100000 in
theorem jf_259_269 : jG m_R_finds 269 (.iload 4) [] (.null) 271 := ⟨rfl, rfl⟩
set_option maxRecDepth 100000 in
theorem jf_259_271 : jG m_R_finds 271 (.iconst 1) [] (.null) 272 := ⟨rfl, rfl⟩
set_option maxRecDepth 100000 in
theorem jf_259_272 : jG m_R_finds 272 (.isub) [] (.null) 273 := ⟨rfl, rfl⟩
set_option maxRecDepth 100000 in
theorem jf_259_273 : jG m_R_finds 273 (.iconst 0) [] (.null) 274 := ⟨rfl, rfl⟩
set_option maxRecDepth 100000 in
theorem jf_259_274 : jG m_R_finds 274 (.iastore) [] (.null) 275 := ⟨rfl, rfl⟩
set_option maxRecDepth 100000 in
theorem jf_259_275 : jG m_R_finds 275 (.iload_n 2) [] (.null) 276 := ⟨rfl, rfl⟩
set_option maxRecDepth 100000 in
theorem jf_259_276 : jG m_R_finds 276 (.istore_n 3) [] (.null) 277 := ⟨rfl, rfl⟩
set_option maxRecDepth 100000 in
theorem jf_259_277 : jG m_R_finds 277 (.aload_n 0) [] (.null) 278 := ⟨rfl, rfl⟩
set_option maxRecDepth 100000 in
theorem jf_259_278 : jG m_R_finds 278 (.getfield 140) [9, 57] (.null) 281 := ⟨rfl, rfl⟩
set_option maxRecDepth 100000 in
theorem jf_259_281 : jG m_R_finds 281 (.iload_n 3) [] (.null) 282 := ⟨rfl, rfl⟩
set_option maxRecDepth 100000 in
theorem jf_259_282 : jG m_R_finds 282 (.iaload) [] (.null) 283 := ⟨rfl, rfl⟩
set_option maxRecDepth 100000 in
theorem jf_259_283 : jG m_R_finds 283 (.iconst (-1)) [] (.null) 284 := ⟨rfl, rfl⟩
set_option maxRecDepth 100000 in
theorem jf_259_284 : jG m_R_finds 284 (.iload_n 2) [] (.null) 285 := ⟨rfl, rfl⟩
set_option maxRecDepth 100000 in
theorem jf_259_285 : jG m_R_finds 285 (.isub) [] (.null) 286 := ⟨rfl, rfl⟩
set_option maxRecDepth 100000 in
theorem jf_259_286 : jG m_R_finds 286 (.if_icmp .ne 34) [320] (.null) 289 := ⟨rfl, rfl⟩
set_option maxRecDepth 100000 in
theorem jf_259_289 : jG m_R_finds 289 (.aload_n 0) [] (.null) 290 := ⟨rfl, rfl⟩
set_option maxRecDepth 100000 in
theorem jf_259_290 : jG m_R_finds 290 (.getfield 140) [9, 57] (.null) 293 := ⟨rfl, rfl⟩
set_option maxRecDepth 100000 in
theorem jf_259_293 : jG m_R_finds 293 (.iload_n 3) [] (.null) 294 := ⟨rfl, rfl⟩
set_option maxRecDepth 100000 in
theorem jf_259_294 : jG m_R_finds 294 (.iload 4) [] (.null) 296 := ⟨rfl, rfl⟩
set_option maxRecDepth 100000 in
theorem jf_259_296 : jG m_R_finds 296 (.iastore) [] (.null) 297 := ⟨rfl, rfl⟩
set_option maxRecDepth 100000 in
theorem jf_259_297 : jG m_R_finds 297 (.aload_n 0) [] (.null) 298 := ⟨rfl, rfl⟩
set_option maxRecDepth 100000 in
theorem jf_259_298 : jG m_R_finds 298 (.getfield 149) [9, 60] (.null) 301 := ⟨rfl, rfl⟩
set_option maxRecDepth 100000 in
theorem jf_259_301 : jG m_R_finds 301 (.iload 4) [] (.null) 303 := ⟨rfl, rfl⟩
set_option maxRecDepth 100000 in
theorem jf_259_303 : jG m_R_finds 303 (.iconst 1) [] (.null) 304 := ⟨rfl, rfl⟩
set_option maxRecDepth 100000 in
theorem jf_259_304 : jG m_R_finds 304 (.isub) [] (.null) 305 := ⟨rfl, rfl⟩
set_option maxRecDepth 100000 in
theorem jf_259_305 : jG m_R_finds 305 (.dup2) [] (.null) 306 := ⟨rfl, rfl⟩
set_option maxRecDepth 100000 in
theorem jf_259_306 : jG m_R_finds 306 (.iaload) [] (.null) 307 := ⟨rfl, rfl⟩
set_option maxRecDepth 100000 in
theorem jf_259_307 : jG m_R_finds 307 (.iconst 1) [] (.null) 308 := ⟨rfl, rfl⟩
set_option maxRecDepth 100000 in
theorem jf_259_308 : jG m_R_finds 308 (.iadd) [] (.null) 309 := ⟨rfl, rfl⟩
set_option maxRecDepth 100000 in
theorem jf_259_309 : jG m_R_finds 309 (.iastore) [] (.null) 310 := ⟨rfl, rfl⟩
set_option maxRecDepth 100000 in
theorem jf_259_310 : jG m_R_finds 310 (.aload_n 0) [] (.null) 311 := ⟨rfl, rfl⟩
set_option maxRecDepth 100000 in
theorem jf_259_311 : jG m_R_finds 311 (.getfield 137) [9, 56] (.null) 314 := ⟨rfl, rfl⟩
set_option maxRecDepth 100000 in
theorem jf_259_314 : jG m_R_finds 314 (.iload_n 3) [] (.null) 315 := ⟨rfl, rfl⟩
set_option maxRecDepth 100000 in
theorem jf_259_315 : jG m_R_finds 315 (.iaload) [] (.null) 316 := ⟨rfl, rfl⟩
set_option maxRecDepth 100000 in
theorem jf_259_316 : jG m_R_finds 316 (.istore_n 3) [] (.null) 317 := ⟨rfl, rfl⟩
set_option maxRecDepth 100000 in
theorem jf_259_317 : jG m_R_finds 317 (.goto (-40)) [277] (.null) 320 := ⟨rfl, rfl⟩
set_option maxRecDepth 100000 in
theorem jf_259_320 : jG m_R_finds 320 (.iinc 2 1) [] (.null) 323 := ⟨rfl, rfl⟩
set_option maxRecDepth 100000 in
theorem jf_259_323 : jG m_R_finds 323 (.goto (-209)) [114] (.null) 326 := ⟨rfl, rfl⟩
set_option maxRecDepth 100000 in
theorem jf_259_326 : jG m_R_finds 326 (.return_) [] (.null) 327 := ⟨rfl, rfl⟩
theorem jf_260_0 : jG m_R_cycle 0 (.aload_n 0) [] (.null) 1 := ⟨rfl, rfl⟩
theorem jf_260_1 : jG m_R_cycle 1 (.iload_n 1) [] (.null) 2 := ⟨rfl, rfl⟩
theorem jf_260_2 : jG m_R_cycle 2 (.invokevirtual 440) [6, 1, 9, m_R_isDead] (.null) 5 := ⟨rfl, rfl⟩
theorem jf_260_5 : jG m_R_cycle 5 (.ifCond .ne 5) [10] (.null) 8 := ⟨rfl, rfl⟩
theorem jf_260_8 : jG m_R_cycle 8 (.iconst 0) [] (.null) 9 := ⟨rfl, rfl⟩
theorem jf_260_9 : jG m_R_cycle 9 (.ireturn) [] (.null) 10 := ⟨rfl, rfl⟩
theorem jf_260_10 : jG m_R_cycle 10 (.aload_n 0) [] (.null) 11 := ⟨rfl, rfl⟩
theorem jf_260_11 : jG m_R_cycle 11 (.iload_n 1) [] (.null) 12 := ⟨rfl, rfl⟩
theorem jf_260_12 : jG m_R_cycle 12 (.invokevirtual 443) [6, 1, 9, m_R_finds] (.null) 15 := ⟨rfl, rfl⟩
theorem jf_260_15 : jG m_R_cycle 15 (.iload_n 2) [] (.null) 16 := ⟨rfl, rfl⟩
theorem jf_260_16 : jG m_R_cycle 16 (.iconst 0) [] (.null) 17 := ⟨rfl, rfl⟩
theorem jf_260_17 : jG m_R_cycle 17 (.aload_n 0) [] (.null) 18 := ⟨rfl, rfl⟩
theorem jf_260_18 : jG m_R_cycle 18 (.getfield 436) [9, 55] (.null) 21 := ⟨rfl, rfl⟩
theorem jf_260_21 : jG m_R_cycle 21 (.iconst 1) [] (.null) 22 := ⟨rfl, rfl⟩
theorem jf_260_22 : jG m_R_cycle 22 (.isub) [] (.null) 23 := ⟨rfl, rfl⟩
theorem jf_260_23 : jG m_R_cycle 23 (.invokestatic 170) [3, m_R_in, 3] (.null) 26 := ⟨rfl, rfl⟩
theorem jf_260_26 : jG m_R_cycle 26 (.ifCond .ne 5) [31] (.null) 29 := ⟨rfl, rfl⟩
theorem jf_260_29 : jG m_R_cycle 29 (.iconst 0) [] (.null) 30 := ⟨rfl, rfl⟩
theorem jf_260_30 : jG m_R_cycle 30 (.ireturn) [] (.null) 31 := ⟨rfl, rfl⟩
theorem jf_260_31 : jG m_R_cycle 31 (.iconst (-1)) [] (.null) 32 := ⟨rfl, rfl⟩
theorem jf_260_32 : jG m_R_cycle 32 (.istore 4) [] (.null) 34 := ⟨rfl, rfl⟩
theorem jf_260_34 : jG m_R_cycle 34 (.iload_n 2) [] (.null) 35 := ⟨rfl, rfl⟩
theorem jf_260_35 : jG m_R_cycle 35 (.istore 5) [] (.null) 37 := ⟨rfl, rfl⟩
theorem jf_260_37 : jG m_R_cycle 37 (.iconst 0) [] (.null) 38 := ⟨rfl, rfl⟩
theorem jf_260_38 : jG m_R_cycle 38 (.istore 6) [] (.null) 40 := ⟨rfl, rfl⟩
theorem jf_260_40 : jG m_R_cycle 40 (.iload 6) [] (.null) 42 := ⟨rfl, rfl⟩
theorem jf_260_42 : jG m_R_cycle 42 (.ldc 136) [] (.int (65536)) 44 := ⟨rfl, rfl⟩
theorem jf_260_44 : jG m_R_cycle 44 (.if_icmp .ge 56) [100] (.null) 47 := ⟨rfl, rfl⟩
theorem jf_260_47 : jG m_R_cycle 47 (.iload 4) [] (.null) 49 := ⟨rfl, rfl⟩
theorem jf_260_49 : jG m_R_cycle 49 (.iconst (-1)) [] (.null) 50 := ⟨rfl, rfl⟩
theorem jf_260_50 : jG m_R_cycle 50 (.if_icmp .ne 50) [100] (.null) 53 := ⟨rfl, rfl⟩
theorem jf_260_53 : jG m_R_cycle 53 (.aload_n 0) [] (.null) 54 := ⟨rfl, rfl⟩
theorem jf_260_54 : jG m_R_cycle 54 (.getfield 143) [9, 58] (.null) 57 := ⟨rfl, rfl⟩
theorem jf_260_57 : jG m_R_cycle 57 (.aload_n 0) [] (.null) 58 := ⟨rfl, rfl⟩
theorem jf_260_58 : jG m_R_cycle 58 (.getfield 140) [9, 57] (.null) 61 := ⟨rfl, rfl⟩
theorem jf_260_61 : jG m_R_cycle 61 (.iload 6) [] (.null) 63 := ⟨rfl, rfl⟩
theorem jf_260_63 : jG m_R_cycle 63 (.iaload) [] (.null) 64 := ⟨rfl, rfl⟩
theorem jf_260_64 : jG m_R_cycle 64 (.iconst 1) [] (.null) 65 := ⟨rfl, rfl⟩
theorem jf_260_65 : jG m_R_cycle 65 (.isub) [] (.null) 66 := ⟨rfl, rfl⟩
theorem jf_260_66 : jG m_R_cycle 66 (.iaload) [] (.null) 67 := ⟨rfl, rfl⟩
theorem jf_260_67 : jG m_R_cycle 67 (.iload 6) [] (.null) 69 := ⟨rfl, rfl⟩
theorem jf_260_69 : jG m_R_cycle 69 (.if_icmp .eq 6) [75] (.null) 72 := ⟨rfl, rfl⟩
theorem jf_260_72 : jG m_R_cycle 72 (.goto 22) [94] (.null) 75 := ⟨rfl, rfl⟩
theorem jf_260_75 : jG m_R_cycle 75 (.iload 5) [] (.null) 77 := ⟨rfl, rfl⟩
theorem jf_260_77 : jG m_R_cycle 77 (.ifCond .ne 14) [91] (.null) 80 := ⟨rfl, rfl⟩
theorem jf_260_80 : jG m_R_cycle 80 (.aload_n 0) [] (.null) 81 := ⟨rfl, rfl⟩
theorem jf_260_81 : jG m_R_cycle 81 (.getfield 140) [9, 57] (.null) 84 := ⟨rfl, rfl⟩
theorem jf_260_84 : jG m_R_cycle 84 (.iload 6) [] (.null) 86 := ⟨rfl, rfl⟩
theorem jf_260_86 : jG m_R_cycle 86 (.iaload) [] (.null) 87 := ⟨rfl, rfl⟩
theorem jf_260_87 : jG m_R_cycle 87 (.iconst 1) [] (.null) 88 := ⟨rfl, rfl⟩
theorem jf_260_88 : jG m_R_cycle 88 (.isub) [] (.null) 89 := ⟨rfl, rfl⟩
theorem jf_260_89 : jG m_R_cycle 89 (.istore 4) [] (.null) 91 := ⟨rfl, rfl⟩
theorem jf_260_91 : jG m_R_cycle 91 (.iinc 5 (-1)) [] (.null) 94 := ⟨rfl, rfl⟩
theorem jf_260_94 : jG m_R_cycle 94 (.iinc 6 1) [] (.null) 97 := ⟨rfl, rfl⟩
theorem jf_260_97 : jG m_R_cycle 97 (.goto (-57)) [40] (.null) 100 := ⟨rfl, rfl⟩
theorem jf_260_100 : jG m_R_cycle 100 (.iload_n 3) [] (.null) 101 := ⟨rfl, rfl⟩
theorem jf_260_101 : jG m_R_cycle 101 (.ifCond .ne 17) [118] (.null) 104 := ⟨rfl, rfl⟩
theorem jf_260_104 : jG m_R_cycle 104 (.aload_n 0) [] (.null) 105 := ⟨rfl, rfl⟩
theorem jf_260_105 : jG m_R_cycle 105 (.getfield 143) [9, 58] (.null) 108 := ⟨rfl, rfl⟩
theorem jf_260_108 : jG m_R_cycle 108 (.iload 4) [] (.null) 110 := ⟨rfl, rfl⟩
theorem jf_260_110 : jG m_R_cycle 110 (.iaload) [] (.null) 111 := ⟨rfl, rfl⟩
theorem jf_260_111 : jG m_R_cycle 111 (.ldc_w 439) [] (.int (32768)) 114 := ⟨rfl, rfl⟩
theorem jf_260_114 : jG m_R_cycle 114 (.isub) [] (.null) 115 := ⟨rfl, rfl⟩
theorem jf_260_115 : jG m_R_cycle 115 (.goto 34) [149] (.null) 118 := ⟨rfl, rfl⟩
theorem jf_260_118 : jG m_R_cycle 118 (.iload_n 3) [] (.null) 119 := ⟨rfl, rfl⟩
theorem jf_260_119 : jG m_R_cycle 119 (.iconst 1) [] (.null) 120 := ⟨rfl, rfl⟩
theorem jf_260_120 : jG m_R_cycle 120 (.if_icmp .ne 13) [133] (.null) 123 := ⟨rfl, rfl⟩
theorem jf_260_123 : jG m_R_cycle 123 (.aload_n 0) [] (.null) 124 := ⟨rfl, rfl⟩
theorem jf_260_124 : jG m_R_cycle 124 (.getfield 146) [9, 59] (.null) 127 := ⟨rfl, rfl⟩
theorem jf_260_127 : jG m_R_cycle 127 (.iload 4) [] (.null) 129 := ⟨rfl, rfl⟩
theorem jf_260_129 : jG m_R_cycle 129 (.iaload) [] (.null) 130 := ⟨rfl, rfl⟩
theorem jf_260_130 : jG m_R_cycle 130 (.goto 19) [149] (.null) 133 := ⟨rfl, rfl⟩
theorem jf_260_133 : jG m_R_cycle 133 (.iload_n 3) [] (.null) 134 := ⟨rfl, rfl⟩
theorem jf_260_134 : jG m_R_cycle 134 (.iconst 2) [] (.null) 135 := ⟨rfl, rfl⟩
theorem jf_260_135 : jG m_R_cycle 135 (.if_icmp .ne 13) [148] (.null) 138 := ⟨rfl, rfl⟩
theorem jf_260_138 : jG m_R_cycle 138 (.aload_n 0) [] (.null) 139 := ⟨rfl, rfl⟩
theorem jf_260_139 : jG m_R_cycle 139 (.getfield 149) [9, 60] (.null) 142 := ⟨rfl, rfl⟩
theorem jf_260_142 : jG m_R_cycle 142 (.iload 4) [] (.null) 144 := ⟨rfl, rfl⟩
theorem jf_260_144 : jG m_R_cycle 144 (.iaload) [] (.null) 145 := ⟨rfl, rfl⟩
theorem jf_260_145 : jG m_R_cycle 145 (.goto 4) [149] (.null) 148 := ⟨rfl, rfl⟩
theorem jf_260_148 : jG m_R_cycle 148 (.iconst 0) [] (.null) 149 := ⟨rfl, rfl⟩
theorem jf_260_149 : jG m_R_cycle 149 (.ireturn) [] (.null) 150 := ⟨rfl, rfl⟩
theorem jf_261_0 : jG m_R_convert 0 (.aload_n 0) [] (.null) 1 := ⟨rfl, rfl⟩
theorem jf_261_1 : jG m_R_convert 1 (.iload_n 1) [] (.null) 2 := ⟨rfl, rfl⟩
theorem jf_261_2 : jG m_R_convert 2 (.invokevirtual 383) [6, 1, 9, m_R_isFed] (.null) 5 := ⟨rfl, rfl⟩
theorem jf_261_5 : jG m_R_convert 5 (.ifCond .eq 12) [17] (.null) 8 := ⟨rfl, rfl⟩
theorem jf_261_8 : jG m_R_convert 8 (.iload_n 2) [] (.null) 9 := ⟨rfl, rfl⟩
theorem jf_261_9 : jG m_R_convert 9 (.iconst 0) [] (.null) 10 := ⟨rfl, rfl⟩
theorem jf_261_10 : jG m_R_convert 10 (.iconst 2) [] (.null) 11 := ⟨rfl, rfl⟩
theorem jf_261_11 : jG m_R_convert 11 (.invokestatic 170) [3, m_R_in, 3] (.null) 14 := ⟨rfl, rfl⟩
theorem jf_261_14 : jG m_R_convert 14 (.ifCond .ne 5) [19] (.null) 17 := ⟨rfl, rfl⟩
theorem jf_261_17 : jG m_R_convert 17 (.iconst (-1)) [] (.null) 18 := ⟨rfl, rfl⟩
theorem jf_261_18 : jG m_R_convert 18 (.ireturn) [] (.null) 19 := ⟨rfl, rfl⟩
theorem jf_261_19 : jG m_R_convert 19 (.aload_n 0) [] (.null) 20 := ⟨rfl, rfl⟩
theorem jf_261_20 : jG m_R_convert 20 (.iconst 0) [] (.null) 21 := ⟨rfl, rfl⟩
theorem jf_261_21 : jG m_R_convert 21 (.putfield 463) [9, 61] (.null) 24 := ⟨rfl, rfl⟩
theorem jf_261_24 : jG m_R_convert 24 (.aload_n 0) [] (.null) 25 := ⟨rfl, rfl⟩
theorem jf_261_25 : jG m_R_convert 25 (.iconst 0) [] (.null) 26 := ⟨rfl, rfl⟩
theorem jf_261_26 : jG m_R_convert 26 (.putfield 452) [9, 62] (.null) 29 := ⟨rfl, rfl⟩
theorem jf_261_29 : jG m_R_convert 29 (.aload_n 0) [] (.null) 30 := ⟨rfl, rfl⟩
theorem jf_261_30 : jG m_R_convert 30 (.iconst 1) [] (.null) 31 := ⟨rfl, rfl⟩
theorem jf_261_31 : jG m_R_convert 31 (.putfield 455) [9, 63] (.null) 34 := ⟨rfl, rfl⟩
theorem jf_261_34 : jG m_R_convert 34 (.aload_n 0) [] (.null) 35 := ⟨rfl, rfl⟩
theorem jf_261_35 : jG m_R_convert 35 (.iload_n 1) [] (.null) 36 := ⟨rfl, rfl⟩
theorem jf_261_36 : jG m_R_convert 36 (.invokevirtual 400) [6, 1, 9, m_R_trees] (.null) 39 := ⟨rfl, rfl⟩
theorem jf_261_39 : jG m_R_convert 39 (.iconst 0) [] (.null) 40 := ⟨rfl, rfl⟩
theorem jf_261_40 : jG m_R_convert 40 (.istore_n 3) [] (.null) 41 := ⟨rfl, rfl⟩
theorem jf_261_41 : jG m_R_convert 41 (.iload_n 3) [] (.null) 42 := ⟨rfl, rfl⟩
theorem jf_261_42 : jG m_R_convert 42 (.aload_n 0) [] (.null) 43 := ⟨rfl, rfl⟩
theorem jf_261_43 : jG m_R_convert 43 (.getfield 380) [9, 42] (.null) 46 := ⟨rfl, rfl⟩
theorem jf_261_46 : jG m_R_convert 46 (.if_icmp .ge 20) [66] (.null) 49 := ⟨rfl, rfl⟩
theorem jf_261_49 : jG m_R_convert 49 (.aload_n 0) [] (.null) 50 := ⟨rfl, rfl⟩
theorem jf_261_50 : jG m_R_convert 50 (.aload_n 0) [] (.null) 51 := ⟨rfl, rfl⟩
theorem jf_261_51 : jG m_R_convert 51 (.getfield 106) [9, 43] (.null) 54 := ⟨rfl, rfl⟩
theorem jf_261_54 : jG m_R_convert 54 (.iload_n 3) [] (.null) 55 := ⟨rfl, rfl⟩
theorem jf_261_55 : jG m_R_convert 55 (.iaload) [] (.null) 56 := ⟨rfl, rfl⟩
theorem jf_261_56 : jG m_R_convert 56 (.iload_n 2) [] (.null) 57 := ⟨rfl, rfl⟩
theorem jf_261_57 : jG m_R_convert 57 (.invokevirtual 466) [6, 2, 9, m_R_asks] (.null) 60 := ⟨rfl, rfl⟩
theorem jf_261_60 : jG m_R_convert 60 (.iinc 3 1) [] (.null) 63 := ⟨rfl, rfl⟩
theorem jf_261_63 : jG m_R_convert 63 (.goto (-22)) [41] (.null) 66 := ⟨rfl, rfl⟩
theorem jf_261_66 : jG m_R_convert 66 (.aload_n 0) [] (.null) 67 := ⟨rfl, rfl⟩
theorem jf_261_67 : jG m_R_convert 67 (.getfield 455) [9, 63] (.null) 70 := ⟨rfl, rfl⟩
theorem jf_261_70 : jG m_R_convert 70 (.ifCond .eq 31) [101] (.null) 73 := ⟨rfl, rfl⟩
theorem jf_261_73 : jG m_R_convert 73 (.aload_n 0) [] (.null) 74 := ⟨rfl, rfl⟩
theorem jf_261_74 : jG m_R_convert 74 (.getfield 167) [9, 1] (.null) 77 := ⟨rfl, rfl⟩
theorem jf_261_77 : jG m_R_convert 77 (.aload_n 0) [] (.null) 78 := ⟨rfl, rfl⟩
theorem jf_261_78 : jG m_R_convert 78 (.getfield 463) [9, 61] (.null) 81 := ⟨rfl, rfl⟩
theorem jf_261_81 : jG m_R_convert 81 (.iadd) [] (.null) 82 := ⟨rfl, rfl⟩
theorem jf_261_82 : jG m_R_convert 82 (.bipush 60) [] (.null) 84 := ⟨rfl, rfl⟩
theorem jf_261_84 : jG m_R_convert 84 (.if_icmp .gt 17) [101] (.null) 87 := ⟨rfl, rfl⟩
theorem jf_261_87 : jG m_R_convert 87 (.aload_n 0) [] (.null) 88 := ⟨rfl, rfl⟩
theorem jf_261_88 : jG m_R_convert 88 (.getfield 174) [9, 16] (.null) 91 := ⟨rfl, rfl⟩
theorem jf_261_91 : jG m_R_convert 91 (.aload_n 0) [] (.null) 92 := ⟨rfl, rfl⟩
theorem jf_261_92 : jG m_R_convert 92 (.getfield 452) [9, 62] (.null) 95 := ⟨rfl, rfl⟩
theorem jf_261_95 : jG m_R_convert 95 (.iadd) [] (.null) 96 := ⟨rfl, rfl⟩
theorem jf_261_96 : jG m_R_convert 96 (.bipush 20) [] (.null) 98 := ⟨rfl, rfl⟩
theorem jf_261_98 : jG m_R_convert 98 (.if_icmp .le 5) [103] (.null) 101 := ⟨rfl, rfl⟩
theorem jf_261_101 : jG m_R_convert 101 (.iconst (-1)) [] (.null) 102 := ⟨rfl, rfl⟩
theorem jf_261_102 : jG m_R_convert 102 (.ireturn) [] (.null) 103 := ⟨rfl, rfl⟩
theorem jf_261_103 : jG m_R_convert 103 (.aload_n 0) [] (.null) 104 := ⟨rfl, rfl⟩
theorem jf_261_104 : jG m_R_convert 104 (.iload_n 1) [] (.null) 105 := ⟨rfl, rfl⟩
theorem jf_261_105 : jG m_R_convert 105 (.iload_n 2) [] (.null) 106 := ⟨rfl, rfl⟩
theorem jf_261_106 : jG m_R_convert 106 (.invokevirtual 469) [6, 2, 9, m_R_anew] (.null) 109 := ⟨rfl, rfl⟩
theorem jf_261_109 : jG m_R_convert 109 (.ireturn) [] (.null) 110 := ⟨rfl, rfl⟩
set_option maxRecDepth 100000 in
theorem jf_262_0 : jG m_R_asks 0 (.aload_n 0) [] (.null) 1 := ⟨rfl, rfl⟩
set_option maxRecDepth 100000 in
theorem jf_262_1 : jG m_R_asks 1 (.dup) [] (.null) 2 := ⟨rfl, rfl⟩
set_option maxRecDepth 100000 in
theorem jf_262_2 : jG m_R_asks 2 (.getfield 452) [9, 62] (.null) 5 := ⟨rfl, rfl⟩
set_option maxRecDepth 100000 in
theorem jf_262_5 : jG m_R_asks 5 (.iconst 1) [] (.null) 6 := ⟨rfl, rfl⟩
set_option maxRecDepth 100000 in
theorem jf_262_6 : jG m_R_asks 6 (.iadd) [] (.null) 7 := ⟨rfl, rfl⟩
set_option maxRecDepth 100000 in
theorem jf_262_7 : jG m_R_asks 7 (.putfield 452) [9, 62] (.null) 10 := ⟨rfl, rfl⟩
set_option maxRecDepth 100000 in
theorem jf_262_10 : jG m_R_asks 10 (.aload_n 0) [] (.null) 11 := ⟨rfl, rfl⟩
set_option maxRecDepth 100000 in
theorem jf_262_11 : jG m_R_asks 11 (.iload_n 1) [] (.null) 12 := ⟨rfl, rfl⟩
set_option maxRecDepth 100000 in
theorem jf_262_12 : jG m_R_asks 12 (.invokevirtual 266) [6, 1, 9, m_R_sortOf] (.null) 15 := ⟨rfl, rfl⟩
set_option maxRecDepth 100000 in
theorem jf_262_15 : jG m_R_asks 15 (.istore_n 3) [] (.null) 16 := ⟨rfl, rfl⟩
set_option maxRecDepth 100000 in
theorem jf_262_16 : jG m_R_asks 16 (.iconst 3) [] (.null) 17 := ⟨rfl, rfl⟩
set_option maxRecDepth 100000 in
theorem jf_262_17 : jG m_R_asks 17 (.iload_n 1) [] (.null) 18 := ⟨rfl, rfl⟩
set_option maxRecDepth 100000 in
theorem jf_262_18 : jG m_R_asks 18 (.imul) [] (.null) 19 := ⟨rfl, rfl⟩
set_option maxRecDepth 100000 in
theorem jf_262_19 : jG m_R_asks 19 (.istore 4) [] (.null) 21 := ⟨rfl, rfl⟩
set_option maxRecDepth 100000 in
theorem jf_262_21 : jG m_R_asks 21 (.iload 4) [] (.null) 23 := ⟨rfl, rfl⟩
set_option maxRecDepth 100000 in
theorem jf_262_23 : jG m_R_asks 23 (.iconst 3) [] (.null) 24 := ⟨rfl, rfl⟩
set_option maxRecDepth 100000 in
theorem jf_262_24 : jG m_R_asks 24 (.iload_n 1) [] (.null) 25 := ⟨rfl, rfl⟩
set_option maxRecDepth 100000 in
theorem jf_262_25 : jG m_R_asks 25 (.imul) [] (.null) 26 := ⟨rfl, rfl⟩
set_option maxRecDepth 100000 in
theorem jf_262_26 : jG m_R_asks 26 (.aload_n 0) [] (.null) 27 := ⟨rfl, rfl⟩
set_option maxRecDepth 100000 in
theorem jf_262_27 : jG m_R_asks 27 (.getfield 67) [9, 20] (.null) 30 := ⟨rfl, rfl⟩
set_option maxRecDepth 100000 in
theorem jf_262_30 : jG m_R_asks 30 (.iload_n 1) [] (.null) 31 := ⟨rfl, rfl⟩
set_option maxRecDepth 100000 in
theorem jf_262_31 : jG m_R_asks 31 (.iaload) [] (.null) 32 := ⟨rfl, rfl⟩
set_option maxRecDepth 100000 in
theorem jf_262_32 : jG m_R_asks 32 (.iadd) [] (.null) 33 := ⟨rfl, rfl⟩
set_option maxRecDepth 100000 in
theorem jf_262_33 : jG m_R_asks 33 (.if_icmp .ge 50) [83] (.null) 36 := ⟨rfl, rfl⟩
set_option maxRecDepth 100000 in
theorem jf_262_36 : jG m_R_asks 36 (.aload_n 0) [] (.null) 37 := ⟨rfl, rfl⟩
set_option maxRecDepth 100000 in
theorem jf_262_37 : jG m_R_asks 37 (.aload_n 0) [] (.null) 38 := ⟨rfl, rfl⟩
set_option maxRecDepth 100000 in
theorem jf_262_38 : jG m_R_asks 38 (.getfield 455) [9, 63] (.null) 41 := ⟨rfl, rfl⟩
set_option maxRecDepth 100000 in
theorem jf_262_41 : jG m_R_asks 41 (.ifCond .eq 32) [73] (.null) 44 := ⟨rfl, rfl⟩
set_option maxRecDepth 100000 in
theorem jf_262_44 : jG m_R_asks 44 (.iload_n 2) [] (.null) 45 := ⟨rfl, rfl⟩
set_option maxRecDepth 100000 in
theorem jf_262_45 : jG m_R_asks 45 (.iconst 2) [] (.null) 46 := ⟨rfl, rfl⟩
set_option maxRecDepth 100000 in
theorem jf_262_46 : jG m_R_asks 46 (.if_icmp .ne 23) [69] (.null) 49 := ⟨rfl, rfl⟩
set_option maxRecDepth 100000 in
theorem jf_262_49 : jG m_R_asks 49 (.aload_n 0) [] (.null) 50 := ⟨rfl, rfl⟩
set_option maxRecDepth 100000 in
theorem jf_262_50 : jG m_R_asks 50 (.getfield 79) [9, 24] (.null) 53 := ⟨rfl, rfl⟩
set_option maxRecDepth 100000 in
theorem jf_262_53 : jG m_R_asks 53 (.iload 4) [] (.null) 55 := ⟨rfl, rfl⟩
set_option maxRecDepth 100000 in
theorem jf_262_55 : jG m_R_asks 55 (.daload) [] (.null) 56 := ⟨rfl, rfl⟩
set_option maxRecDepth 100000 in
theorem jf_262_56 : jG m_R_asks 56 (.iload_n 3) [] (.null) 57 := ⟨rfl, rfl⟩
set_option maxRecDepth 100000 in
theorem jf_262_57 : jG m_R_asks 57 (.iload_n 2) [] (.null) 58 := ⟨rfl, rfl⟩
set_option maxRecDepth 100000 in
theorem jf_262_58 : jG m_R_asks 58 (.iconst 0) [] (.null) 59 := ⟨rfl, rfl⟩
set_option maxRecDepth 100000 in
theorem jf_262_59 : jG m_R_asks 59 (.invokestatic 459) [3, m_R_turned, 4] (.null) 62 := ⟨rfl, rfl⟩
set_option maxRecDepth 100000 in
theorem jf_262_62 : jG m_R_asks 62 (.ldc2_w 446) [] (.double (4675730371722084352)) 65 := ⟨rfl, rfl⟩
set_option maxRecDepth 100000 in
theorem jf_262_65 : jG m_R_asks 65 (.dcmp .l) [] (.null) 66 := ⟨rfl, rfl⟩
set_option maxRecDepth 100000 in
theorem jf_262_66 : jG m_R_asks 66 (.ifCond .eq 7) [73] (.null) 69 := ⟨rfl, rfl⟩
set_option maxRecDepth 100000 in
theorem jf_262_69 : jG m_R_asks 69 (.iconst 1) [] (.null) 70 := ⟨rfl, rfl⟩
set_option maxRecDepth 100000 in
theorem jf_262_70 : jG m_R_asks 70 (.goto 4) [74] (.null) 73 := ⟨rfl, rfl⟩
set_option maxRecDepth 100000 in
theorem jf_262_73 : jG m_R_asks 73 (.iconst 0) [] (.null) 74 := ⟨rfl, rfl⟩
set_option maxRecDepth 100000 in
theorem jf_262_74 : jG m_R_asks 74 (.putfield 455) [9, 63] (.null) 77 := ⟨rfl, rfl⟩
set_option maxRecDepth 100000 in
theorem jf_262_77 : jG m_R_asks 77 (.iinc 4 1) [] (.null) 80 := ⟨rfl, rfl⟩
set_option maxRecDepth 100000 in
theorem jf_262_80 : jG m_R_asks 80 (.goto (-59)) [21] (.null) 83 := ⟨rfl, rfl⟩
set_option maxRecDepth 100000 in
theorem jf_262_83 : jG m_R_asks 83 (.iconst 0) [] (.null) 84 := ⟨rfl, rfl⟩
set_option maxRecDepth 100000 in
theorem jf_262_84 : jG m_R_asks 84 (.istore 4) [] (.null) 86 := ⟨rfl, rfl⟩
set_option maxRecDepth 100000 in
theorem jf_262_86 : jG m_R_asks 86 (.iload 4) [] (.null) 88 := ⟨rfl, rfl⟩
set_option maxRecDepth 100000 in
theorem jf_262_88 : jG m_R_asks 88 (.aload_n 0) [] (.null) 89 := ⟨rfl, rfl⟩
set_option maxRecDepth 100000 in
theorem jf_262_89 : jG m_R_asks 89 (.getfield 58) [9, 17] (.null) 92 := ⟨rfl, rfl⟩
set_option maxRecDepth 100000 in
theorem jf_262_92 : jG m_R_asks 92 (.iload_n 1) [] (.null) 93 := ⟨rfl, rfl⟩
set_option maxRecDepth 100000 in
theorem jf_262_93 : jG m_R_asks 93 (.iaload) [] (.null) 94 := ⟨rfl, rfl⟩
set_option maxRecDepth 100000 in
theorem jf_262_94 : jG m_R_asks 94 (.if_icmp .ge 108) [202] (.null) 97 := ⟨rfl, rfl⟩
set_option maxRecDepth 100000 in
theorem jf_262_97 : jG m_R_asks 97 (.aload_n 0) [] (.null) 98 := ⟨rfl, rfl⟩
set_option maxRecDepth 100000 in
theorem jf_262_98 : jG m_R_asks 98 (.getfield 61) [9, 18] (.null) 101 := ⟨rfl, rfl⟩
set_option maxRecDepth 100000 in
theorem jf_262_101 : jG m_R_asks 101 (.bipush 10) [] (.null) 103 := ⟨rfl, rfl⟩
set_option maxRecDepth 100000 in
theorem jf_262_103 : jG m_R_asks 103 (.iload_n 1) [] (.null) 104 := ⟨rfl, rfl⟩
set_option maxRecDepth 100000 in
theorem jf_262_104 : jG m_R_asks 104 (.imul) [] (.null) 105 := ⟨rfl, rfl⟩
set_option maxRecDepth 100000 in
theorem jf_262_105 : jG m_R_asks 105 (.iload 4) [] (.null) 107 := ⟨rfl, rfl⟩
set_option maxRecDepth 100000 in
theorem jf_262_107 : jG m_R_asks 107 (.iadd) [] (.null) 108 := ⟨rfl, rfl⟩
set_option maxRecDepth 100000 in
theorem jf_262_108 : jG m_R_asks 108 (.iaload) [] (.null) 109 := ⟨rfl, rfl⟩
set_option maxRecDepth 100000 in
theorem jf_262_109 : jG m_R_asks 109 (.istore 5) [] (.null) 111 := ⟨rfl, rfl⟩
set_option maxRecDepth 100000 in
theorem jf_262_111 : jG m_R_asks 111 (.aload_n 0) [] (.null) 112 := ⟨rfl, rfl⟩
set_option maxRecDepth 100000 in
theorem jf_262_112 : jG m_R_asks 112 (.dup) [] (.null) 113 := ⟨rfl, rfl⟩
set_option maxRecDepth 100000 in
theorem jf_262_113 : jG m_R_asks 113 (.getfield 463) [9, 61] (.null) 116 := ⟨rfl, rfl⟩
set_option maxRecDepth 100000 in
theorem jf_262_116 : jG m_R_asks 116 (.iconst 1) [] (.null) 117 := ⟨rfl, rfl⟩
set_option maxRecDepth 100000 in
theorem jf_262_117 : jG m_R_asks 117 (.iadd) [] (.null) 118 := ⟨rfl, rfl⟩
set_option maxRecDepth 100000 in
theorem jf_262_118 : jG m_R_asks 118 (.putfield 463) [9, 61] (.null) 121 := ⟨rfl, rfl⟩
set_option maxRecDepth 100000 in
theorem jf_262_121 : jG m_R_asks 121 (.iconst 0) [] (.null) 122 := ⟨rfl, rfl⟩
set_option maxRecDepth 100000 in
theorem jf_262_122 : jG m_R_asks 122 (.istore 6) [] (.null) 124 := ⟨rfl, rfl⟩
set_option maxRecDepth 100000 in
theorem jf_262_124 : jG m_R_asks 124 (.iload 6) [] (.null) 126 := ⟨rfl, rfl⟩
set_option maxRecDepth 100000 in
theorem jf_262_126 : jG m_R_asks 126 (.aload_n 0) [] (.null) 127 := ⟨rfl, rfl⟩
set_option maxRecDepth 100000 in
theorem jf_262_127 : jG m_R_asks 127 (.getfield 13) [9, 2] (.null) 130 := ⟨rfl, rfl⟩
set_option maxRecDepth 100000 in
theorem jf_262_130 : jG m_R_asks 130 (.iload 5) [] (.null) 132 := ⟨rfl, rfl⟩
set_option maxRecDepth 100000 in
theorem jf_262_132 : jG m_R_asks 132 (.iaload) [] (.null) 133 := ⟨rfl, rfl⟩
set_option maxRecDepth 100000 in
theorem jf_262_133 : jG m_R_asks 133 (.invokestatic 233) [3, m_R_coefficientsOf, 1] (.null) 136 := ⟨rfl, rfl⟩
set_option maxRecDepth 100000 in
theorem jf_262_136 : jG m_R_asks 136 (.if_icmp .ge 60) [196] (.null) 139 := ⟨rfl, rfl⟩
set_option maxRecDepth 100000 in
theorem jf_262_139 : jG m_R_asks 139 (.aload_n 0) [] (.null) 140 := ⟨rfl, rfl⟩
set_option maxRecDepth 100000 in
theorem jf_262_140 : jG m_R_asks 140 (.aload_n 0) [] (.null) 141 := ⟨rfl, rfl⟩
set_option maxRecDepth 100000 in
theorem jf_262_141 : jG m_R_asks 141 (.getfield 455) [9, 63] (.null) 144 := ⟨rfl, rfl⟩
set_option maxRecDepth 100000 in
theorem jf_262_144 : jG m_R_asks 144 (.ifCond .eq 42) [186] (.null) 147 := ⟨rfl, rfl⟩
set_option maxRecDepth 100000 in
theorem jf_262_147 : jG m_R_asks 147 (.iload_n 2) [] (.null) 148 := ⟨rfl, rfl⟩
set_option maxRecDepth 100000 in
theorem jf_262_148 : jG m_R_asks 148 (.iconst 2) [] (.null) 149 := ⟨rfl, rfl⟩
set_option maxRecDepth 100000 in
theorem jf_262_149 : jG m_R_asks 149 (.if_icmp .ne 33) [182] (.null) 152 := ⟨rfl, rfl⟩
set_option maxRecDepth 100000 in
theorem jf_262_152 : jG m_R_asks 152 (.aload_n 0) [] (.null) 153 := ⟨rfl, rfl⟩
set_option maxRecDepth 100000 in
theorem jf_262_153 : jG m_R_asks 153 (.iload 5) [] (.null) 155 := ⟨rfl, rfl⟩
set_option maxRecDepth 100000 in
theorem jf_262_155 : jG m_R_asks 155 (.iload 6) [] (.null) 157 := ⟨rfl, rfl⟩
set_option maxRecDepth 100000 in
theorem jf_262_157 : jG m_R_asks 157 (.invokevirtual 323) [6, 2, 9, m_R_c] (.null) 160 := ⟨rfl, rfl⟩
set_option maxRecDepth 100000 in
theorem jf_262_160 : jG m_R_asks 160 (.iload_n 3) [] (.null) 161 := ⟨rfl, rfl⟩
set_option maxRecDepth 100000 in
theorem jf_262_161 : jG m_R_asks 161 (.iload_n 2) [] (.null) 162 := ⟨rfl, rfl⟩
set_option maxRecDepth 100000 in
theorem jf_262_162 : jG m_R_asks 162 (.aload_n 0) [] (.null) 163 := ⟨rfl, rfl⟩
set_option maxRecDepth 100000 in
theorem jf_262_163 : jG m_R_asks 163 (.getfield 13) [9, 2] (.null) 166 := ⟨rfl, rfl⟩
set_option maxRecDepth 100000 in
theorem jf_262_166 : jG m_R_asks 166 (.iload 5) [] (.null) 168 := ⟨rfl, rfl⟩
set_option maxRecDepth 100000 in
theorem jf_262_168 : jG m_R_asks 168 (.iaload) [] (.null) 169 := ⟨rfl, rfl⟩
set_option maxRecDepth 100000 in
theorem jf_262_169 : jG m_R_asks 169 (.invokestatic 248) [3, m_R_isPlain, 1] (.null) 172 := ⟨rfl, rfl⟩
set_option maxRecDepth 100000 in
theorem jf_262_172 : jG m_R_asks 172 (.invokestatic 459) [3, m_R_turned, 4] (.null) 175 := ⟨rfl, rfl⟩
set_option maxRecDepth 100000 in
theorem jf_262_175 : jG m_R_asks 175 (.ldc2_w 446) [] (.double (4675730371722084352)) 178 := ⟨rfl, rfl⟩
set_option maxRecDepth 100000 in
theorem jf_262_178 : jG m_R_asks 178 (.dcmp .l) [] (.null) 179 := ⟨rfl, rfl⟩
set_option maxRecDepth 100000 in
theorem jf_262_179 : jG m_R_asks 179 (.ifCond .eq 7) [186] (.null) 182 := ⟨rfl, rfl⟩
set_option maxRecDepth 100000 in
theorem jf_262_182 : jG m_R_asks 182 (.iconst 1) [] (.null) 183 := ⟨rfl, rfl⟩
set_option maxRecDepth 100000 in
theorem jf_262_183 : jG m_R_asks 183 (.goto 4) [187] (.null) 186 := ⟨rfl, rfl⟩
set_option maxRecDepth 100000 in
theorem jf_262_186 : jG m_R_asks 186 (.iconst 0) [] (.null) 187 := ⟨rfl, rfl⟩
set_option maxRecDepth 100000 in
theorem jf_262_187 : jG m_R_asks 187 (.putfield 455) [9, 63] (.null) 190 := ⟨rfl, rfl⟩
set_option maxRecDepth 100000 in
theorem jf_262_190 : jG m_R_asks 190 (.iinc 6 1) [] (.null) 193 := ⟨rfl, rfl⟩
set_option maxRecDepth 100000 in
theorem jf_262_193 : jG m_R_asks 193 (.goto (-69)) [124] (.null) 196 := ⟨rfl, rfl⟩
set_option maxRecDepth 100000 in
theorem jf_262_196 : jG m_R_asks 196 (.iinc 4 1) [] (.null) 199 := ⟨rfl, rfl⟩
set_option maxRecDepth 100000 in
theorem jf_262_199 : jG m_R_asks 199 (.goto (-113)) [86] (.null) 202 := ⟨rfl, rfl⟩
set_option maxRecDepth 100000 in
theorem jf_262_202 : jG m_R_asks 202 (.return_) [] (.null) 203 := ⟨rfl, rfl⟩
theorem jf_263_0 : jG m_R_turned 0 (.dload_n 0) [] (.null) 1 := ⟨rfl, rfl⟩
theorem jf_263_1 : jG m_R_turned 1 (.dload_n 0) [] (.null) 2 := ⟨rfl, rfl⟩
theorem jf_263_2 : jG m_R_turned 2 (.dcmp .l) [] (.null) 3 := ⟨rfl, rfl⟩
theorem jf_263_3 : jG m_R_turned 3 (.ifCond .eq 18) [21] (.null) 6 := ⟨rfl, rfl⟩
theorem jf_263_6 : jG m_R_turned 6 (.iload_n 3) [] (.null) 7 := ⟨rfl, rfl⟩
theorem jf_263_7 : jG m_R_turned 7 (.iconst 2) [] (.null) 8 := ⟨rfl, rfl⟩
theorem jf_263_8 : jG m_R_turned 8 (.if_icmp .ne 9) [17] (.null) 11 := ⟨rfl, rfl⟩
theorem jf_263_11 : jG m_R_turned 11 (.ldc2_w 446) [] (.double (4675730371722084352)) 14 := ⟨rfl, rfl⟩
theorem jf_263_14 : jG m_R_turned 14 (.goto 6) [20] (.null) 17 := ⟨rfl, rfl⟩
theorem jf_263_17 : jG m_R_turned 17 (.ldc2_w 191) [] (.double (9221120237041090560)) 20 := ⟨rfl, rfl⟩
theorem jf_263_20 : jG m_R_turned 20 (.dreturn) [] (.null) 21 := ⟨rfl, rfl⟩
theorem jf_263_21 : jG m_R_turned 21 (.iload_n 2) [] (.null) 22 := ⟨rfl, rfl⟩
theorem jf_263_22 : jG m_R_turned 22 (.iconst 2) [] (.null) 23 := ⟨rfl, rfl⟩
theorem jf_263_23 : jG m_R_turned 23 (.if_icmp .ne 16) [39] (.null) 26 := ⟨rfl, rfl⟩
theorem jf_263_26 : jG m_R_turned 26 (.iload 4) [] (.null) 28 := ⟨rfl, rfl⟩
theorem jf_263_28 : jG m_R_turned 28 (.ifCond .ne 11) [39] (.null) 31 := ⟨rfl, rfl⟩
theorem jf_263_31 : jG m_R_turned 31 (.dload_n 0) [] (.null) 32 := ⟨rfl, rfl⟩
theorem jf_263_32 : jG m_R_turned 32 (.ldc2_w 425) [] (.double (4670232813583204352)) 35 := ⟨rfl, rfl⟩
theorem jf_263_35 : jG m_R_turned 35 (.ddiv) [] (.null) 36 := ⟨rfl, rfl⟩
theorem jf_263_36 : jG m_R_turned 36 (.goto 4) [40] (.null) 39 := ⟨rfl, rfl⟩
theorem jf_263_39 : jG m_R_turned 39 (.dload_n 0) [] (.null) 40 := ⟨rfl, rfl⟩
theorem jf_263_40 : jG m_R_turned 40 (.dstore 5) [] (.null) 42 := ⟨rfl, rfl⟩
theorem jf_263_42 : jG m_R_turned 42 (.iload_n 3) [] (.null) 43 := ⟨rfl, rfl⟩
theorem jf_263_43 : jG m_R_turned 43 (.ifCond .ne 6) [49] (.null) 46 := ⟨rfl, rfl⟩
theorem jf_263_46 : jG m_R_turned 46 (.dload 5) [] (.null) 48 := ⟨rfl, rfl⟩
theorem jf_263_48 : jG m_R_turned 48 (.dreturn) [] (.null) 49 := ⟨rfl, rfl⟩
theorem jf_263_49 : jG m_R_turned 49 (.iload_n 3) [] (.null) 50 := ⟨rfl, rfl⟩
theorem jf_263_50 : jG m_R_turned 50 (.iconst 1) [] (.null) 51 := ⟨rfl, rfl⟩
theorem jf_263_51 : jG m_R_turned 51 (.if_icmp .ne 8) [59] (.null) 54 := ⟨rfl, rfl⟩
theorem jf_263_54 : jG m_R_turned 54 (.dload 5) [] (.null) 56 := ⟨rfl, rfl⟩
theorem jf_263_56 : jG m_R_turned 56 (.d2f) [] (.null) 57 := ⟨rfl, rfl⟩
theorem jf_263_57 : jG m_R_turned 57 (.f2d) [] (.null) 58 := ⟨rfl, rfl⟩
theorem jf_263_58 : jG m_R_turned 58 (.dreturn) [] (.null) 59 := ⟨rfl, rfl⟩
theorem jf_263_59 : jG m_R_turned 59 (.iload 4) [] (.null) 61 := ⟨rfl, rfl⟩
theorem jf_263_61 : jG m_R_turned 61 (.ifCond .eq 8) [69] (.null) 64 := ⟨rfl, rfl⟩
theorem jf_263_64 : jG m_R_turned 64 (.dload 5) [] (.null) 66 := ⟨rfl, rfl⟩
theorem jf_263_66 : jG m_R_turned 66 (.goto 9) [75] (.null) 69 := ⟨rfl, rfl⟩
theorem jf_263_69 : jG m_R_turned 69 (.ldc2_w 425) [] (.double (4670232813583204352)) 72 := ⟨rfl, rfl⟩
theorem jf_263_72 : jG m_R_turned 72 (.dload 5) [] (.null) 74 := ⟨rfl, rfl⟩
theorem jf_263_74 : jG m_R_turned 74 (.dmul) [] (.null) 75 := ⟨rfl, rfl⟩
theorem jf_263_75 : jG m_R_turned 75 (.dstore 7) [] (.null) 77 := ⟨rfl, rfl⟩
theorem jf_263_77 : jG m_R_turned 77 (.dload 7) [] (.null) 79 := ⟨rfl, rfl⟩
theorem jf_263_79 : jG m_R_turned 79 (.ldc2_w 448) [] (.double (13899102408576860160)) 82 := ⟨rfl, rfl⟩
theorem jf_263_82 : jG m_R_turned 82 (.dcmp .l) [] (.null) 83 := ⟨rfl, rfl⟩
theorem jf_263_83 : jG m_R_turned 83 (.ifCond .le 12) [95] (.null) 86 := ⟨rfl, rfl⟩
theorem jf_263_86 : jG m_R_turned 86 (.dload 7) [] (.null) 88 := ⟨rfl, rfl⟩
theorem jf_263_88 : jG m_R_turned 88 (.ldc2_w 446) [] (.double (4675730371722084352)) 91 := ⟨rfl, rfl⟩
theorem jf_263_91 : jG m_R_turned 91 (.dcmp .g) [] (.null) 92 := ⟨rfl, rfl⟩
theorem jf_263_92 : jG m_R_turned 92 (.ifCond .lt 7) [99] (.null) 95 := ⟨rfl, rfl⟩
theorem jf_263_95 : jG m_R_turned 95 (.ldc2_w 446) [] (.double (4675730371722084352)) 98 := ⟨rfl, rfl⟩
theorem jf_263_98 : jG m_R_turned 98 (.dreturn) [] (.null) 99 := ⟨rfl, rfl⟩
theorem jf_263_99 : jG m_R_turned 99 (.dload 7) [] (.null) 101 := ⟨rfl, rfl⟩
theorem jf_263_101 : jG m_R_turned 101 (.d2l) [] (.null) 102 := ⟨rfl, rfl⟩
theorem jf_263_102 : jG m_R_turned 102 (.l2d) [] (.null) 103 := ⟨rfl, rfl⟩
theorem jf_263_103 : jG m_R_turned 103 (.dstore 9) [] (.null) 105 := ⟨rfl, rfl⟩
theorem jf_263_105 : jG m_R_turned 105 (.dload 9) [] (.null) 107 := ⟨rfl, rfl⟩
theorem jf_263_107 : jG m_R_turned 107 (.dload 7) [] (.null) 109 := ⟨rfl, rfl⟩
theorem jf_263_109 : jG m_R_turned 109 (.dcmp .l) [] (.null) 110 := ⟨rfl, rfl⟩
theorem jf_263_110 : jG m_R_turned 110 (.ifCond .le 9) [119] (.null) 113 := ⟨rfl, rfl⟩
theorem jf_263_113 : jG m_R_turned 113 (.dload 9) [] (.null) 115 := ⟨rfl, rfl⟩
theorem jf_263_115 : jG m_R_turned 115 (.dconst 1) [] (.null) 116 := ⟨rfl, rfl⟩
theorem jf_263_116 : jG m_R_turned 116 (.dsub) [] (.null) 117 := ⟨rfl, rfl⟩
theorem jf_263_117 : jG m_R_turned 117 (.dstore 9) [] (.null) 119 := ⟨rfl, rfl⟩
theorem jf_263_119 : jG m_R_turned 119 (.dload 7) [] (.null) 121 := ⟨rfl, rfl⟩
theorem jf_263_121 : jG m_R_turned 121 (.dload 9) [] (.null) 123 := ⟨rfl, rfl⟩
theorem jf_263_123 : jG m_R_turned 123 (.dsub) [] (.null) 124 := ⟨rfl, rfl⟩
theorem jf_263_124 : jG m_R_turned 124 (.dstore 11) [] (.null) 126 := ⟨rfl, rfl⟩
theorem jf_263_126 : jG m_R_turned 126 (.dload 9) [] (.null) 128 := ⟨rfl, rfl⟩
theorem jf_263_128 : jG m_R_turned 128 (.d2l) [] (.null) 129 := ⟨rfl, rfl⟩
theorem jf_263_129 : jG m_R_turned 129 (.lconst 1) [] (.null) 130 := ⟨rfl, rfl⟩
theorem jf_263_130 : jG m_R_turned 130 (.land) [] (.null) 131 := ⟨rfl, rfl⟩
theorem jf_263_131 : jG m_R_turned 131 (.lconst 1) [] (.null) 132 := ⟨rfl, rfl⟩
theorem jf_263_132 : jG m_R_turned 132 (.lcmp) [] (.null) 133 := ⟨rfl, rfl⟩
theorem jf_263_133 : jG m_R_turned 133 (.ifCond .ne 7) [140] (.null) 136 := ⟨rfl, rfl⟩
theorem jf_263_136 : jG m_R_turned 136 (.iconst 1) [] (.null) 137 := ⟨rfl, rfl⟩
theorem jf_263_137 : jG m_R_turned 137 (.goto 4) [141] (.null) 140 := ⟨rfl, rfl⟩
theorem jf_263_140 : jG m_R_turned 140 (.iconst 0) [] (.null) 141 := ⟨rfl, rfl⟩
theorem jf_263_141 : jG m_R_turned 141 (.istore 13) [] (.null) 143 := ⟨rfl, rfl⟩
theorem jf_263_143 : jG m_R_turned 143 (.dload 11) [] (.null) 145 := ⟨rfl, rfl⟩
theorem jf_263_145 : jG m_R_turned 145 (.ldc2_w 450) [] (.double (4602678819172646912)) 148 := ⟨rfl, rfl⟩
theorem jf_263_148 : jG m_R_turned 148 (.dcmp .l) [] (.null) 149 := ⟨rfl, rfl⟩
theorem jf_263_149 : jG m_R_turned 149 (.ifCond .gt 17) [166] (.null) 152 := ⟨rfl, rfl⟩
theorem jf_263_152 : jG m_R_turned 152 (.dload 11) [] (.null) 154 := ⟨rfl, rfl⟩
theorem jf_263_154 : jG m_R_turned 154 (.ldc2_w 450) [] (.double (4602678819172646912)) 157 := ⟨rfl, rfl⟩
theorem jf_263_157 : jG m_R_turned 157 (.dcmp .l) [] (.null) 158 := ⟨rfl, rfl⟩
theorem jf_263_158 : jG m_R_turned 158 (.ifCond .ne 14) [172] (.null) 161 := ⟨rfl, rfl⟩
theorem jf_263_161 : jG m_R_turned 161 (.iload 13) [] (.null) 163 := ⟨rfl, rfl⟩
theorem jf_263_163 : jG m_R_turned 163 (.ifCond .eq 9) [172] (.null) 166 := ⟨rfl, rfl⟩
theorem jf_263_166 : jG m_R_turned 166 (.dload 9) [] (.null) 168 := ⟨rfl, rfl⟩
theorem jf_263_168 : jG m_R_turned 168 (.dconst 1) [] (.null) 169 := ⟨rfl, rfl⟩
theorem jf_263_169 : jG m_R_turned 169 (.dadd) [] (.null) 170 := ⟨rfl, rfl⟩
theorem jf_263_170 : jG m_R_turned 170 (.dstore 9) [] (.null) 172 := ⟨rfl, rfl⟩
theorem jf_263_172 : jG m_R_turned 172 (.dload 9) [] (.null) 174 := ⟨rfl, rfl⟩
theorem jf_263_174 : jG m_R_turned 174 (.ldc2_w 318) [] (.double (13898108450065350656)) 177 := ⟨rfl, rfl⟩
theorem jf_263_177 : jG m_R_turned 177 (.dcmp .l) [] (.null) 178 := ⟨rfl, rfl⟩
theorem jf_263_178 : jG m_R_turned 178 (.ifCond .lt 19) [197] (.null) 181 := ⟨rfl, rfl⟩
theorem jf_263_181 : jG m_R_turned 181 (.dload 9) [] (.null) 183 := ⟨rfl, rfl⟩
theorem jf_263_183 : jG m_R_turned 183 (.ldc2_w 316) [] (.double (4674736138332667904)) 186 := ⟨rfl, rfl⟩
theorem jf_263_186 : jG m_R_turned 186 (.dcmp .g) [] (.null) 187 := ⟨rfl, rfl⟩
theorem jf_263_187 : jG m_R_turned 187 (.ifCond .gt 10) [197] (.null) 190 := ⟨rfl, rfl⟩
theorem jf_263_190 : jG m_R_turned 190 (.dload 9) [] (.null) 192 := ⟨rfl, rfl⟩
theorem jf_263_192 : jG m_R_turned 192 (.dconst 0) [] (.null) 193 := ⟨rfl, rfl⟩
theorem jf_263_193 : jG m_R_turned 193 (.dadd) [] (.null) 194 := ⟨rfl, rfl⟩
theorem jf_263_194 : jG m_R_turned 194 (.goto 6) [200] (.null) 197 := ⟨rfl, rfl⟩
theorem jf_263_197 : jG m_R_turned 197 (.ldc2_w 446) [] (.double (4675730371722084352)) 200 := ⟨rfl, rfl⟩
theorem jf_263_200 : jG m_R_turned 200 (.dreturn) [] (.null) 201 := ⟨rfl, rfl⟩
set_option maxRecDepth 100000 in
theorem jf_264_0 : jG m_R_anew 0 (.aload_n 0) [] (.null) 1 := ⟨rfl, rfl⟩
set_option maxRecDepth 100000 in
theorem jf_264_1 : jG m_R_anew 1 (.iload_n 1) [] (.null) 2 := ⟨rfl, rfl⟩
set_option maxRecDepth 100000 in
theorem jf_264_2 : jG m_R_anew 2 (.invokevirtual 266) [6, 1, 9, m_R_sortOf] (.null) 5 := ⟨rfl, rfl⟩
set_option maxRecDepth 100000 in
theorem jf_264_5 : jG m_R_anew 5 (.istore_n 3) [] (.null) 6 := ⟨rfl, rfl⟩
set_option maxRecDepth 100000 in
theorem jf_264_6 : jG m_R_anew 6 (.iconst 0) [] (.null) 7 := ⟨rfl, rfl⟩
set_option maxRecDepth 100000 in
theorem jf_264_7 : jG m_R_anew 7 (.istore 4) [] (.null) 9 := ⟨rfl, rfl⟩
set_option maxRecDepth 100000 in
theorem jf_264_9 : jG m_R_anew 9 (.iload 4) [] (.null) 11 := ⟨rfl, rfl⟩
set_option maxRecDepth 100000 in
theorem jf_264_11 : jG m_R_anew 11 (.bipush 20) [] (.null) 13 := ⟨rfl, rfl⟩
set_option maxRecDepth 100000 in
theorem jf_264_13 : jG m_R_anew 13 (.if_icmp .ge 17) [30] (.null) 16 := ⟨rfl, rfl⟩
set_option maxRecDepth 100000 in
theorem jf_264_16 : jG m_R_anew 16 (.aload_n 0) [] (.null) 17 := ⟨rfl, rfl⟩
set_option maxRecDepth 100000 in
theorem jf_264_17 : jG m_R_anew 17 (.getfield 155) [9, 65] (.null) 20 := ⟨rfl, rfl⟩
set_option maxRecDepth 100000 in
theorem jf_264_20 : jG m_R_anew 20 (.iload 4) [] (.null) 22 := ⟨rfl, rfl⟩
set_option maxRecDepth 100000 in
theorem jf_264_22 : jG m_R_anew 22 (.iconst (-1)) [] (.null) 23 := ⟨rfl, rfl⟩
set_option maxRecDepth 100000 in
theorem jf_264_23 : jG m_R_anew 23 (.iastore) [] (.null) 24 := ⟨rfl, rfl⟩
set_option maxRecDepth 100000 in
theorem jf_264_24 : jG m_R_anew 24 (.iinc 4 1) [] (.null) 27 := ⟨rfl, rfl⟩
set_option maxRecDepth 100000 in
theorem jf_264_27 : jG m_R_anew 27 (.goto (-18)) [9] (.null) 30 := ⟨rfl, rfl⟩
set_option maxRecDepth 100000 in
theorem jf_264_30 : jG m_R_anew 30 (.iconst 1) [] (.null) 31 := ⟨rfl, rfl⟩
set_option maxRecDepth 100000 in
theorem jf_264_31 : jG m_R_anew 31 (.istore 4) [] (.null) 33 := ⟨rfl, rfl⟩
set_option maxRecDepth 100000 in
theorem jf_264_33 : jG m_R_anew 33 (.aload_n 0) [] (.null) 34 := ⟨rfl, rfl⟩
set_option maxRecDepth 100000 in
theorem jf_264_34 : jG m_R_anew 34 (.getfield 158) [9, 66] (.null) 37 := ⟨rfl, rfl⟩
set_option maxRecDepth 100000 in
theorem jf_264_37 : jG m_R_anew 37 (.iconst 0) [] (.null) 38 := ⟨rfl, rfl⟩
set_option maxRecDepth 100000 in
theorem jf_264_38 : jG m_R_anew 38 (.iload_n 1) [] (.null) 39 := ⟨rfl, rfl⟩
set_option maxRecDepth 100000 in
theorem jf_264_39 : jG m_R_anew 39 (.iastore) [] (.null) 40 := ⟨rfl, rfl⟩
set_option maxRecDepth 100000 in
theorem jf_264_40 : jG m_R_anew 40 (.aload_n 0) [] (.null) 41 := ⟨rfl, rfl⟩
set_option maxRecDepth 100000 in
theorem jf_264_41 : jG m_R_anew 41 (.getfield 161) [9, 67] (.null) 44 := ⟨rfl, rfl⟩
set_option maxRecDepth 100000 in
theorem jf_264_44 : jG m_R_anew 44 (.iconst 0) [] (.null) 45 := ⟨rfl, rfl⟩
set_option maxRecDepth 100000 in
theorem jf_264_45 : jG m_R_anew 45 (.iconst 0) [] (.null) 46 := ⟨rfl, rfl⟩
set_option maxRecDepth 100000 in
theorem jf_264_46 : jG m_R_anew 46 (.iastore) [] (.null) 47 := ⟨rfl, rfl⟩
set_option maxRecDepth 100000 in
theorem jf_264_47 : jG m_R_anew 47 (.iload 4) [] (.null) 49 := ⟨rfl, rfl⟩
set_option maxRecDepth 100000 in
theorem jf_264_49 : jG m_R_anew 49 (.ifCond .le 318) [367] (.null) 52 := ⟨rfl, rfl⟩
set_option maxRecDepth 100000 in
theorem jf_264_52 : jG m_R_anew 52 (.aload_n 0) [] (.null) 53 := ⟨rfl, rfl⟩
set_option maxRecDepth 100000 in
theorem jf_264_53 : jG m_R_anew 53 (.getfield 158) [9, 66] (.null) 56 := ⟨rfl, rfl⟩
set_option maxRecDepth 100000 in
theorem jf_264_56 : jG m_R_anew 56 (.iload 4) [] (.null) 58 := ⟨rfl, rfl⟩
set_option maxRecDepth 100000 in
theorem jf_264_58 : jG m_R_anew 58 (.iconst 1) [] (.null) 59 := ⟨rfl, rfl⟩
set_option maxRecDepth 100000 in
theorem jf_264_59 : jG m_R_anew 59 (.isub) [] (.null) 60 := ⟨rfl, rfl⟩
set_option maxRecDepth 100000 in
theorem jf_264_60 : jG m_R_anew 60 (.iaload) [] (.null) 61 := ⟨rfl, rfl⟩
set_option maxRecDepth 100000 in
theorem jf_264_61 : jG m_R_anew 61 (.istore 5) [] (.null) 63 := ⟨rfl, rfl⟩
set_option maxRecDepth 100000 in
theorem jf_264_63 : jG m_R_anew 63 (.aload_n 0) [] (.null) 64 := ⟨rfl, rfl⟩
set_option maxRecDepth 100000 in
theorem jf_264_64 : jG m_R_anew 64 (.getfield 161) [9, 67] (.null) 67 := ⟨rfl, rfl⟩
set_option maxRecDepth 100000 in
theorem jf_264_67 : jG m_R_anew 67 (.iload 4) [] (.null) 69 := ⟨rfl, rfl⟩
set_option maxRecDepth 100000 in
theorem jf_264_69 : jG m_R_anew 69 (.iconst 1) [] (.null) 70 := ⟨rfl, rfl⟩
set_option maxRecDepth 100000 in
theorem jf_264_70 : jG m_R_anew 70 (.isub) [] (.null) 71 := ⟨rfl, rfl⟩
set_option maxRecDepth 100000 in
theorem jf_264_71 : jG m_R_anew 71 (.iaload) [] (.null) 72 := ⟨rfl, rfl⟩
set_option maxRecDepth 100000 in
theorem jf_264_72 : jG m_R_anew 72 (.istore 6) [] (.null) 74 := ⟨rfl, rfl⟩
set_option maxRecDepth 100000 in
theorem jf_264_74 : jG m_R_anew 74 (.iload 6) [] (.null) 76 := ⟨rfl, rfl⟩
set_option maxRecDepth 100000 in
theorem jf_264_76 : jG m_R_anew 76 (.aload_n 0) [] (.null) 77 := ⟨rfl, rfl⟩
set_option maxRecDepth 100000 in
theorem jf_264_77 : jG m_R_anew 77 (.getfield 58) [9, 17] (.null) 80 := ⟨rfl, rfl⟩
set_option maxRecDepth 100000 in
theorem jf_264_80 : jG m_R_anew 80 (.iload 5) [] (.null) 82 := ⟨rfl, rfl⟩
set_option maxRecDepth 100000 in
theorem jf_264_82 : jG m_R_anew 82 (.iaload) [] (.null) 83 := ⟨rfl, rfl⟩
set_option maxRecDepth 100000 in
theorem jf_264_83 : jG m_R_anew 83 (.if_icmp .ne 24) [107] (.null) 86 := ⟨rfl, rfl⟩
set_option maxRecDepth 100000 in
theorem jf_264_86 : jG m_R_anew 86 (.aload_n 0) [] (.null) 87 := ⟨rfl, rfl⟩
set_option maxRecDepth 100000 in
theorem jf_264_87 : jG m_R_anew 87 (.getfield 155) [9, 65] (.null) 90 := ⟨rfl, rfl⟩
set_option maxRecDepth 100000 in
theorem jf_264_90 : jG m_R_anew 90 (.iload 5) [] (.null) 92 := ⟨rfl, rfl⟩
set_option maxRecDepth 100000 in
theorem jf_264_92 : jG m_R_anew 92 (.aload_n 0) [] (.null) 93 := ⟨rfl, rfl⟩
set_option maxRecDepth 100000 in
theorem jf_264_93 : jG m_R_anew 93 (.iload 5) [] (.null) 95 := ⟨rfl, rfl⟩
set_option maxRecDepth 100000 in
theorem jf_264_95 : jG m_R_anew 95 (.iload_n 3) [] (.null) 96 := ⟨rfl, rfl⟩
set_option maxRecDepth 100000 in
theorem jf_264_96 : jG m_R_anew 96 (.iload_n 2) [] (.null) 97 := ⟨rfl, rfl⟩
set_option maxRecDepth 100000 in
theorem jf_264_97 : jG m_R_anew 97 (.invokevirtual 472) [6, 3, 9, m_R_gathers] (.null) 100 := ⟨rfl, rfl⟩
set_option maxRecDepth 100000 in
theorem jf_264_100 : jG m_R_anew 100 (.iastore) [] (.null) 101 := ⟨rfl, rfl⟩
set_option maxRecDepth 100000 in
theorem jf_264_101 : jG m_R_anew 101 (.iinc 4 (-1)) [] (.null) 104 := ⟨rfl, rfl⟩
set_option maxRecDepth 100000 in
theorem jf_264_104 : jG m_R_anew 104 (.goto (-57)) [47] (.null) 107 := ⟨rfl, rfl⟩
set_option maxRecDepth 100000 in
theorem jf_264_107 : jG m_R_anew 107 (.aload_n 0) [] (.null) 108 := ⟨rfl, rfl⟩
set_option maxRecDepth 100000 in
theorem jf_264_108 : jG m_R_anew 108 (.getfield 61) [9, 18] (.null) 111 := ⟨rfl, rfl⟩
set_option maxRecDepth 100000 in
theorem jf_264_111 : jG m_R_anew 111 (.bipush 10) [] (.null) 113 := ⟨rfl, rfl⟩
set_option maxRecDepth 100000 in
theorem jf_264_113 : jG m_R_anew 113 (.iload 5) [] (.null) 115 := ⟨rfl, rfl⟩
set_option maxRecDepth 100000 in
theorem jf_264_115 : jG m_R_anew 115 (.imul) [] (.null) 116 := ⟨rfl, rfl⟩
set_option maxRecDepth 100000 in
theorem jf_264_116 : jG m_R_anew 116 (.iload 6) [] (.null) 118 := ⟨rfl, rfl⟩
set_option maxRecDepth 100000 in
theorem jf_264_118 : jG m_R_anew 118 (.iadd) [] (.null) 119 := ⟨rfl, rfl⟩
set_option maxRecDepth 100000 in
theorem jf_264_119 : jG m_R_anew 119 (.iaload) [] (.null) 120 := ⟨rfl, rfl⟩
set_option maxRecDepth 100000 in
theorem jf_264_120 : jG m_R_anew 120 (.istore 7) [] (.null) 122 := ⟨rfl, rfl⟩
set_option maxRecDepth 100000 in
theorem jf_264_122 : jG m_R_anew 122 (.aload_n 0) [] (.null) 123 := ⟨rfl, rfl⟩
set_option maxRecDepth 100000 in
theorem jf_264_123 : jG m_R_anew 123 (.getfield 39) [9, 10] (.null) 126 := ⟨rfl, rfl⟩
set_option maxRecDepth 100000 in
theorem jf_264_126 : jG m_R_anew 126 (.iload 7) [] (.null) 128 := ⟨rfl, rfl⟩
set_option maxRecDepth 100000 in
theorem jf_264_128 : jG m_R_anew 128 (.iaload) [] (.null) 129 := ⟨rfl, rfl⟩
set_option maxRecDepth 100000 in
theorem jf_264_129 : jG m_R_anew 129 (.iconst (-1)) [] (.null) 130 := ⟨rfl, rfl⟩
set_option maxRecDepth 100000 in
theorem jf_264_130 : jG m_R_anew 130 (.if_icmp .eq 47) [177] (.null) 133 := ⟨rfl, rfl⟩
set_option maxRecDepth 100000 in
theorem jf_264_133 : jG m_R_anew 133 (.aload_n 0) [] (.null) 134 := ⟨rfl, rfl⟩
set_option maxRecDepth 100000 in
theorem jf_264_134 : jG m_R_anew 134 (.getfield 155) [9, 65] (.null) 137 := ⟨rfl, rfl⟩
set_option maxRecDepth 100000 in
theorem jf_264_137 : jG m_R_anew 137 (.aload_n 0) [] (.null) 138 := ⟨rfl, rfl⟩
set_option maxRecDepth 100000 in
theorem jf_264_138 : jG m_R_anew 138 (.getfield 39) [9, 10] (.null) 141 := ⟨rfl, rfl⟩
set_option maxRecDepth 100000 in
theorem jf_264_141 : jG m_R_anew 141 (.iload 7) [] (.null) 143 := ⟨rfl, rfl⟩
set_option maxRecDepth 100000 in
theorem jf_264_143 : jG m_R_anew 143 (.iaload) [] (.null) 144 := ⟨rfl, rfl⟩
set_option maxRecDepth 100000 in
theorem jf_264_144 : jG m_R_anew 144 (.iaload) [] (.null) 145 := ⟨rfl, rfl⟩
set_option maxRecDepth 100000 in
theorem jf_264_145 : jG m_R_anew 145 (.iconst (-1)) [] (.null) 146 := ⟨rfl, rfl⟩
set_option maxRecDepth 100000 in
theorem jf_264_146 : jG m_R_anew 146 (.if_icmp .ne 31) [177] (.null) 149 := ⟨rfl, rfl⟩
set_option maxRecDepth 100000 in
theorem jf_264_149 : jG m_R_anew 149 (.aload_n 0) [] (.null) 150 := ⟨rfl, rfl⟩
set_option maxRecDepth 100000 in
theorem jf_264_150 : jG m_R_anew 150 (.getfield 158) [9, 66] (.null) 153 := ⟨rfl, rfl⟩
set_option maxRecDepth 100000 in
theorem jf_264_153 : jG m_R_anew 153 (.iload 4) [] (.null) 155 := ⟨rfl, rfl⟩
set_option maxRecDepth 100000 in
theorem jf_264_155 : jG m_R_anew 155 (.aload_n 0) [] (.null) 156 := ⟨rfl, rfl⟩
set_option maxRecDepth 100000 in
theorem jf_264_156 : jG m_R_anew 156 (.getfield 39) [9, 10] (.null) 159 := ⟨rfl, rfl⟩
set_option maxRecDepth 100000 in
theorem jf_264_159 : jG m_R_anew 159 (.iload 7) [] (.null) 161 := ⟨rfl, rfl⟩
set_option maxRecDepth 100000 in
theorem jf_264_161 : jG m_R_anew 161 (.iaload) [] (.null) 162 := ⟨rfl, rfl⟩
set_option maxRecDepth 100000 in
theorem jf_264_162 : jG m_R_anew 162 (.iastore) [] (.null) 163 := ⟨rfl, rfl⟩
set_option maxRecDepth 100000 in
theorem jf_264_163 : jG m_R_anew 163 (.aload_n 0) [] (.null) 164 := ⟨rfl, rfl⟩
set_option maxRecDepth 100000 in
theorem jf_264_164 : jG m_R_anew 164 (.getfield 161) [9, 67] (.null) 167 := ⟨rfl, rfl⟩
set_option maxRecDepth 100000 in
theorem jf_264_167 : jG m_R_anew 167 (.iload 4) [] (.null) 169 := ⟨rfl, rfl⟩
set_option maxRecDepth 100000 in
theorem jf_264_169 : jG m_R_anew 169 (.iconst 0) [] (.null) 170 := ⟨rfl, rfl⟩
set_option maxRecDepth 100000 in
theorem jf_264_170 : jG m_R_anew 170 (.iastore) [] (.null) 171 := ⟨rfl, rfl⟩
set_option maxRecDepth 100000 in
theorem jf_264_171 : jG m_R_anew 171 (.iinc 4 1) [] (.null) 174 := ⟨rfl, rfl⟩
set_option maxRecDepth 100000 in
theorem jf_264_174 : jG m_R_anew 174 (.goto (-127)) [47] (.null) 177 := ⟨rfl, rfl⟩
set_option maxRecDepth 100000 in
theorem jf_264_177 : jG m_R_anew 177 (.aload_n 0) [] (.null) 178 := ⟨rfl, rfl⟩
set_option maxRecDepth 100000 in
theorem jf_264_178 : jG m_R_anew 178 (.aload_n 0) [] (.null) 179 := ⟨rfl, rfl⟩
set_option maxRecDepth 100000 in
theorem jf_264_179 : jG m_R_anew 179 (.getfield 13) [9, 2] (.null) 182 := ⟨rfl, rfl⟩
set_option maxRecDepth 100000 in
theorem jf_264_182 : jG m_R_anew 182 (.iload 7) [] (.null) 184 := ⟨rfl, rfl⟩
set_option maxRecDepth 100000 in
theorem jf_264_184 : jG m_R_anew 184 (.iaload) [] (.null) 185 := ⟨rfl, rfl⟩
set_option maxRecDepth 100000 in
theorem jf_264_185 : jG m_R_anew 185 (.iload_n 2) [] (.null) 186 := ⟨rfl, rfl⟩
set_option maxRecDepth 100000 in
theorem jf_264_186 : jG m_R_anew 186 (.aload_n 0) [] (.null) 187 := ⟨rfl, rfl⟩
set_option maxRecDepth 100000 in
theorem jf_264_187 : jG m_R_anew 187 (.getfield 20) [9, 4] (.null) 190 := ⟨rfl, rfl⟩
set_option maxRecDepth 100000 in
theorem jf_264_190 : jG m_R_anew 190 (.iload 7) [] (.null) 192 := ⟨rfl, rfl⟩
set_option maxRecDepth 100000 in
theorem jf_264_192 : jG m_R_anew 192 (.iaload) [] (.null) 193 := ⟨rfl, rfl⟩
set_option maxRecDepth 100000 in
theorem jf_264_193 : jG m_R_anew 193 (.invokevirtual 221) [6, 3, 9, m_R_newSection] (.null) 196 := ⟨rfl, rfl⟩
set_option maxRecDepth 100000 in
theorem jf_264_196 : jG m_R_anew 196 (.istore 8) [] (.null) 198 := ⟨rfl, rfl⟩
set_option maxRecDepth 100000 in
theorem jf_264_198 : jG m_R_anew 198 (.iconst 0) [] (.null) 199 := ⟨rfl, rfl⟩
set_option maxRecDepth 100000 in
theorem jf_264_199 : jG m_R_anew 199 (.istore 9) [] (.null) 201 := ⟨rfl, rfl⟩
set_option maxRecDepth 100000 in
theorem jf_264_201 : jG m_R_anew 201 (.iload 9) [] (.null) 203 := ⟨rfl, rfl⟩
set_option maxRecDepth 100000 in
theorem jf_264_203 : jG m_R_anew 203 (.aload_n 0) [] (.null) 204 := ⟨rfl, rfl⟩
set_option maxRecDepth 100000 in
theorem jf_264_204 : jG m_R_anew 204 (.getfield 13) [9, 2] (.null) 207 := ⟨rfl, rfl⟩
set_option maxRecDepth 100000 in
theorem jf_264_207 : jG m_R_anew 207 (.iload 7) [] (.null) 209 := ⟨rfl, rfl⟩
set_option maxRecDepth 100000 in
theorem jf_264_209 : jG m_R_anew 209 (.iaload) [] (.null) 210 := ⟨rfl, rfl⟩
set_option maxRecDepth 100000 in
theorem jf_264_210 : jG m_R_anew 210 (.invokestatic 233) [3, m_R_coefficientsOf, 1] (.null) 213 := ⟨rfl, rfl⟩
set_option maxRecDepth 100000 in
theorem jf_264_213 : jG m_R_anew 213 (.if_icmp .ge 44) [257] (.null) 216 := ⟨rfl, rfl⟩
set_option maxRecDepth 100000 in
theorem jf_264_216 : jG m_R_anew 216 (.aload_n 0) [] (.null) 217 := ⟨rfl, rfl⟩
set_option maxRecDepth 100000 in
theorem jf_264_217 : jG m_R_anew 217 (.getfield 29) [9, 7] (.null) 220 := ⟨rfl, rfl⟩
set_option maxRecDepth 100000 in
theorem jf_264_220 : jG m_R_anew 220 (.iconst 5) [] (.null) 221 := ⟨rfl, rfl⟩
set_option maxRecDepth 100000 in
theorem jf_264_221 : jG m_R_anew 221 (.iload 8) [] (.null) 223 := ⟨rfl, rfl⟩
set_option maxRecDepth 100000 in
theorem jf_264_223 : jG m_R_anew 223 (.imul) [] (.null) 224 := ⟨rfl, rfl⟩
set_option maxRecDepth 100000 in
theorem jf_264_224 : jG m_R_anew 224 (.iload 9) [] (.null) 226 := ⟨rfl, rfl⟩
set_option maxRecDepth 100000 in
theorem jf_264_226 : jG m_R_anew 226 (.iadd) [] (.null) 227 := ⟨rfl, rfl⟩
set_option maxRecDepth 100000 in
theorem jf_264_227 : jG m_R_anew 227 (.aload_n 0) [] (.null) 228 := ⟨rfl, rfl⟩
set_option maxRecDepth 100000 in
theorem jf_264_228 : jG m_R_anew 228 (.iload 7) [] (.null) 230 := ⟨rfl, rfl⟩
set_option maxRecDepth 100000 in
theorem jf_264_230 : jG m_R_anew 230 (.iload 9) [] (.null) 232 := ⟨rfl, rfl⟩
set_option maxRecDepth 100000 in
theorem jf_264_232 : jG m_R_anew 232 (.invokevirtual 323) [6, 2, 9, m_R_c] (.null) 235 := ⟨rfl, rfl⟩
set_option maxRecDepth 100000 in
theorem jf_264_235 : jG m_R_anew 235 (.iload_n 3) [] (.null) 236 := ⟨rfl, rfl⟩
set_option maxRecDepth 100000 in
theorem jf_264_236 : jG m_R_anew 236 (.iload_n 2) [] (.null) 237 := ⟨rfl, rfl⟩
set_option maxRecDepth 100000 in
theorem jf_264_237 : jG m_R_anew 237 (.aload_n 0) [] (.null) 238 := ⟨rfl, rfl⟩
set_option maxRecDepth 100000 in
theorem jf_264_238 : jG m_R_anew 238 (.getfield 13) [9, 2] (.null) 241 := ⟨rfl, rfl⟩
set_option maxRecDepth 100000 in
theorem jf_264_241 : jG m_R_anew 241 (.iload 7) [] (.null) 243 := ⟨rfl, rfl⟩
set_option maxRecDepth 100000 in
theorem jf_264_243 : jG m_R_anew 243 (.iaload) [] (.null) 244 := ⟨rfl, rfl⟩
set_option maxRecDepth 100000 in
theorem jf_264_244 : jG m_R_anew 244 (.invokestatic 248) [3, m_R_isPlain, 1] (.null) 247 := ⟨rfl, rfl⟩
set_option maxRecDepth 100000 in
theorem jf_264_247 : jG m_R_anew 247 (.invokestatic 459) [3, m_R_turned, 4] (.null) 250 := ⟨rfl, rfl⟩
set_option maxRecDepth 100000 in
theorem jf_264_250 : jG m_R_anew 250 (.dastore) [] (.null) 251 := ⟨rfl, rfl⟩
set_option maxRecDepth 100000 in
theorem jf_264_251 : jG m_R_anew 251 (.iinc 9 1) [] (.null) 254 := ⟨rfl, rfl⟩
set_option maxRecDepth 100000 in
theorem jf_264_254 : jG m_R_anew 254 (.goto (-53)) [201] (.null) 257 := ⟨rfl, rfl⟩
set_option maxRecDepth 100000 in
theorem jf_264_257 : jG m_R_anew 257 (.iload_n 3) [] (.null) 258 := ⟨rfl, rfl⟩
set_option maxRecDepth 100000 in
theorem jf_264_258 : jG m_R_anew 258 (.iconst 2) [] (.null) 259 := ⟨rfl, rfl⟩
set_option maxRecDepth 100000 in
theorem jf_264_259 : jG m_R_anew 259 (.if_icmp .ne 36) [295] (.null) 262 := ⟨rfl, rfl⟩
set_option maxRecDepth 100000 in
theorem jf_264_262 : jG m_R_anew 262 (.iload_n 2) [] (.null) 263 := ⟨rfl, rfl⟩
set_option maxRecDepth 100000 in
theorem jf_264_263 : jG m_R_anew 263 (.iconst 2) [] (.null) 264 := ⟨rfl, rfl⟩
set_option maxRecDepth 100000 in
theorem jf_264_264 : jG m_R_anew 264 (.if_icmp .ne 31) [295] (.null) 267 := ⟨rfl, rfl⟩
set_option maxRecDepth 100000 in
theorem jf_264_267 : jG m_R_anew 267 (.aload_n 0) [] (.null) 268 := ⟨rfl, rfl⟩
set_option maxRecDepth 100000 in
theorem jf_264_268 : jG m_R_anew 268 (.getfield 23) [9, 5] (.null) 271 := ⟨rfl, rfl⟩
set_option maxRecDepth 100000 in
theorem jf_264_271 : jG m_R_anew 271 (.iload 8) [] (.null) 273 := ⟨rfl, rfl⟩
set_option maxRecDepth 100000 in
theorem jf_264_273 : jG m_R_anew 273 (.aload_n 0) [] (.null) 274 := ⟨rfl, rfl⟩
set_option maxRecDepth 100000 in
theorem jf_264_274 : jG m_R_anew 274 (.getfield 23) [9, 5] (.null) 277 := ⟨rfl, rfl⟩
set_option maxRecDepth 100000 in
theorem jf_264_277 : jG m_R_anew 277 (.iload 7) [] (.null) 279 := ⟨rfl, rfl⟩
set_option maxRecDepth 100000 in
theorem jf_264_279 : jG m_R_anew 279 (.iaload) [] (.null) 280 := ⟨rfl, rfl⟩
set_option maxRecDepth 100000 in
theorem jf_264_280 : jG m_R_anew 280 (.iastore) [] (.null) 281 := ⟨rfl, rfl⟩
set_option maxRecDepth 100000 in
theorem jf_264_281 : jG m_R_anew 281 (.aload_n 0) [] (.null) 282 := ⟨rfl, rfl⟩
set_option maxRecDepth 100000 in
theorem jf_264_282 : jG m_R_anew 282 (.getfield 26) [9, 6] (.null) 285 := ⟨rfl, rfl⟩
set_option maxRecDepth 100000 in
theorem jf_264_285 : jG m_R_anew 285 (.iload 8) [] (.null) 287 := ⟨rfl, rfl⟩
set_option maxRecDepth 100000 in
theorem jf_264_287 : jG m_R_anew 287 (.aload_n 0) [] (.null) 288 := ⟨rfl, rfl⟩
set_option maxRecDepth 100000 in
theorem jf_264_288 : jG m_R_anew 288 (.getfield 26) [9, 6] (.null) 291 := ⟨rfl, rfl⟩
set_option maxRecDepth 100000 in
theorem jf_264_291 : jG m_R_anew 291 (.iload 7) [] (.null) 293 := ⟨rfl, rfl⟩
set_option maxRecDepth 100000 in
theorem jf_264_293 : jG m_R_anew 293 (.iaload) [] (.null) 294 := ⟨rfl, rfl⟩
set_option maxRecDepth 100000 in
theorem jf_264_294 : jG m_R_anew 294 (.iastore) [] (.null) 295 := ⟨rfl, rfl⟩
set_option maxRecDepth 100000 in
theorem jf_264_295 : jG m_R_anew 295 (.aload_n 0) [] (.null) 296 := ⟨rfl, rfl⟩
set_option maxRecDepth 100000 in
theorem jf_264_296 : jG m_R_anew 296 (.getfield 152) [9, 64] (.null) 299 := ⟨rfl, rfl⟩
set_option maxRecDepth 100000 in
theorem jf_264_299 : jG m_R_anew 299 (.iload 7) [] (.null) 301 := ⟨rfl, rfl⟩
set_option maxRecDepth 100000 in
theorem jf_264_301 : jG m_R_anew 301 (.iload 8) [] (.null) 303 := ⟨rfl, rfl⟩
set_option maxRecDepth 100000 in
theorem jf_264_303 : jG m_R_anew 303 (.iastore) [] (.null) 304 := ⟨rfl, rfl⟩
set_option maxRecDepth 100000 in
theorem jf_264_304 : jG m_R_anew 304 (.aload_n 0) [] (.null) 305 := ⟨rfl, rfl⟩
set_option maxRecDepth 100000 in
theorem jf_264_305 : jG m_R_anew 305 (.getfield 161) [9, 67] (.null) 308 := ⟨rfl, rfl⟩
set_option maxRecDepth 100000 in
theorem jf_264_308 : jG m_R_anew 308 (.iload 4) [] (.null) 310 := ⟨rfl, rfl⟩
set_option maxRecDepth 100000 in
theorem jf_264_310 : jG m_R_anew 310 (.iconst 1) [] (.null) 311 := ⟨rfl, rfl⟩
set_option maxRecDepth 100000 in
theorem jf_264_311 : jG m_R_anew 311 (.isub) [] (.null) 312 := ⟨rfl, rfl⟩
set_option maxRecDepth 100000 in
theorem jf_264_312 : jG m_R_anew 312 (.dup2) [] (.null) 313 := ⟨rfl, rfl⟩
set_option maxRecDepth 100000 in
theorem jf_264_313 : jG m_R_anew 313 (.iaload) [] (.null) 314 := ⟨rfl, rfl⟩
set_option maxRecDepth 100000 in
theorem jf_264_314 : jG m_R_anew 314 (.iconst 1) [] (.null) 315 := ⟨rfl, rfl⟩
set_option maxRecDepth 100000 in
theorem jf_264_315 : jG m_R_anew 315 (.iadd) [] (.null) 316 := ⟨rfl, rfl⟩
set_option maxRecDepth 100000 in
theorem jf_264_316 : jG m_R_anew 316 (.iastore) [] (.null) 317 := ⟨rfl, rfl⟩
set_option maxRecDepth 100000 in
theorem jf_264_317 : jG m_R_anew 317 (.aload_n 0) [] (.null) 318 := ⟨rfl, rfl⟩
set_option maxRecDepth 100000 in
theorem jf_264_318 : jG m_R_anew 318 (.getfield 39) [9, 10] (.null) 321 := ⟨rfl, rfl⟩
set_option maxRecDepth 100000 in
theorem jf_264_321 : jG m_R_anew 321 (.iload 7) [] (.null) 323 := ⟨rfl, rfl⟩
set_option maxRecDepth 100000 in
theorem jf_264_323 : jG m_R_anew 323 (.iaload) [] (.null) 324 := ⟨rfl, rfl⟩
set_option maxRecDepth 100000 in
theorem jf_264_324 : jG m_R_anew 324 (.iconst (-1)) [] (.null) 325 := ⟨rfl, rfl⟩
set_option maxRecDepth 100000 in
theorem jf_264_325 : jG m_R_anew 325 (.if_icmp .ne 6) [331] (.null) 328 := ⟨rfl, rfl⟩
set_option maxRecDepth 100000 in
theorem jf_264_328 : jG m_R_anew 328 (.goto (-281)) [47] (.null) 331 := ⟨rfl, rfl⟩
set_option maxRecDepth 100000 in
theorem jf_264_331 : jG m_R_anew 331 (.aload_n 0) [] (.null) 332 := ⟨rfl, rfl⟩
set_option maxRecDepth 100000 in
theorem jf_264_332 : jG m_R_anew 332 (.getfield 39) [9, 10] (.null) 335 := ⟨rfl, rfl⟩
set_option maxRecDepth 100000 in
theorem jf_264_335 : jG m_R_anew 335 (.iload 8) [] (.null) 337 := ⟨rfl, rfl⟩
set_option maxRecDepth 100000 in
theorem jf_264_337 : jG m_R_anew 337 (.aload_n 0) [] (.null) 338 := ⟨rfl, rfl⟩
set_option maxRecDepth 100000 in
theorem jf_264_338 : jG m_R_anew 338 (.getfield 155) [9, 65] (.null) 341 := ⟨rfl, rfl⟩
set_option maxRecDepth 100000 in
theorem jf_264_341 : jG m_R_anew 341 (.aload_n 0) [] (.null) 342 := ⟨rfl, rfl⟩
set_option maxRecDepth 100000 in
theorem jf_264_342 : jG m_R_anew 342 (.getfield 39) [9, 10] (.null) 345 := ⟨rfl, rfl⟩
set_option maxRecDepth 100000 in
theorem jf_264_345 : jG m_R_anew 345 (.iload 7) [] (.null) 347 := ⟨rfl, rfl⟩
set_option maxRecDepth 100000 in
theorem jf_264_347 : jG m_R_anew 347 (.iaload) [] (.null) 348 := ⟨rfl, rfl⟩
set_option maxRecDepth 100000 in
theorem jf_264_348 : jG m_R_anew 348 (.iaload) [] (.null) 349 := ⟨rfl, rfl⟩
set_option maxRecDepth 100000 in
theorem jf_264_349 : jG m_R_anew 349 (.iastore) [] (.null) 350 := ⟨rfl, rfl⟩
set_option maxRecDepth 100000 in
theorem jf_264_350 : jG m_R_anew 350 (.aload_n 0) [] (.null) 351 := ⟨rfl, rfl⟩
set_option maxRecDepth 100000 in
theorem jf_264_351 : jG m_R_anew 351 (.getfield 64) [9, 19] (.null) 354 := ⟨rfl, rfl⟩
set_option maxRecDepth 100000 in
theorem jf_264_354 : jG m_R_anew 354 (.aload_n 0) [] (.null) 355 := ⟨rfl, rfl⟩
set_option maxRecDepth 100000 in
theorem jf_264_355 : jG m_R_anew 355 (.getfield 39) [9, 10] (.null) 358 := ⟨rfl, rfl⟩
set_option maxRecDepth 100000 in
theorem jf_264_358 : jG m_R_anew 358 (.iload 8) [] (.null) 360 := ⟨rfl, rfl⟩
set_option maxRecDepth 100000 in
theorem jf_264_360 : jG m_R_anew 360 (.iaload) [] (.null) 361 := ⟨rfl, rfl⟩
set_option maxRecDepth 100000 in
theorem jf_264_361 : jG m_R_anew 361 (.iload 8) [] (.null) 363 := ⟨rfl, rfl⟩
set_option maxRecDepth 100000 in
theorem jf_264_363 : jG m_R_anew 363 (.iastore) [] (.null) 364 := ⟨rfl, rfl⟩
set_option maxRecDepth 100000 in
theorem jf_264_364 : jG m_R_anew 364 (.goto (-317)) [47] (.null) 367 := ⟨rfl, rfl⟩
set_option maxRecDepth 100000 in
theorem jf_264_367 : jG m_R_anew 367 (.aload_n 0) [] (.null) 368 := ⟨rfl, rfl⟩
set_option maxRecDepth 100000 in
theorem jf_264_368 : jG m_R_anew 368 (.getfield 155) [9, 65] (.null) 371 := ⟨rfl, rfl⟩
set_option maxRecDepth 100000 in
theorem jf_264_371 : jG m_R_anew 371 (.iload_n 1) [] (.null) 372 := ⟨rfl, rfl⟩
set_option maxRecDepth 100000 in
theorem jf_264_372 : jG m_R_anew 372 (.iaload) [] (.null) 373 := ⟨rfl, rfl⟩
set_option maxRecDepth 100000 in
theorem jf_264_373 : jG m_R_anew 373 (.ireturn) [] (.null) 374 := ⟨rfl, rfl⟩
theorem jf_265_0 : jG m_R_gathers 0 (.aload_n 0) [] (.null) 1 := ⟨rfl, rfl⟩
theorem jf_265_1 : jG m_R_gathers 1 (.invokevirtual 259) [6, 0, 9, m_R_newChain] (.null) 4 := ⟨rfl, rfl⟩
theorem jf_265_4 : jG m_R_gathers 4 (.istore 4) [] (.null) 6 := ⟨rfl, rfl⟩
theorem jf_265_6 : jG m_R_gathers 6 (.iconst 0) [] (.null) 7 := ⟨rfl, rfl⟩
theorem jf_265_7 : jG m_R_gathers 7 (.istore 5) [] (.null) 9 := ⟨rfl, rfl⟩
theorem jf_265_9 : jG m_R_gathers 9 (.iload 5) [] (.null) 11 := ⟨rfl, rfl⟩
theorem jf_265_11 : jG m_R_gathers 11 (.aload_n 0) [] (.null) 12 := ⟨rfl, rfl⟩
theorem jf_265_12 : jG m_R_gathers 12 (.getfield 58) [9, 17] (.null) 15 := ⟨rfl, rfl⟩
theorem jf_265_15 : jG m_R_gathers 15 (.iload_n 1) [] (.null) 16 := ⟨rfl, rfl⟩
theorem jf_265_16 : jG m_R_gathers 16 (.iaload) [] (.null) 17 := ⟨rfl, rfl⟩
theorem jf_265_17 : jG m_R_gathers 17 (.if_icmp .ge 33) [50] (.null) 20 := ⟨rfl, rfl⟩
theorem jf_265_20 : jG m_R_gathers 20 (.aload_n 0) [] (.null) 21 := ⟨rfl, rfl⟩
theorem jf_265_21 : jG m_R_gathers 21 (.iload 4) [] (.null) 23 := ⟨rfl, rfl⟩
theorem jf_265_23 : jG m_R_gathers 23 (.aload_n 0) [] (.null) 24 := ⟨rfl, rfl⟩
theorem jf_265_24 : jG m_R_gathers 24 (.getfield 152) [9, 64] (.null) 27 := ⟨rfl, rfl⟩
theorem jf_265_27 : jG m_R_gathers 27 (.aload_n 0) [] (.null) 28 := ⟨rfl, rfl⟩
theorem jf_265_28 : jG m_R_gathers 28 (.getfield 61) [9, 18] (.null) 31 := ⟨rfl, rfl⟩
theorem jf_265_31 : jG m_R_gathers 31 (.bipush 10) [] (.null) 33 := ⟨rfl, rfl⟩
theorem jf_265_33 : jG m_R_gathers 33 (.iload_n 1) [] (.null) 34 := ⟨rfl, rfl⟩
theorem jf_265_34 : jG m_R_gathers 34 (.imul) [] (.null) 35 := ⟨rfl, rfl⟩
theorem jf_265_35 : jG m_R_gathers 35 (.iload 5) [] (.null) 37 := ⟨rfl, rfl⟩
theorem jf_265_37 : jG m_R_gathers 37 (.iadd) [] (.null) 38 := ⟨rfl, rfl⟩
theorem jf_265_38 : jG m_R_gathers 38 (.iaload) [] (.null) 39 := ⟨rfl, rfl⟩
theorem jf_265_39 : jG m_R_gathers 39 (.iaload) [] (.null) 40 := ⟨rfl, rfl⟩
theorem jf_265_40 : jG m_R_gathers 40 (.invokevirtual 272) [6, 2, 9, m_R_join] (.null) 43 := ⟨rfl, rfl⟩
theorem jf_265_43 : jG m_R_gathers 43 (.pop) [] (.null) 44 := ⟨rfl, rfl⟩
theorem jf_265_44 : jG m_R_gathers 44 (.iinc 5 1) [] (.null) 47 := ⟨rfl, rfl⟩
theorem jf_265_47 : jG m_R_gathers 47 (.goto (-38)) [9] (.null) 50 := ⟨rfl, rfl⟩
theorem jf_265_50 : jG m_R_gathers 50 (.iconst 3) [] (.null) 51 := ⟨rfl, rfl⟩
theorem jf_265_51 : jG m_R_gathers 51 (.iload_n 1) [] (.null) 52 := ⟨rfl, rfl⟩
theorem jf_265_52 : jG m_R_gathers 52 (.imul) [] (.null) 53 := ⟨rfl, rfl⟩
theorem jf_265_53 : jG m_R_gathers 53 (.istore 5) [] (.null) 55 := ⟨rfl, rfl⟩
theorem jf_265_55 : jG m_R_gathers 55 (.iload 5) [] (.null) 57 := ⟨rfl, rfl⟩
theorem jf_265_57 : jG m_R_gathers 57 (.iconst 3) [] (.null) 58 := ⟨rfl, rfl⟩
theorem jf_265_58 : jG m_R_gathers 58 (.iload_n 1) [] (.null) 59 := ⟨rfl, rfl⟩
theorem jf_265_59 : jG m_R_gathers 59 (.imul) [] (.null) 60 := ⟨rfl, rfl⟩
theorem jf_265_60 : jG m_R_gathers 60 (.aload_n 0) [] (.null) 61 := ⟨rfl, rfl⟩
theorem jf_265_61 : jG m_R_gathers 61 (.getfield 67) [9, 20] (.null) 64 := ⟨rfl, rfl⟩
theorem jf_265_64 : jG m_R_gathers 64 (.iload_n 1) [] (.null) 65 := ⟨rfl, rfl⟩
theorem jf_265_65 : jG m_R_gathers 65 (.iaload) [] (.null) 66 := ⟨rfl, rfl⟩
theorem jf_265_66 : jG m_R_gathers 66 (.iadd) [] (.null) 67 := ⟨rfl, rfl⟩
theorem jf_265_67 : jG m_R_gathers 67 (.if_icmp .ge 50) [117] (.null) 70 := ⟨rfl, rfl⟩
theorem jf_265_70 : jG m_R_gathers 70 (.aload_n 0) [] (.null) 71 := ⟨rfl, rfl⟩
theorem jf_265_71 : jG m_R_gathers 71 (.iload 4) [] (.null) 73 := ⟨rfl, rfl⟩
theorem jf_265_73 : jG m_R_gathers 73 (.aload_n 0) [] (.null) 74 := ⟨rfl, rfl⟩
theorem jf_265_74 : jG m_R_gathers 74 (.getfield 73) [9, 22] (.null) 77 := ⟨rfl, rfl⟩
theorem jf_265_77 : jG m_R_gathers 77 (.iload 5) [] (.null) 79 := ⟨rfl, rfl⟩
theorem jf_265_79 : jG m_R_gathers 79 (.iaload) [] (.null) 80 := ⟨rfl, rfl⟩
theorem jf_265_80 : jG m_R_gathers 80 (.aload_n 0) [] (.null) 81 := ⟨rfl, rfl⟩
theorem jf_265_81 : jG m_R_gathers 81 (.getfield 70) [9, 21] (.null) 84 := ⟨rfl, rfl⟩
theorem jf_265_84 : jG m_R_gathers 84 (.iload 5) [] (.null) 86 := ⟨rfl, rfl⟩
theorem jf_265_86 : jG m_R_gathers 86 (.iaload) [] (.null) 87 := ⟨rfl, rfl⟩
theorem jf_265_87 : jG m_R_gathers 87 (.aload_n 0) [] (.null) 88 := ⟨rfl, rfl⟩
theorem jf_265_88 : jG m_R_gathers 88 (.getfield 76) [9, 23] (.null) 91 := ⟨rfl, rfl⟩
theorem jf_265_91 : jG m_R_gathers 91 (.iload 5) [] (.null) 93 := ⟨rfl, rfl⟩
theorem jf_265_93 : jG m_R_gathers 93 (.iaload) [] (.null) 94 := ⟨rfl, rfl⟩
theorem jf_265_94 : jG m_R_gathers 94 (.aload_n 0) [] (.null) 95 := ⟨rfl, rfl⟩
theorem jf_265_95 : jG m_R_gathers 95 (.getfield 79) [9, 24] (.null) 98 := ⟨rfl, rfl⟩
theorem jf_265_98 : jG m_R_gathers 98 (.iload 5) [] (.null) 100 := ⟨rfl, rfl⟩
theorem jf_265_100 : jG m_R_gathers 100 (.daload) [] (.null) 101 := ⟨rfl, rfl⟩
theorem jf_265_101 : jG m_R_gathers 101 (.iload_n 2) [] (.null) 102 := ⟨rfl, rfl⟩
theorem jf_265_102 : jG m_R_gathers 102 (.iload_n 3) [] (.null) 103 := ⟨rfl, rfl⟩
theorem jf_265_103 : jG m_R_gathers 103 (.iconst 0) [] (.null) 104 := ⟨rfl, rfl⟩
theorem jf_265_104 : jG m_R_gathers 104 (.invokestatic 459) [3, m_R_turned, 4] (.null) 107 := ⟨rfl, rfl⟩
theorem jf_265_107 : jG m_R_gathers 107 (.invokevirtual 276) [6, 5, 9, m_R_newLoop] (.null) 110 := ⟨rfl, rfl⟩
theorem jf_265_110 : jG m_R_gathers 110 (.pop) [] (.null) 111 := ⟨rfl, rfl⟩
theorem jf_265_111 : jG m_R_gathers 111 (.iinc 5 1) [] (.null) 114 := ⟨rfl, rfl⟩
theorem jf_265_114 : jG m_R_gathers 114 (.goto (-59)) [55] (.null) 117 := ⟨rfl, rfl⟩
theorem jf_265_117 : jG m_R_gathers 117 (.iload 4) [] (.null) 119 := ⟨rfl, rfl⟩
theorem jf_265_119 : jG m_R_gathers 119 (.ireturn) [] (.null) 120 := ⟨rfl, rfl⟩
set_option maxRecDepth 100000 in
theorem jf_266_0 : jG m_R_measure 0 (.aload_n 0) [] (.null) 1 := ⟨rfl, rfl⟩
set_option maxRecDepth 100000 in
theorem jf_266_1 : jG m_R_measure 1 (.iload_n 1) [] (.null) 2 := ⟨rfl, rfl⟩
set_option maxRecDepth 100000 in
theorem jf_266_2 : jG m_R_measure 2 (.invokevirtual 263) [6, 1, 9, m_R_isChain] (.null) 5 := ⟨rfl, rfl⟩
set_option maxRecDepth 100000 in
theorem jf_266_5 : jG m_R_measure 5 (.ifCond .eq 12) [17] (.null) 8 := ⟨rfl, rfl⟩
set_option maxRecDepth 100000 in
theorem jf_266_8 : jG m_R_measure 8 (.iload_n 2) [] (.null) 9 := ⟨rfl, rfl⟩
set_option maxRecDepth 100000 in
theorem jf_266_9 : jG m_R_measure 9 (.iconst 0) [] (.null) 10 := ⟨rfl, rfl⟩
set_option maxRecDepth 100000 in
theorem jf_266_10 : jG m_R_measure 10 (.iconst 2) [] (.null) 11 := ⟨rfl, rfl⟩
set_option maxRecDepth 100000 in
theorem jf_266_11 : jG m_R_measure 11 (.invokestatic 170) [3, m_R_in, 3] (.null) 14 := ⟨rfl, rfl⟩
set_option maxRecDepth 100000 in
theorem jf_266_14 : jG m_R_measure 14 (.ifCond .ne 5) [19] (.null) 17 := ⟨rfl, rfl⟩
set_option maxRecDepth 100000 in
theorem jf_266_17 : jG m_R_measure 17 (.lconst 0) [] (.null) 18 := ⟨rfl, rfl⟩
set_option maxRecDepth 100000 in
theorem jf_266_18 : jG m_R_measure 18 (.lreturn) [] (.null) 19 := ⟨rfl, rfl⟩
set_option maxRecDepth 100000 in
theorem jf_266_19 : jG m_R_measure 19 (.aload_n 0) [] (.null) 20 := ⟨rfl, rfl⟩
set_option maxRecDepth 100000 in
theorem jf_266_20 : jG m_R_measure 20 (.getfield 91) [9, 28] (.null) 23 := ⟨rfl, rfl⟩
set_option maxRecDepth 100000 in
theorem jf_266_23 : jG m_R_measure 23 (.iload_n 1) [] (.null) 24 := ⟨rfl, rfl⟩
set_option maxRecDepth 100000 in
theorem jf_266_24 : jG m_R_measure 24 (.iaload) [] (.null) 25 := ⟨rfl, rfl⟩
set_option maxRecDepth 100000 in
theorem jf_266_25 : jG m_R_measure 25 (.sipush 400) [] (.null) 28 := ⟨rfl, rfl⟩
set_option maxRecDepth 100000 in
theorem jf_266_28 : jG m_R_measure 28 (.if_icmp .le 16) [44] (.null) 31 := ⟨rfl, rfl⟩
set_option maxRecDepth 100000 in
theorem jf_266_31 : jG m_R_measure 31 (.aload_n 0) [] (.null) 32 := ⟨rfl, rfl⟩
set_option maxRecDepth 100000 in
theorem jf_266_32 : jG m_R_measure 32 (.getfield 91) [9, 28] (.null) 35 := ⟨rfl, rfl⟩
set_option maxRecDepth 100000 in
theorem jf_266_35 : jG m_R_measure 35 (.iload_n 1) [] (.null) 36 := ⟨rfl, rfl⟩
set_option maxRecDepth 100000 in
theorem jf_266_36 : jG m_R_measure 36 (.iaload) [] (.null) 37 := ⟨rfl, rfl⟩
set_option maxRecDepth 100000 in
theorem jf_266_37 : jG m_R_measure 37 (.sipush 400) [] (.null) 40 := ⟨rfl, rfl⟩
set_option maxRecDepth 100000 in
theorem jf_266_40 : jG m_R_measure 40 (.isub) [] (.null) 41 := ⟨rfl, rfl⟩
set_option maxRecDepth 100000 in
theorem jf_266_41 : jG m_R_measure 41 (.goto 4) [45] (.null) 44 := ⟨rfl, rfl⟩
set_option maxRecDepth 100000 in
theorem jf_266_44 : jG m_R_measure 44 (.iconst 0) [] (.null) 45 := ⟨rfl, rfl⟩
set_option maxRecDepth 100000 in
theorem jf_266_45 : jG m_R_measure 45 (.istore_n 3) [] (.null) 46 := ⟨rfl, rfl⟩
set_option maxRecDepth 100000 in
theorem jf_266_46 : jG m_R_measure 46 (.dconst 0) [] (.null) 47 := ⟨rfl, rfl⟩
set_option maxRecDepth 100000 in
theorem jf_266_47 : jG m_R_measure 47 (.dstore 4) [] (.null) 49 := ⟨rfl, rfl⟩
set_option maxRecDepth 100000 in
theorem jf_266_49 : jG m_R_measure 49 (.lconst 0) [] (.null) 50 := ⟨rfl, rfl⟩
set_option maxRecDepth 100000 in
theorem jf_266_50 : jG m_R_measure 50 (.lstore 6) [] (.null) 52 := ⟨rfl, rfl⟩
set_option maxRecDepth 100000 in
theorem jf_266_52 : jG m_R_measure 52 (.iconst 0) [] (.null) 53 := ⟨rfl, rfl⟩
set_option maxRecDepth 100000 in
theorem jf_266_53 : jG m_R_measure 53 (.istore 8) [] (.null) 55 := ⟨rfl, rfl⟩
set_option maxRecDepth 100000 in
theorem jf_266_55 : jG m_R_measure 55 (.lconst 0) [] (.null) 56 := ⟨rfl, rfl⟩
set_option maxRecDepth 100000 in
theorem jf_266_56 : jG m_R_measure 56 (.lstore 9) [] (.null) 58 := ⟨rfl, rfl⟩
set_option maxRecDepth 100000 in
theorem jf_266_58 : jG m_R_measure 58 (.lconst 0) [] (.null) 59 := ⟨rfl, rfl⟩
set_option maxRecDepth 100000 in
theorem jf_266_59 : jG m_R_measure 59 (.lstore 11) [] (.null) 61 := ⟨rfl, rfl⟩
set_option maxRecDepth 100000 in
theorem jf_266_61 : jG m_R_measure 61 (.iload_n 3) [] (.null) 62 := ⟨rfl, rfl⟩
set_option maxRecDepth 100000 in
theorem jf_266_62 : jG m_R_measure 62 (.istore 13) [] (.null) 64 := ⟨rfl, rfl⟩
set_option maxRecDepth 100000 in
theorem jf_266_64 : jG m_R_measure 64 (.iload 13) [] (.null) 66 := ⟨rfl, rfl⟩
set_option maxRecDepth 100000 in
theorem jf_266_66 : jG m_R_measure 66 (.aload_n 0) [] (.null) 67 := ⟨rfl, rfl⟩
set_option maxRecDepth 100000 in
theorem jf_266_67 : jG m_R_measure 67 (.getfield 91) [9, 28] (.null) 70 := ⟨rfl, rfl⟩
set_option maxRecDepth 100000 in
theorem jf_266_70 : jG m_R_measure 70 (.iload_n 1) [] (.null) 71 := ⟨rfl, rfl⟩
set_option maxRecDepth 100000 in
theorem jf_266_71 : jG m_R_measure 71 (.iaload) [] (.null) 72 := ⟨rfl, rfl⟩
set_option maxRecDepth 100000 in
theorem jf_266_72 : jG m_R_measure 72 (.if_icmp .ge 138) [210] (.null) 75 := ⟨rfl, rfl⟩
set_option maxRecDepth 100000 in
theorem jf_266_75 : jG m_R_measure 75 (.aload_n 0) [] (.null) 76 := ⟨rfl, rfl⟩
set_option maxRecDepth 100000 in
theorem jf_266_76 : jG m_R_measure 76 (.getfield 88) [9, 27] (.null) 79 := ⟨rfl, rfl⟩
set_option maxRecDepth 100000 in
theorem jf_266_79 : jG m_R_measure 79 (.sipush 400) [] (.null) 82 := ⟨rfl, rfl⟩
set_option maxRecDepth 100000 in
theorem jf_266_82 : jG m_R_measure 82 (.iload_n 1) [] (.null) 83 := ⟨rfl, rfl⟩
set_option maxRecDepth 100000 in
theorem jf_266_83 : jG m_R_measure 83 (.imul) [] (.null) 84 := ⟨rfl, rfl⟩
set_option maxRecDepth 100000 in
theorem jf_266_84 : jG m_R_measure 84 (.iload 13) [] (.null) 86 := ⟨rfl, rfl⟩
set_option maxRecDepth 100000 in
theorem jf_266_86 : jG m_R_measure 86 (.sipush 400) [] (.null) 89 := ⟨rfl, rfl⟩
set_option maxRecDepth 100000 in
theorem jf_266_89 : jG m_R_measure 89 (.irem) [] (.null) 90 := ⟨rfl, rfl⟩
set_option maxRecDepth 100000 in
theorem jf_266_90 : jG m_R_measure 90 (.iadd) [] (.null) 91 := ⟨rfl, rfl⟩
set_option maxRecDepth 100000 in
theorem jf_266_91 : jG m_R_measure 91 (.daload) [] (.null) 92 := ⟨rfl, rfl⟩
set_option maxRecDepth 100000 in
theorem jf_266_92 : jG m_R_measure 92 (.dstore 14) [] (.null) 94 := ⟨rfl, rfl⟩
set_option maxRecDepth 100000 in
theorem jf_266_94 : jG m_R_measure 94 (.aload_n 0) [] (.null) 95 := ⟨rfl, rfl⟩
set_option maxRecDepth 100000 in
theorem jf_266_95 : jG m_R_measure 95 (.aload_n 0) [] (.null) 96 := ⟨rfl, rfl⟩
set_option maxRecDepth 100000 in
theorem jf_266_96 : jG m_R_measure 96 (.iload_n 1) [] (.null) 97 := ⟨rfl, rfl⟩
set_option maxRecDepth 100000 in
theorem jf_266_97 : jG m_R_measure 97 (.invokevirtual 266) [6, 1, 9, m_R_sortOf] (.null) 100 := ⟨rfl, rfl⟩
set_option maxRecDepth 100000 in
theorem jf_266_100 : jG m_R_measure 100 (.dload 14) [] (.null) 102 := ⟨rfl, rfl⟩
set_option maxRecDepth 100000 in
theorem jf_266_102 : jG m_R_measure 102 (.invokevirtual 350) [6, 2, 9, m_R_sizeOf] (.null) 105 := ⟨rfl, rfl⟩
set_option maxRecDepth 100000 in
theorem jf_266_105 : jG m_R_measure 105 (.dstore 16) [] (.null) 107 := ⟨rfl, rfl⟩
set_option maxRecDepth 100000 in
theorem jf_266_107 : jG m_R_measure 107 (.dload 16) [] (.null) 109 := ⟨rfl, rfl⟩
set_option maxRecDepth 100000 in
theorem jf_266_109 : jG m_R_measure 109 (.dload 4) [] (.null) 111 := ⟨rfl, rfl⟩
set_option maxRecDepth 100000 in
theorem jf_266_111 : jG m_R_measure 111 (.dcmp .l) [] (.null) 112 := ⟨rfl, rfl⟩
set_option maxRecDepth 100000 in
theorem jf_266_112 : jG m_R_measure 112 (.ifCond .le 7) [119] (.null) 115 := ⟨rfl, rfl⟩
set_option maxRecDepth 100000 in
theorem jf_266_115 : jG m_R_measure 115 (.dload 16) [] (.null) 117 := ⟨rfl, rfl⟩
set_option maxRecDepth 100000 in
theorem jf_266_117 : jG m_R_measure 117 (.dstore 4) [] (.null) 119 := ⟨rfl, rfl⟩
set_option maxRecDepth 100000 in
theorem jf_266_119 : jG m_R_measure 119 (.dload 14) [] (.null) 121 := ⟨rfl, rfl⟩
set_option maxRecDepth 100000 in
theorem jf_266_121 : jG m_R_measure 121 (.dconst 0) [] (.null) 122 := ⟨rfl, rfl⟩
set_option maxRecDepth 100000 in
theorem jf_266_122 : jG m_R_measure 122 (.dcmp .l) [] (.null) 123 := ⟨rfl, rfl⟩
set_option maxRecDepth 100000 in
theorem jf_266_123 : jG m_R_measure 123 (.ifCond .ne 10) [133] (.null) 126 := ⟨rfl, rfl⟩
set_option maxRecDepth 100000 in
theorem jf_266_126 : jG m_R_measure 126 (.lload 9) [] (.null) 128 := ⟨rfl, rfl⟩
set_option maxRecDepth 100000 in
theorem jf_266_128 : jG m_R_measure 128 (.lconst 1) [] (.null) 129 := ⟨rfl, rfl⟩
set_option maxRecDepth 100000 in
theorem jf_266_129 : jG m_R_measure 129 (.ladd) [] (.null) 130 := ⟨rfl, rfl⟩
set_option maxRecDepth 100000 in
theorem jf_266_130 : jG m_R_measure 130 (.goto 4) [134] (.null) 133 := ⟨rfl, rfl⟩
set_option maxRecDepth 100000 in
theorem jf_266_133 : jG m_R_measure 133 (.lconst 0) [] (.null) 134 := ⟨rfl, rfl⟩
set_option maxRecDepth 100000 in
theorem jf_266_134 : jG m_R_measure 134 (.lstore 9) [] (.null) 136 := ⟨rfl, rfl⟩
set_option maxRecDepth 100000 in
theorem jf_266_136 : jG m_R_measure 136 (.lload 9) [] (.null) 138 := ⟨rfl, rfl⟩
set_option maxRecDepth 100000 in
theorem jf_266_138 : jG m_R_measure 138 (.lload 11) [] (.null) 140 := ⟨rfl, rfl⟩
set_option maxRecDepth 100000 in
theorem jf_266_140 : jG m_R_measure 140 (.lcmp) [] (.null) 141 := ⟨rfl, rfl⟩
set_option maxRecDepth 100000 in
theorem jf_266_141 : jG m_R_measure 141 (.ifCond .le 8) [149] (.null) 144 := ⟨rfl, rfl⟩
set_option maxRecDepth 100000 in
theorem jf_266_144 : jG m_R_measure 144 (.lload 9) [] (.null) 146 := ⟨rfl, rfl⟩
set_option maxRecDepth 100000 in
theorem jf_266_146 : jG m_R_measure 146 (.goto 5) [151] (.null) 149 := ⟨rfl, rfl⟩
set_option maxRecDepth 100000 in
theorem jf_266_149 : jG m_R_measure 149 (.lload 11) [] (.null) 151 := ⟨rfl, rfl⟩
set_option maxRecDepth 100000 in
theorem jf_266_151 : jG m_R_measure 151 (.lstore 11) [] (.null) 153 := ⟨rfl, rfl⟩
set_option maxRecDepth 100000 in
theorem jf_266_153 : jG m_R_measure 153 (.dload 14) [] (.null) 155 := ⟨rfl, rfl⟩
set_option maxRecDepth 100000 in
theorem jf_266_155 : jG m_R_measure 155 (.dconst 0) [] (.null) 156 := ⟨rfl, rfl⟩
set_option maxRecDepth 100000 in
theorem jf_266_156 : jG m_R_measure 156 (.dcmp .l) [] (.null) 157 := ⟨rfl, rfl⟩
set_option maxRecDepth 100000 in
theorem jf_266_157 : jG m_R_measure 157 (.ifCond .le 7) [164] (.null) 160 := ⟨rfl, rfl⟩
set_option maxRecDepth 100000 in
theorem jf_266_160 : jG m_R_measure 160 (.iconst 1) [] (.null) 161 := ⟨rfl, rfl⟩
set_option maxRecDepth 100000 in
theorem jf_266_161 : jG m_R_measure 161 (.goto 15) [176] (.null) 164 := ⟨rfl, rfl⟩
set_option maxRecDepth 100000 in
theorem jf_266_164 : jG m_R_measure 164 (.dload 14) [] (.null) 166 := ⟨rfl, rfl⟩
set_option maxRecDepth 100000 in
theorem jf_266_166 : jG m_R_measure 166 (.dconst 0) [] (.null) 167 := ⟨rfl, rfl⟩
set_option maxRecDepth 100000 in
theorem jf_266_167 : jG m_R_measure 167 (.dcmp .g) [] (.null) 168 := ⟨rfl, rfl⟩
set_option maxRecDepth 100000 in
theorem jf_266_168 : jG m_R_measure 168 (.ifCond .ge 7) [175] (.null) 171 := ⟨rfl, rfl⟩
set_option maxRecDepth 100000 in
theorem jf_266_171 : jG m_R_measure 171 (.iconst (-1)) [] (.null) 172 := ⟨rfl, rfl⟩
set_option maxRecDepth 100000 in
theorem jf_266_172 : jG m_R_measure 172 (.goto 4) [176] (.null) 175 := ⟨rfl, rfl⟩
set_option maxRecDepth 100000 in
theorem jf_266_175 : jG m_R_measure 175 (.iconst 0) [] (.null) 176 := ⟨rfl, rfl⟩
set_option maxRecDepth 100000 in
theorem jf_266_176 : jG m_R_measure 176 (.istore 18) [] (.null) 178 := ⟨rfl, rfl⟩
set_option maxRecDepth 100000 in
theorem jf_266_178 : jG m_R_measure 178 (.iload 18) [] (.null) 180 := ⟨rfl, rfl⟩
set_option maxRecDepth 100000 in
theorem jf_266_180 : jG m_R_measure 180 (.ifCond .ne 6) [186] (.null) 183 := ⟨rfl, rfl⟩
set_option maxRecDepth 100000 in
theorem jf_266_183 : jG m_R_measure 183 (.goto 21) [204] (.null) 186 := ⟨rfl, rfl⟩
set_option maxRecDepth 100000 in
theorem jf_266_186 : jG m_R_measure 186 (.iload 8) [] (.null) 188 := ⟨rfl, rfl⟩
set_option maxRecDepth 100000 in
theorem jf_266_188 : jG m_R_measure 188 (.iload 18) [] (.null) 190 := ⟨rfl, rfl⟩
set_option maxRecDepth 100000 in
theorem jf_266_190 : jG m_R_measure 190 (.ineg) [] (.null) 191 := ⟨rfl, rfl⟩
set_option maxRecDepth 100000 in
theorem jf_266_191 : jG m_R_measure 191 (.if_icmp .ne 9) [200] (.null) 194 := ⟨rfl, rfl⟩
set_option maxRecDepth 100000 in
theorem jf_266_194 : jG m_R_measure 194 (.lload 6) [] (.null) 196 := ⟨rfl, rfl⟩
set_option maxRecDepth 100000 in
theorem jf_266_196 : jG m_R_measure 196 (.lconst 1) [] (.null) 197 := ⟨rfl, rfl⟩
set_option maxRecDepth 100000 in
theorem jf_266_197 : jG m_R_measure 197 (.ladd) [] (.null) 198 := ⟨rfl, rfl⟩
set_option maxRecDepth 100000 in
theorem jf_266_198 : jG m_R_measure 198 (.lstore 6) [] (.null) 200 := ⟨rfl, rfl⟩
set_option maxRecDepth 100000 in
theorem jf_266_200 : jG m_R_measure 200 (.iload 18) [] (.null) 202 := ⟨rfl, rfl⟩
set_option maxRecDepth 100000 in
theorem jf_266_202 : jG m_R_measure 202 (.istore 8) [] (.null) 204 := ⟨rfl, rfl⟩
set_option maxRecDepth 100000 in
theorem jf_266_204 : jG m_R_measure 204 (.iinc 13 1) [] (.null) 207 := ⟨rfl, rfl⟩
set_option maxRecDepth 100000 in
theorem jf_266_207 : jG m_R_measure 207 (.goto (-143)) [64] (.null) 210 := ⟨rfl, rfl⟩
set_option maxRecDepth 100000 in
theorem jf_266_210 : jG m_R_measure 210 (.iload_n 2) [] (.null) 211 := ⟨rfl, rfl⟩
set_option maxRecDepth 100000 in
theorem jf_266_211 : jG m_R_measure 211 (.ifCond .ne 29) [240] (.null) 214 := ⟨rfl, rfl⟩
set_option maxRecDepth 100000 in
theorem jf_266_214 : jG m_R_measure 214 (.aload_n 0) [] (.null) 215 := ⟨rfl, rfl⟩
set_option maxRecDepth 100000 in
theorem jf_266_215 : jG m_R_measure 215 (.getfield 58) [9, 17] (.null) 218 := ⟨rfl, rfl⟩
set_option maxRecDepth 100000 in
theorem jf_266_218 : jG m_R_measure 218 (.iload_n 1) [] (.null) 219 := ⟨rfl, rfl⟩
set_option maxRecDepth 100000 in
theorem jf_266_219 : jG m_R_measure 219 (.iaload) [] (.null) 220 := ⟨rfl, rfl⟩
set_option maxRecDepth 100000 in
theorem jf_266_220 : jG m_R_measure 220 (.ifCond .ne 7) [227] (.null) 223 := ⟨rfl, rfl⟩
set_option maxRecDepth 100000 in
theorem jf_266_223 : jG m_R_measure 223 (.lconst 0) [] (.null) 224 := ⟨rfl, rfl⟩
set_option maxRecDepth 100000 in
theorem jf_266_224 : jG m_R_measure 224 (.goto 28) [252] (.null) 227 := ⟨rfl, rfl⟩
set_option maxRecDepth 100000 in
theorem jf_266_227 : jG m_R_measure 227 (.aload_n 0) [] (.null) 228 := ⟨rfl, rfl⟩
set_option maxRecDepth 100000 in
theorem jf_266_228 : jG m_R_measure 228 (.iload_n 1) [] (.null) 229 := ⟨rfl, rfl⟩
set_option maxRecDepth 100000 in
theorem jf_266_229 : jG m_R_measure 229 (.invokevirtual 266) [6, 1, 9, m_R_sortOf] (.null) 232 := ⟨rfl, rfl⟩
set_option maxRecDepth 100000 in
theorem jf_266_232 : jG m_R_measure 232 (.dload 4) [] (.null) 234 := ⟨rfl, rfl⟩
set_option maxRecDepth 100000 in
theorem jf_266_234 : jG m_R_measure 234 (.invokestatic 396) [3, m_R_bitsOf, 2] (.null) 237 := ⟨rfl, rfl⟩
set_option maxRecDepth 100000 in
theorem jf_266_237 : jG m_R_measure 237 (.goto 15) [252] (.null) 240 := ⟨rfl, rfl⟩
set_option maxRecDepth 100000 in
theorem jf_266_240 : jG m_R_measure 240 (.iload_n 2) [] (.null) 241 := ⟨rfl, rfl⟩
set_option maxRecDepth 100000 in
theorem jf_266_241 : jG m_R_measure 241 (.iconst 1) [] (.null) 242 := ⟨rfl, rfl⟩
set_option maxRecDepth 100000 in
theorem jf_266_242 : jG m_R_measure 242 (.if_icmp .ne 8) [250] (.null) 245 := ⟨rfl, rfl⟩
set_option maxRecDepth 100000 in
theorem jf_266_245 : jG m_R_measure 245 (.lload 6) [] (.null) 247 := ⟨rfl, rfl⟩
set_option maxRecDepth 100000 in
theorem jf_266_247 : jG m_R_measure 247 (.goto 5) [252] (.null) 250 := ⟨rfl, rfl⟩
set_option maxRecDepth 100000 in
theorem jf_266_250 : jG m_R_measure 250 (.lload 11) [] (.null) 252 := ⟨rfl, rfl⟩
set_option maxRecDepth 100000 in
theorem jf_266_252 : jG m_R_measure 252 (.lreturn) [] (.null) 253 := ⟨rfl, rfl⟩
theorem jf_267_0 : jG m_R_count 0 (.iload_n 1) [] (.null) 1 := ⟨rfl, rfl⟩
theorem jf_267_1 : jG m_R_count 1 (.ifCond .ne 10) [11] (.null) 4 := ⟨rfl, rfl⟩
theorem jf_267_4 : jG m_R_count 4 (.aload_n 0) [] (.null) 5 := ⟨rfl, rfl⟩
theorem jf_267_5 : jG m_R_count 5 (.getfield 167) [9, 1] (.null) 8 := ⟨rfl, rfl⟩
theorem jf_267_8 : jG m_R_count 8 (.goto 28) [36] (.null) 11 := ⟨rfl, rfl⟩
theorem jf_267_11 : jG m_R_count 11 (.iload_n 1) [] (.null) 12 := ⟨rfl, rfl⟩
theorem jf_267_12 : jG m_R_count 12 (.iconst 1) [] (.null) 13 := ⟨rfl, rfl⟩
theorem jf_267_13 : jG m_R_count 13 (.if_icmp .ne 10) [23] (.null) 16 := ⟨rfl, rfl⟩
theorem jf_267_16 : jG m_R_count 16 (.aload_n 0) [] (.null) 17 := ⟨rfl, rfl⟩
theorem jf_267_17 : jG m_R_count 17 (.getfield 174) [9, 16] (.null) 20 := ⟨rfl, rfl⟩
theorem jf_267_20 : jG m_R_count 20 (.goto 16) [36] (.null) 23 := ⟨rfl, rfl⟩
theorem jf_267_23 : jG m_R_count 23 (.iload_n 1) [] (.null) 24 := ⟨rfl, rfl⟩
theorem jf_267_24 : jG m_R_count 24 (.iconst 2) [] (.null) 25 := ⟨rfl, rfl⟩
theorem jf_267_25 : jG m_R_count 25 (.if_icmp .ne 10) [35] (.null) 28 := ⟨rfl, rfl⟩
theorem jf_267_28 : jG m_R_count 28 (.aload_n 0) [] (.null) 29 := ⟨rfl, rfl⟩
theorem jf_267_29 : jG m_R_count 29 (.getfield 406) [9, 44] (.null) 32 := ⟨rfl, rfl⟩
theorem jf_267_32 : jG m_R_count 32 (.goto 4) [36] (.null) 35 := ⟨rfl, rfl⟩
theorem jf_267_35 : jG m_R_count 35 (.iconst (-1)) [] (.null) 36 := ⟨rfl, rfl⟩
theorem jf_267_36 : jG m_R_count 36 (.ireturn) [] (.null) 37 := ⟨rfl, rfl⟩
theorem jf_268_0 : jG m_R_chain_2 0 (.aload_n 0) [] (.null) 1 := ⟨rfl, rfl⟩
theorem jf_268_1 : jG m_R_chain_2 1 (.iload_n 1) [] (.null) 2 := ⟨rfl, rfl⟩
theorem jf_268_2 : jG m_R_chain_2 2 (.invokevirtual 263) [6, 1, 9, m_R_isChain] (.null) 5 := ⟨rfl, rfl⟩
theorem jf_268_5 : jG m_R_chain_2 5 (.ifCond .ne 5) [10] (.null) 8 := ⟨rfl, rfl⟩
theorem jf_268_8 : jG m_R_chain_2 8 (.iconst (-1)) [] (.null) 9 := ⟨rfl, rfl⟩
theorem jf_268_9 : jG m_R_chain_2 9 (.ireturn) [] (.null) 10 := ⟨rfl, rfl⟩
theorem jf_268_10 : jG m_R_chain_2 10 (.iload_n 2) [] (.null) 11 := ⟨rfl, rfl⟩
theorem jf_268_11 : jG m_R_chain_2 11 (.tableswitch 67 0 4 #[33, 40, 47, 54, 61]) [78, 44, 51, 58, 65, 72] (.null) 12 := ⟨rfl, rfl⟩
theorem jf_268_44 : jG m_R_chain_2 44 (.aload_n 0) [] (.null) 45 := ⟨rfl, rfl⟩
theorem jf_268_45 : jG m_R_chain_2 45 (.getfield 58) [9, 17] (.null) 48 := ⟨rfl, rfl⟩
theorem jf_268_48 : jG m_R_chain_2 48 (.iload_n 1) [] (.null) 49 := ⟨rfl, rfl⟩
theorem jf_268_49 : jG m_R_chain_2 49 (.iaload) [] (.null) 50 := ⟨rfl, rfl⟩
theorem jf_268_50 : jG m_R_chain_2 50 (.ireturn) [] (.null) 51 := ⟨rfl, rfl⟩
theorem jf_268_51 : jG m_R_chain_2 51 (.aload_n 0) [] (.null) 52 := ⟨rfl, rfl⟩
theorem jf_268_52 : jG m_R_chain_2 52 (.getfield 67) [9, 20] (.null) 55 := ⟨rfl, rfl⟩
theorem jf_268_55 : jG m_R_chain_2 55 (.iload_n 1) [] (.null) 56 := ⟨rfl, rfl⟩
theorem jf_268_56 : jG m_R_chain_2 56 (.iaload) [] (.null) 57 := ⟨rfl, rfl⟩
theorem jf_268_57 : jG m_R_chain_2 57 (.ireturn) [] (.null) 58 := ⟨rfl, rfl⟩
theorem jf_268_58 : jG m_R_chain_2 58 (.aload_n 0) [] (.null) 59 := ⟨rfl, rfl⟩
theorem jf_268_59 : jG m_R_chain_2 59 (.getfield 91) [9, 28] (.null) 62 := ⟨rfl, rfl⟩
theorem jf_268_62 : jG m_R_chain_2 62 (.iload_n 1) [] (.null) 63 := ⟨rfl, rfl⟩
theorem jf_268_63 : jG m_R_chain_2 63 (.iaload) [] (.null) 64 := ⟨rfl, rfl⟩
theorem jf_268_64 : jG m_R_chain_2 64 (.ireturn) [] (.null) 65 := ⟨rfl, rfl⟩
theorem jf_268_65 : jG m_R_chain_2 65 (.aload_n 0) [] (.null) 66 := ⟨rfl, rfl⟩
theorem jf_268_66 : jG m_R_chain_2 66 (.getfield 64) [9, 19] (.null) 69 := ⟨rfl, rfl⟩
theorem jf_268_69 : jG m_R_chain_2 69 (.iload_n 1) [] (.null) 70 := ⟨rfl, rfl⟩
theorem jf_268_70 : jG m_R_chain_2 70 (.iaload) [] (.null) 71 := ⟨rfl, rfl⟩
theorem jf_268_71 : jG m_R_chain_2 71 (.ireturn) [] (.null) 72 := ⟨rfl, rfl⟩
theorem jf_268_72 : jG m_R_chain_2 72 (.aload_n 0) [] (.null) 73 := ⟨rfl, rfl⟩
theorem jf_268_73 : jG m_R_chain_2 73 (.iload_n 1) [] (.null) 74 := ⟨rfl, rfl⟩
theorem jf_268_74 : jG m_R_chain_2 74 (.invokevirtual 266) [6, 1, 9, m_R_sortOf] (.null) 77 := ⟨rfl, rfl⟩
theorem jf_268_77 : jG m_R_chain_2 77 (.ireturn) [] (.null) 78 := ⟨rfl, rfl⟩
theorem jf_268_78 : jG m_R_chain_2 78 (.iconst (-1)) [] (.null) 79 := ⟨rfl, rfl⟩
theorem jf_268_79 : jG m_R_chain_2 79 (.ireturn) [] (.null) 80 := ⟨rfl, rfl⟩
