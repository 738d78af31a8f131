/-! facts of the tables (printed by wip/p28/dec.py) -/
set_option maxRecDepth 100000 in
theorem jf_145_0 : jG m_L_law 0 (.bipush 60) [] (.null) 2 := ⟨rfl, rfl⟩
set_option maxRecDepth 100000 in
theorem jf_145_2 : jG m_L_law 2 (.newarray .int) [] (.null) 4 := ⟨rfl, rfl⟩
set_option maxRecDepth 100000 in
theorem jf_145_4 : jG m_L_law 4 (.astore_n 1) [] (.null) 5 := ⟨rfl, rfl⟩
set_option maxRecDepth 100000 in
theorem jf_145_5 : jG m_L_law 5 (.iconst 0) [] (.null) 6 := ⟨rfl, rfl⟩
set_option maxRecDepth 100000 in
theorem jf_145_6 : jG m_L_law 6 (.istore_n 2) [] (.null) 7 := ⟨rfl, rfl⟩
set_option maxRecDepth 100000 in
theorem jf_145_7 : jG m_L_law 7 (.iload_n 2) [] (.null) 8 := ⟨rfl, rfl⟩
set_option maxRecDepth 100000 in
theorem jf_145_8 : jG m_L_law 8 (.bipush 60) [] (.null) 10 := ⟨rfl, rfl⟩
set_option maxRecDepth 100000 in
theorem jf_145_10 : jG m_L_law 10 (.if_icmp .ge 21) [31] (.null) 13 := ⟨rfl, rfl⟩
set_option maxRecDepth 100000 in
theorem jf_145_13 : jG m_L_law 13 (.iload_n 2) [] (.null) 14 := ⟨rfl, rfl⟩
set_option maxRecDepth 100000 in
theorem jf_145_14 : jG m_L_law 14 (.aload_n 0) [] (.null) 15 := ⟨rfl, rfl⟩
set_option maxRecDepth 100000 in
theorem jf_145_15 : jG m_L_law 15 (.arraylength) [] (.null) 16 := ⟨rfl, rfl⟩
set_option maxRecDepth 100000 in
theorem jf_145_16 : jG m_L_law 16 (.if_icmp .ge 15) [31] (.null) 19 := ⟨rfl, rfl⟩
set_option maxRecDepth 100000 in
theorem jf_145_19 : jG m_L_law 19 (.aload_n 1) [] (.null) 20 := ⟨rfl, rfl⟩
set_option maxRecDepth 100000 in
theorem jf_145_20 : jG m_L_law 20 (.iload_n 2) [] (.null) 21 := ⟨rfl, rfl⟩
set_option maxRecDepth 100000 in
theorem jf_145_21 : jG m_L_law 21 (.aload_n 0) [] (.null) 22 := ⟨rfl, rfl⟩
set_option maxRecDepth 100000 in
theorem jf_145_22 : jG m_L_law 22 (.iload_n 2) [] (.null) 23 := ⟨rfl, rfl⟩
set_option maxRecDepth 100000 in
theorem jf_145_23 : jG m_L_law 23 (.iaload) [] (.null) 24 := ⟨rfl, rfl⟩
set_option maxRecDepth 100000 in
theorem jf_145_24 : jG m_L_law 24 (.iastore) [] (.null) 25 := ⟨rfl, rfl⟩
set_option maxRecDepth 100000 in
theorem jf_145_25 : jG m_L_law 25 (.iinc 2 1) [] (.null) 28 := ⟨rfl, rfl⟩
set_option maxRecDepth 100000 in
theorem jf_145_28 : jG m_L_law 28 (.goto (-21)) [7] (.null) 31 := ⟨rfl, rfl⟩
set_option maxRecDepth 100000 in
theorem jf_145_31 : jG m_L_law 31 (.new 21) [0] (.null) 34 := ⟨rfl, rfl⟩
set_option maxRecDepth 100000 in
theorem jf_145_34 : jG m_L_law 34 (.dup) [] (.null) 35 := ⟨rfl, rfl⟩
set_option maxRecDepth 100000 in
theorem jf_145_35 : jG m_L_law 35 (.invokespecial 23) [1, m_B_init, 0] (.null) 38 := ⟨rfl, rfl⟩
set_option maxRecDepth 100000 in
theorem jf_145_38 : jG m_L_law 38 (.astore_n 2) [] (.null) 39 := ⟨rfl, rfl⟩
set_option maxRecDepth 100000 in
theorem jf_145_39 : jG m_L_law 39 (.iconst 1) [] (.null) 40 := ⟨rfl, rfl⟩
set_option maxRecDepth 100000 in
theorem jf_145_40 : jG m_L_law 40 (.aload_n 1) [] (.null) 41 := ⟨rfl, rfl⟩
set_option maxRecDepth 100000 in
theorem jf_145_41 : jG m_L_law 41 (.iconst 0) [] (.null) 42 := ⟨rfl, rfl⟩
set_option maxRecDepth 100000 in
theorem jf_145_42 : jG m_L_law 42 (.iaload) [] (.null) 43 := ⟨rfl, rfl⟩
set_option maxRecDepth 100000 in
theorem jf_145_43 : jG m_L_law 43 (.iconst 3) [] (.null) 44 := ⟨rfl, rfl⟩
set_option maxRecDepth 100000 in
theorem jf_145_44 : jG m_L_law 44 (.iand) [] (.null) 45 := ⟨rfl, rfl⟩
set_option maxRecDepth 100000 in
theorem jf_145_45 : jG m_L_law 45 (.iadd) [] (.null) 46 := ⟨rfl, rfl⟩
set_option maxRecDepth 100000 in
theorem jf_145_46 : jG m_L_law 46 (.istore_n 3) [] (.null) 47 := ⟨rfl, rfl⟩
set_option maxRecDepth 100000 in
theorem jf_145_47 : jG m_L_law 47 (.iconst 4) [] (.null) 48 := ⟨rfl, rfl⟩
set_option maxRecDepth 100000 in
theorem jf_145_48 : jG m_L_law 48 (.newarray .int) [] (.null) 50 := ⟨rfl, rfl⟩
set_option maxRecDepth 100000 in
theorem jf_145_50 : jG m_L_law 50 (.astore 4) [] (.null) 52 := ⟨rfl, rfl⟩
set_option maxRecDepth 100000 in
theorem jf_145_52 : jG m_L_law 52 (.iconst 4) [] (.null) 53 := ⟨rfl, rfl⟩
set_option maxRecDepth 100000 in
theorem jf_145_53 : jG m_L_law 53 (.newarray .int) [] (.null) 55 := ⟨rfl, rfl⟩
set_option maxRecDepth 100000 in
theorem jf_145_55 : jG m_L_law 55 (.astore 5) [] (.null) 57 := ⟨rfl, rfl⟩
set_option maxRecDepth 100000 in
theorem jf_145_57 : jG m_L_law 57 (.iconst 4) [] (.null) 58 := ⟨rfl, rfl⟩
set_option maxRecDepth 100000 in
theorem jf_145_58 : jG m_L_law 58 (.newarray .int) [] (.null) 60 := ⟨rfl, rfl⟩
set_option maxRecDepth 100000 in
theorem jf_145_60 : jG m_L_law 60 (.astore 6) [] (.null) 62 := ⟨rfl, rfl⟩
set_option maxRecDepth 100000 in
theorem jf_145_62 : jG m_L_law 62 (.iconst 4) [] (.null) 63 := ⟨rfl, rfl⟩
set_option maxRecDepth 100000 in
theorem jf_145_63 : jG m_L_law 63 (.newarray .int) [] (.null) 65 := ⟨rfl, rfl⟩
set_option maxRecDepth 100000 in
theorem jf_145_65 : jG m_L_law 65 (.astore 7) [] (.null) 67 := ⟨rfl, rfl⟩
set_option maxRecDepth 100000 in
theorem jf_145_67 : jG m_L_law 67 (.iconst 4) [] (.null) 68 := ⟨rfl, rfl⟩
set_option maxRecDepth 100000 in
theorem jf_145_68 : jG m_L_law 68 (.newarray .long) [] (.null) 70 := ⟨rfl, rfl⟩
set_option maxRecDepth 100000 in
theorem jf_145_70 : jG m_L_law 70 (.astore 8) [] (.null) 72 := ⟨rfl, rfl⟩
set_option maxRecDepth 100000 in
theorem jf_145_72 : jG m_L_law 72 (.iconst 4) [] (.null) 73 := ⟨rfl, rfl⟩
set_option maxRecDepth 100000 in
theorem jf_145_73 : jG m_L_law 73 (.newarray .long) [] (.null) 75 := ⟨rfl, rfl⟩
set_option maxRecDepth 100000 in
theorem jf_145_75 : jG m_L_law 75 (.astore 9) [] (.null) 77 := ⟨rfl, rfl⟩
set_option maxRecDepth 100000 in
theorem jf_145_77 : jG m_L_law 77 (.aload_n 2) [] (.null) 78 := ⟨rfl, rfl⟩
set_option maxRecDepth 100000 in
theorem jf_145_78 : jG m_L_law 78 (.invokevirtual 24) [6, 0, 0, m_B_chain] (.null) 81 := ⟨rfl, rfl⟩
set_option maxRecDepth 100000 in
theorem jf_145_81 : jG m_L_law 81 (.ifCond .ne 7) [88] (.null) 84 := ⟨rfl, rfl⟩
set_option maxRecDepth 100000 in
theorem jf_145_84 : jG m_L_law 84 (.iconst 1) [] (.null) 85 := ⟨rfl, rfl⟩
set_option maxRecDepth 100000 in
theorem jf_145_85 : jG m_L_law 85 (.goto 4) [89] (.null) 88 := ⟨rfl, rfl⟩
set_option maxRecDepth 100000 in
theorem jf_145_88 : jG m_L_law 88 (.iconst 0) [] (.null) 89 := ⟨rfl, rfl⟩
set_option maxRecDepth 100000 in
theorem jf_145_89 : jG m_L_law 89 (.istore 10) [] (.null) 91 := ⟨rfl, rfl⟩
set_option maxRecDepth 100000 in
theorem jf_145_91 : jG m_L_law 91 (.iconst 0) [] (.null) 92 := ⟨rfl, rfl⟩
set_option maxRecDepth 100000 in
theorem jf_145_92 : jG m_L_law 92 (.istore 11) [] (.null) 94 := ⟨rfl, rfl⟩
set_option maxRecDepth 100000 in
theorem jf_145_94 : jG m_L_law 94 (.iload 11) [] (.null) 96 := ⟨rfl, rfl⟩
set_option maxRecDepth 100000 in
theorem jf_145_96 : jG m_L_law 96 (.iload_n 3) [] (.null) 97 := ⟨rfl, rfl⟩
set_option maxRecDepth 100000 in
theorem jf_145_97 : jG m_L_law 97 (.if_icmp .ge 274) [371] (.null) 100 := ⟨rfl, rfl⟩
set_option maxRecDepth 100000 in
theorem jf_145_100 : jG m_L_law 100 (.aload_n 1) [] (.null) 101 := ⟨rfl, rfl⟩
set_option maxRecDepth 100000 in
theorem jf_145_101 : jG m_L_law 101 (.iload 11) [] (.null) 103 := ⟨rfl, rfl⟩
set_option maxRecDepth 100000 in
theorem jf_145_103 : jG m_L_law 103 (.iconst 1) [] (.null) 104 := ⟨rfl, rfl⟩
set_option maxRecDepth 100000 in
theorem jf_145_104 : jG m_L_law 104 (.iadd) [] (.null) 105 := ⟨rfl, rfl⟩
set_option maxRecDepth 100000 in
theorem jf_145_105 : jG m_L_law 105 (.iaload) [] (.null) 106 := ⟨rfl, rfl⟩
set_option maxRecDepth 100000 in
theorem jf_145_106 : jG m_L_law 106 (.istore 12) [] (.null) 108 := ⟨rfl, rfl⟩
set_option maxRecDepth 100000 in
theorem jf_145_108 : jG m_L_law 108 (.iload 12) [] (.null) 110 := ⟨rfl, rfl⟩
set_option maxRecDepth 100000 in
theorem jf_145_110 : jG m_L_law 110 (.bipush 7) [] (.null) 112 := ⟨rfl, rfl⟩
set_option maxRecDepth 100000 in
theorem jf_145_112 : jG m_L_law 112 (.iand) [] (.null) 113 := ⟨rfl, rfl⟩
set_option maxRecDepth 100000 in
theorem jf_145_113 : jG m_L_law 113 (.istore 13) [] (.null) 115 := ⟨rfl, rfl⟩
set_option maxRecDepth 100000 in
theorem jf_145_115 : jG m_L_law 115 (.aload 4) [] (.null) 117 := ⟨rfl, rfl⟩
set_option maxRecDepth 100000 in
theorem jf_145_117 : jG m_L_law 117 (.iload 11) [] (.null) 119 := ⟨rfl, rfl⟩
set_option maxRecDepth 100000 in
theorem jf_145_119 : jG m_L_law 119 (.iload 13) [] (.null) 121 := ⟨rfl, rfl⟩
set_option maxRecDepth 100000 in
theorem jf_145_121 : jG m_L_law 121 (.iconst 2) [] (.null) 122 := ⟨rfl, rfl⟩
set_option maxRecDepth 100000 in
theorem jf_145_122 : jG m_L_law 122 (.if_icmp .ge 8) [130] (.null) 125 := ⟨rfl, rfl⟩
set_option maxRecDepth 100000 in
theorem jf_145_125 : jG m_L_law 125 (.iload 13) [] (.null) 127 := ⟨rfl, rfl⟩
set_option maxRecDepth 100000 in
theorem jf_145_127 : jG m_L_law 127 (.goto 39) [166] (.null) 130 := ⟨rfl, rfl⟩
set_option maxRecDepth 100000 in
theorem jf_145_130 : jG m_L_law 130 (.iload 13) [] (.null) 132 := ⟨rfl, rfl⟩
set_option maxRecDepth 100000 in
theorem jf_145_132 : jG m_L_law 132 (.iconst 2) [] (.null) 133 := ⟨rfl, rfl⟩
set_option maxRecDepth 100000 in
theorem jf_145_133 : jG m_L_law 133 (.if_icmp .ne 7) [140] (.null) 136 := ⟨rfl, rfl⟩
set_option maxRecDepth 100000 in
theorem jf_145_136 : jG m_L_law 136 (.iconst 5) [] (.null) 137 := ⟨rfl, rfl⟩
set_option maxRecDepth 100000 in
theorem jf_145_137 : jG m_L_law 137 (.goto 29) [166] (.null) 140 := ⟨rfl, rfl⟩
set_option maxRecDepth 100000 in
theorem jf_145_140 : jG m_L_law 140 (.iload 13) [] (.null) 142 := ⟨rfl, rfl⟩
set_option maxRecDepth 100000 in
theorem jf_145_142 : jG m_L_law 142 (.iconst 3) [] (.null) 143 := ⟨rfl, rfl⟩
set_option maxRecDepth 100000 in
theorem jf_145_143 : jG m_L_law 143 (.if_icmp .ne 8) [151] (.null) 146 := ⟨rfl, rfl⟩
set_option maxRecDepth 100000 in
theorem jf_145_146 : jG m_L_law 146 (.bipush 6) [] (.null) 148 := ⟨rfl, rfl⟩
set_option maxRecDepth 100000 in
theorem jf_145_148 : jG m_L_law 148 (.goto 18) [166] (.null) 151 := ⟨rfl, rfl⟩
set_option maxRecDepth 100000 in
theorem jf_145_151 : jG m_L_law 151 (.iload 13) [] (.null) 153 := ⟨rfl, rfl⟩
set_option maxRecDepth 100000 in
theorem jf_145_153 : jG m_L_law 153 (.iconst 4) [] (.null) 154 := ⟨rfl, rfl⟩
set_option maxRecDepth 100000 in
theorem jf_145_154 : jG m_L_law 154 (.if_icmp .ne 8) [162] (.null) 157 := ⟨rfl, rfl⟩
set_option maxRecDepth 100000 in
theorem jf_145_157 : jG m_L_law 157 (.bipush 8) [] (.null) 159 := ⟨rfl, rfl⟩
set_option maxRecDepth 100000 in
theorem jf_145_159 : jG m_L_law 159 (.goto 7) [166] (.null) 162 := ⟨rfl, rfl⟩
set_option maxRecDepth 100000 in
theorem jf_145_162 : jG m_L_law 162 (.iconst 4) [] (.null) 163 := ⟨rfl, rfl⟩
set_option maxRecDepth 100000 in
theorem jf_145_163 : jG m_L_law 163 (.iload 13) [] (.null) 165 := ⟨rfl, rfl⟩
set_option maxRecDepth 100000 in
theorem jf_145_165 : jG m_L_law 165 (.iadd) [] (.null) 166 := ⟨rfl, rfl⟩
set_option maxRecDepth 100000 in
theorem jf_145_166 : jG m_L_law 166 (.iastore) [] (.null) 167 := ⟨rfl, rfl⟩
set_option maxRecDepth 100000 in
theorem jf_145_167 : jG m_L_law 167 (.aload 5) [] (.null) 169 := ⟨rfl, rfl⟩
set_option maxRecDepth 100000 in
theorem jf_145_169 : jG m_L_law 169 (.iload 11) [] (.null) 171 := ⟨rfl, rfl⟩
set_option maxRecDepth 100000 in
theorem jf_145_171 : jG m_L_law 171 (.iload 12) [] (.null) 173 := ⟨rfl, rfl⟩
set_option maxRecDepth 100000 in
theorem jf_145_173 : jG m_L_law 173 (.iconst 3) [] (.null) 174 := ⟨rfl, rfl⟩
set_option maxRecDepth 100000 in
theorem jf_145_174 : jG m_L_law 174 (.ishr) [] (.null) 175 := ⟨rfl, rfl⟩
set_option maxRecDepth 100000 in
theorem jf_145_175 : jG m_L_law 175 (.iconst 3) [] (.null) 176 := ⟨rfl, rfl⟩
set_option maxRecDepth 100000 in
theorem jf_145_176 : jG m_L_law 176 (.iand) [] (.null) 177 := ⟨rfl, rfl⟩
set_option maxRecDepth 100000 in
theorem jf_145_177 : jG m_L_law 177 (.iconst 3) [] (.null) 178 := ⟨rfl, rfl⟩
set_option maxRecDepth 100000 in
theorem jf_145_178 : jG m_L_law 178 (.irem) [] (.null) 179 := ⟨rfl, rfl⟩
set_option maxRecDepth 100000 in
theorem jf_145_179 : jG m_L_law 179 (.iastore) [] (.null) 180 := ⟨rfl, rfl⟩
set_option maxRecDepth 100000 in
theorem jf_145_180 : jG m_L_law 180 (.aload 6) [] (.null) 182 := ⟨rfl, rfl⟩
set_option maxRecDepth 100000 in
theorem jf_145_182 : jG m_L_law 182 (.iload 11) [] (.null) 184 := ⟨rfl, rfl⟩
set_option maxRecDepth 100000 in
theorem jf_145_184 : jG m_L_law 184 (.iload 12) [] (.null) 186 := ⟨rfl, rfl⟩
set_option maxRecDepth 100000 in
theorem jf_145_186 : jG m_L_law 186 (.iconst 5) [] (.null) 187 := ⟨rfl, rfl⟩
set_option maxRecDepth 100000 in
theorem jf_145_187 : jG m_L_law 187 (.ishr) [] (.null) 188 := ⟨rfl, rfl⟩
set_option maxRecDepth 100000 in
theorem jf_145_188 : jG m_L_law 188 (.iconst 1) [] (.null) 189 := ⟨rfl, rfl⟩
set_option maxRecDepth 100000 in
theorem jf_145_189 : jG m_L_law 189 (.iand) [] (.null) 190 := ⟨rfl, rfl⟩
set_option maxRecDepth 100000 in
theorem jf_145_190 : jG m_L_law 190 (.iastore) [] (.null) 191 := ⟨rfl, rfl⟩
set_option maxRecDepth 100000 in
theorem jf_145_191 : jG m_L_law 191 (.aload 7) [] (.null) 193 := ⟨rfl, rfl⟩
set_option maxRecDepth 100000 in
theorem jf_145_193 : jG m_L_law 193 (.iload 11) [] (.null) 195 := ⟨rfl, rfl⟩
set_option maxRecDepth 100000 in
theorem jf_145_195 : jG m_L_law 195 (.iconst 1) [] (.null) 196 := ⟨rfl, rfl⟩
set_option maxRecDepth 100000 in
theorem jf_145_196 : jG m_L_law 196 (.iload 12) [] (.null) 198 := ⟨rfl, rfl⟩
set_option maxRecDepth 100000 in
theorem jf_145_198 : jG m_L_law 198 (.bipush 6) [] (.null) 200 := ⟨rfl, rfl⟩
set_option maxRecDepth 100000 in
theorem jf_145_200 : jG m_L_law 200 (.ishr) [] (.null) 201 := ⟨rfl, rfl⟩
set_option maxRecDepth 100000 in
theorem jf_145_201 : jG m_L_law 201 (.iconst 3) [] (.null) 202 := ⟨rfl, rfl⟩
set_option maxRecDepth 100000 in
theorem jf_145_202 : jG m_L_law 202 (.iand) [] (.null) 203 := ⟨rfl, rfl⟩
set_option maxRecDepth 100000 in
theorem jf_145_203 : jG m_L_law 203 (.iadd) [] (.null) 204 := ⟨rfl, rfl⟩
set_option maxRecDepth 100000 in
theorem jf_145_204 : jG m_L_law 204 (.iastore) [] (.null) 205 := ⟨rfl, rfl⟩
set_option maxRecDepth 100000 in
theorem jf_145_205 : jG m_L_law 205 (.aload 8) [] (.null) 207 := ⟨rfl, rfl⟩
set_option maxRecDepth 100000 in
theorem jf_145_207 : jG m_L_law 207 (.iload 11) [] (.null) 209 := ⟨rfl, rfl⟩
set_option maxRecDepth 100000 in
theorem jf_145_209 : jG m_L_law 209 (.iload 12) [] (.null) 211 := ⟨rfl, rfl⟩
set_option maxRecDepth 100000 in
theorem jf_145_211 : jG m_L_law 211 (.bipush 8) [] (.null) 213 := ⟨rfl, rfl⟩
set_option maxRecDepth 100000 in
theorem jf_145_213 : jG m_L_law 213 (.ishr) [] (.null) 214 := ⟨rfl, rfl⟩
set_option maxRecDepth 100000 in
theorem jf_145_214 : jG m_L_law 214 (.i2s) [] (.null) 215 := ⟨rfl, rfl⟩
set_option maxRecDepth 100000 in
theorem jf_145_215 : jG m_L_law 215 (.i2l) [] (.null) 216 := ⟨rfl, rfl⟩
set_option maxRecDepth 100000 in
theorem jf_145_216 : jG m_L_law 216 (.lastore) [] (.null) 217 := ⟨rfl, rfl⟩
set_option maxRecDepth 100000 in
theorem jf_145_217 : jG m_L_law 217 (.aload 9) [] (.null) 219 := ⟨rfl, rfl⟩
set_option maxRecDepth 100000 in
theorem jf_145_219 : jG m_L_law 219 (.iload 11) [] (.null) 221 := ⟨rfl, rfl⟩
set_option maxRecDepth 100000 in
theorem jf_145_221 : jG m_L_law 221 (.iload 12) [] (.null) 223 := ⟨rfl, rfl⟩
set_option maxRecDepth 100000 in
theorem jf_145_223 : jG m_L_law 223 (.bipush 16) [] (.null) 225 := ⟨rfl, rfl⟩
set_option maxRecDepth 100000 in
theorem jf_145_225 : jG m_L_law 225 (.ishr) [] (.null) 226 := ⟨rfl, rfl⟩
set_option maxRecDepth 100000 in
theorem jf_145_226 : jG m_L_law 226 (.i2s) [] (.null) 227 := ⟨rfl, rfl⟩
set_option maxRecDepth 100000 in
theorem jf_145_227 : jG m_L_law 227 (.i2l) [] (.null) 228 := ⟨rfl, rfl⟩
set_option maxRecDepth 100000 in
theorem jf_145_228 : jG m_L_law 228 (.lastore) [] (.null) 229 := ⟨rfl, rfl⟩
set_option maxRecDepth 100000 in
theorem jf_145_229 : jG m_L_law 229 (.iload 10) [] (.null) 231 := ⟨rfl, rfl⟩
set_option maxRecDepth 100000 in
theorem jf_145_231 : jG m_L_law 231 (.ifCond .eq 58) [289] (.null) 234 := ⟨rfl, rfl⟩
set_option maxRecDepth 100000 in
theorem jf_145_234 : jG m_L_law 234 (.aload_n 2) [] (.null) 235 := ⟨rfl, rfl⟩
set_option maxRecDepth 100000 in
theorem jf_145_235 : jG m_L_law 235 (.aload 4) [] (.null) 237 := ⟨rfl, rfl⟩
set_option maxRecDepth 100000 in
theorem jf_145_237 : jG m_L_law 237 (.iload 11) [] (.null) 239 := ⟨rfl, rfl⟩
set_option maxRecDepth 100000 in
theorem jf_145_239 : jG m_L_law 239 (.iaload) [] (.null) 240 := ⟨rfl, rfl⟩
set_option maxRecDepth 100000 in
theorem jf_145_240 : jG m_L_law 240 (.iconst 2) [] (.null) 241 := ⟨rfl, rfl⟩
set_option maxRecDepth 100000 in
theorem jf_145_241 : jG m_L_law 241 (.aload 7) [] (.null) 243 := ⟨rfl, rfl⟩
set_option maxRecDepth 100000 in
theorem jf_145_243 : jG m_L_law 243 (.iload 11) [] (.null) 245 := ⟨rfl, rfl⟩
set_option maxRecDepth 100000 in
theorem jf_145_245 : jG m_L_law 245 (.iaload) [] (.null) 246 := ⟨rfl, rfl⟩
set_option maxRecDepth 100000 in
theorem jf_145_246 : jG m_L_law 246 (.invokevirtual 28) [6, 3, 0, m_B_section] (.null) 249 := ⟨rfl, rfl⟩
set_option maxRecDepth 100000 in
theorem jf_145_249 : jG m_L_law 249 (.iload 11) [] (.null) 251 := ⟨rfl, rfl⟩
set_option maxRecDepth 100000 in
theorem jf_145_251 : jG m_L_law 251 (.if_icmp .ne 38) [289] (.null) 254 := ⟨rfl, rfl⟩
set_option maxRecDepth 100000 in
theorem jf_145_254 : jG m_L_law 254 (.aload_n 2) [] (.null) 255 := ⟨rfl, rfl⟩
set_option maxRecDepth 100000 in
theorem jf_145_255 : jG m_L_law 255 (.iconst 0) [] (.null) 256 := ⟨rfl, rfl⟩
set_option maxRecDepth 100000 in
theorem jf_145_256 : jG m_L_law 256 (.iload 11) [] (.null) 258 := ⟨rfl, rfl⟩
set_option maxRecDepth 100000 in
theorem jf_145_258 : jG m_L_law 258 (.invokevirtual 32) [6, 2, 0, m_B_add] (.null) 261 := ⟨rfl, rfl⟩
set_option maxRecDepth 100000 in
theorem jf_145_261 : jG m_L_law 261 (.iload 11) [] (.null) 263 := ⟨rfl, rfl⟩
set_option maxRecDepth 100000 in
theorem jf_145_263 : jG m_L_law 263 (.if_icmp .ne 26) [289] (.null) 266 := ⟨rfl, rfl⟩
set_option maxRecDepth 100000 in
theorem jf_145_266 : jG m_L_law 266 (.aload_n 2) [] (.null) 267 := ⟨rfl, rfl⟩
set_option maxRecDepth 100000 in
theorem jf_145_267 : jG m_L_law 267 (.iload 11) [] (.null) 269 := ⟨rfl, rfl⟩
set_option maxRecDepth 100000 in
theorem jf_145_269 : jG m_L_law 269 (.aload 5) [] (.null) 271 := ⟨rfl, rfl⟩
set_option maxRecDepth 100000 in
theorem jf_145_271 : jG m_L_law 271 (.iload 11) [] (.null) 273 := ⟨rfl, rfl⟩
set_option maxRecDepth 100000 in
theorem jf_145_273 : jG m_L_law 273 (.iaload) [] (.null) 274 := ⟨rfl, rfl⟩
set_option maxRecDepth 100000 in
theorem jf_145_274 : jG m_L_law 274 (.aload 6) [] (.null) 276 := ⟨rfl, rfl⟩
set_option maxRecDepth 100000 in
theorem jf_145_276 : jG m_L_law 276 (.iload 11) [] (.null) 278 := ⟨rfl, rfl⟩
set_option maxRecDepth 100000 in
theorem jf_145_278 : jG m_L_law 278 (.iaload) [] (.null) 279 := ⟨rfl, rfl⟩
set_option maxRecDepth 100000 in
theorem jf_145_279 : jG m_L_law 279 (.invokevirtual 36) [6, 3, 0, m_B_rule] (.null) 282 := ⟨rfl, rfl⟩
set_option maxRecDepth 100000 in
theorem jf_145_282 : jG m_L_law 282 (.ifCond .eq 7) [289] (.null) 285 := ⟨rfl, rfl⟩
set_option maxRecDepth 100000 in
theorem jf_145_285 : jG m_L_law 285 (.iconst 1) [] (.null) 286 := ⟨rfl, rfl⟩
set_option maxRecDepth 100000 in
theorem jf_145_286 : jG m_L_law 286 (.goto 4) [290] (.null) 289 := ⟨rfl, rfl⟩
set_option maxRecDepth 100000 in
theorem jf_145_289 : jG m_L_law 289 (.iconst 0) [] (.null) 290 := ⟨rfl, rfl⟩
set_option maxRecDepth 100000 in
theorem jf_145_290 : jG m_L_law 290 (.istore 10) [] (.null) 292 := ⟨rfl, rfl⟩
set_option maxRecDepth 100000 in
theorem jf_145_292 : jG m_L_law 292 (.aload 4) [] (.null) 294 := ⟨rfl, rfl⟩
set_option maxRecDepth 100000 in
theorem jf_145_294 : jG m_L_law 294 (.iload 11) [] (.null) 296 := ⟨rfl, rfl⟩
set_option maxRecDepth 100000 in
theorem jf_145_296 : jG m_L_law 296 (.iaload) [] (.null) 297 := ⟨rfl, rfl⟩
set_option maxRecDepth 100000 in
theorem jf_145_297 : jG m_L_law 297 (.bipush 6) [] (.null) 299 := ⟨rfl, rfl⟩
set_option maxRecDepth 100000 in
theorem jf_145_299 : jG m_L_law 299 (.if_icmp .eq 30) [329] (.null) 302 := ⟨rfl, rfl⟩
set_option maxRecDepth 100000 in
theorem jf_145_302 : jG m_L_law 302 (.iload 10) [] (.null) 304 := ⟨rfl, rfl⟩
set_option maxRecDepth 100000 in
theorem jf_145_304 : jG m_L_law 304 (.ifCond .eq 22) [326] (.null) 307 := ⟨rfl, rfl⟩
set_option maxRecDepth 100000 in
theorem jf_145_307 : jG m_L_law 307 (.aload_n 2) [] (.null) 308 := ⟨rfl, rfl⟩
set_option maxRecDepth 100000 in
theorem jf_145_308 : jG m_L_law 308 (.iload 11) [] (.null) 310 := ⟨rfl, rfl⟩
set_option maxRecDepth 100000 in
theorem jf_145_310 : jG m_L_law 310 (.iconst 0) [] (.null) 311 := ⟨rfl, rfl⟩
set_option maxRecDepth 100000 in
theorem jf_145_311 : jG m_L_law 311 (.aload 8) [] (.null) 313 := ⟨rfl, rfl⟩
set_option maxRecDepth 100000 in
theorem jf_145_313 : jG m_L_law 313 (.iload 11) [] (.null) 315 := ⟨rfl, rfl⟩
set_option maxRecDepth 100000 in
theorem jf_145_315 : jG m_L_law 315 (.laload) [] (.null) 316 := ⟨rfl, rfl⟩
set_option maxRecDepth 100000 in
theorem jf_145_316 : jG m_L_law 316 (.invokevirtual 40) [6, 3, 0, m_B_coefficient] (.null) 319 := ⟨rfl, rfl⟩
set_option maxRecDepth 100000 in
theorem jf_145_319 : jG m_L_law 319 (.ifCond .eq 7) [326] (.null) 322 := ⟨rfl, rfl⟩
set_option maxRecDepth 100000 in
theorem jf_145_322 : jG m_L_law 322 (.iconst 1) [] (.null) 323 := ⟨rfl, rfl⟩
set_option maxRecDepth 100000 in
theorem jf_145_323 : jG m_L_law 323 (.goto 4) [327] (.null) 326 := ⟨rfl, rfl⟩
set_option maxRecDepth 100000 in
theorem jf_145_326 : jG m_L_law 326 (.iconst 0) [] (.null) 327 := ⟨rfl, rfl⟩
set_option maxRecDepth 100000 in
theorem jf_145_327 : jG m_L_law 327 (.istore 10) [] (.null) 329 := ⟨rfl, rfl⟩
set_option maxRecDepth 100000 in
theorem jf_145_329 : jG m_L_law 329 (.aload 4) [] (.null) 331 := ⟨rfl, rfl⟩
set_option maxRecDepth 100000 in
theorem jf_145_331 : jG m_L_law 331 (.iload 11) [] (.null) 333 := ⟨rfl, rfl⟩
set_option maxRecDepth 100000 in
theorem jf_145_333 : jG m_L_law 333 (.iaload) [] (.null) 334 := ⟨rfl, rfl⟩
set_option maxRecDepth 100000 in
theorem jf_145_334 : jG m_L_law 334 (.iconst 1) [] (.null) 335 := ⟨rfl, rfl⟩
set_option maxRecDepth 100000 in
theorem jf_145_335 : jG m_L_law 335 (.if_icmp .ne 30) [365] (.null) 338 := ⟨rfl, rfl⟩
set_option maxRecDepth 100000 in
theorem jf_145_338 : jG m_L_law 338 (.iload 10) [] (.null) 340 := ⟨rfl, rfl⟩
set_option maxRecDepth 100000 in
theorem jf_145_340 : jG m_L_law 340 (.ifCond .eq 22) [362] (.null) 343 := ⟨rfl, rfl⟩
set_option maxRecDepth 100000 in
theorem jf_145_343 : jG m_L_law 343 (.aload_n 2) [] (.null) 344 := ⟨rfl, rfl⟩
set_option maxRecDepth 100000 in
theorem jf_145_344 : jG m_L_law 344 (.iload 11) [] (.null) 346 := ⟨rfl, rfl⟩
set_option maxRecDepth 100000 in
theorem jf_145_346 : jG m_L_law 346 (.iconst 1) [] (.null) 347 := ⟨rfl, rfl⟩
set_option maxRecDepth 100000 in
theorem jf_145_347 : jG m_L_law 347 (.aload 9) [] (.null) 349 := ⟨rfl, rfl⟩
set_option maxRecDepth 100000 in
theorem jf_145_349 : jG m_L_law 349 (.iload 11) [] (.null) 351 := ⟨rfl, rfl⟩
set_option maxRecDepth 100000 in
theorem jf_145_351 : jG m_L_law 351 (.laload) [] (.null) 352 := ⟨rfl, rfl⟩
set_option maxRecDepth 100000 in
theorem jf_145_352 : jG m_L_law 352 (.invokevirtual 40) [6, 3, 0, m_B_coefficient] (.null) 355 := ⟨rfl, rfl⟩
set_option maxRecDepth 100000 in
theorem jf_145_355 : jG m_L_law 355 (.ifCond .eq 7) [362] (.null) 358 := ⟨rfl, rfl⟩
set_option maxRecDepth 100000 in
theorem jf_145_358 : jG m_L_law 358 (.iconst 1) [] (.null) 359 := ⟨rfl, rfl⟩
set_option maxRecDepth 100000 in
theorem jf_145_359 : jG m_L_law 359 (.goto 4) [363] (.null) 362 := ⟨rfl, rfl⟩
set_option maxRecDepth 100000 in
theorem jf_145_362 : jG m_L_law 362 (.iconst 0) [] (.null) 363 := ⟨rfl, rfl⟩
set_option maxRecDepth 100000 in
theorem jf_145_363 : jG m_L_law 363 (.istore 10) [] (.null) 365 := ⟨rfl, rfl⟩
set_option maxRecDepth 100000 in
theorem jf_145_365 : jG m_L_law 365 (.iinc 11 1) [] (.null) 368 := ⟨rfl, rfl⟩
set_option maxRecDepth 100000 in
theorem jf_145_368 : jG m_L_law 368 (.goto (-274)) [94] (.null) 371 := ⟨rfl, rfl⟩
set_option maxRecDepth 100000 in
theorem jf_145_371 : jG m_L_law 371 (.iconst 1) [] (.null) 372 := ⟨rfl, rfl⟩
set_option maxRecDepth 100000 in
theorem jf_145_372 : jG m_L_law 372 (.aload_n 1) [] (.null) 373 := ⟨rfl, rfl⟩
set_option maxRecDepth 100000 in
theorem jf_145_373 : jG m_L_law 373 (.iconst 0) [] (.null) 374 := ⟨rfl, rfl⟩
set_option maxRecDepth 100000 in
theorem jf_145_374 : jG m_L_law 374 (.iaload) [] (.null) 375 := ⟨rfl, rfl⟩
set_option maxRecDepth 100000 in
theorem jf_145_375 : jG m_L_law 375 (.iconst 2) [] (.null) 376 := ⟨rfl, rfl⟩
set_option maxRecDepth 100000 in
theorem jf_145_376 : jG m_L_law 376 (.ishr) [] (.null) 377 := ⟨rfl, rfl⟩
set_option maxRecDepth 100000 in
theorem jf_145_377 : jG m_L_law 377 (.iconst 3) [] (.null) 378 := ⟨rfl, rfl⟩
set_option maxRecDepth 100000 in
theorem jf_145_378 : jG m_L_law 378 (.iand) [] (.null) 379 := ⟨rfl, rfl⟩
set_option maxRecDepth 100000 in
theorem jf_145_379 : jG m_L_law 379 (.iadd) [] (.null) 380 := ⟨rfl, rfl⟩
set_option maxRecDepth 100000 in
theorem jf_145_380 : jG m_L_law 380 (.istore 11) [] (.null) 382 := ⟨rfl, rfl⟩
set_option maxRecDepth 100000 in
theorem jf_145_382 : jG m_L_law 382 (.iconst 1) [] (.null) 383 := ⟨rfl, rfl⟩
set_option maxRecDepth 100000 in
theorem jf_145_383 : jG m_L_law 383 (.aload_n 1) [] (.null) 384 := ⟨rfl, rfl⟩
set_option maxRecDepth 100000 in
theorem jf_145_384 : jG m_L_law 384 (.iconst 0) [] (.null) 385 := ⟨rfl, rfl⟩
set_option maxRecDepth 100000 in
theorem jf_145_385 : jG m_L_law 385 (.iaload) [] (.null) 386 := ⟨rfl, rfl⟩
set_option maxRecDepth 100000 in
theorem jf_145_386 : jG m_L_law 386 (.iconst 4) [] (.null) 387 := ⟨rfl, rfl⟩
set_option maxRecDepth 100000 in
theorem jf_145_387 : jG m_L_law 387 (.ishr) [] (.null) 388 := ⟨rfl, rfl⟩
set_option maxRecDepth 100000 in
theorem jf_145_388 : jG m_L_law 388 (.iconst 3) [] (.null) 389 := ⟨rfl, rfl⟩
set_option maxRecDepth 100000 in
theorem jf_145_389 : jG m_L_law 389 (.iand) [] (.null) 390 := ⟨rfl, rfl⟩
set_option maxRecDepth 100000 in
theorem jf_145_390 : jG m_L_law 390 (.iadd) [] (.null) 391 := ⟨rfl, rfl⟩
set_option maxRecDepth 100000 in
theorem jf_145_391 : jG m_L_law 391 (.istore 12) [] (.null) 393 := ⟨rfl, rfl⟩
set_option maxRecDepth 100000 in
theorem jf_145_393 : jG m_L_law 393 (.aload_n 1) [] (.null) 394 := ⟨rfl, rfl⟩
set_option maxRecDepth 100000 in
theorem jf_145_394 : jG m_L_law 394 (.iconst 0) [] (.null) 395 := ⟨rfl, rfl⟩
set_option maxRecDepth 100000 in
theorem jf_145_395 : jG m_L_law 395 (.iaload) [] (.null) 396 := ⟨rfl, rfl⟩
set_option maxRecDepth 100000 in
theorem jf_145_396 : jG m_L_law 396 (.bipush 6) [] (.null) 398 := ⟨rfl, rfl⟩
set_option maxRecDepth 100000 in
theorem jf_145_398 : jG m_L_law 398 (.ishr) [] (.null) 399 := ⟨rfl, rfl⟩
set_option maxRecDepth 100000 in
theorem jf_145_399 : jG m_L_law 399 (.i2s) [] (.null) 400 := ⟨rfl, rfl⟩
set_option maxRecDepth 100000 in
theorem jf_145_400 : jG m_L_law 400 (.i2l) [] (.null) 401 := ⟨rfl, rfl⟩
set_option maxRecDepth 100000 in
theorem jf_145_401 : jG m_L_law 401 (.lstore 13) [] (.null) 403 := ⟨rfl, rfl⟩
set_option maxRecDepth 100000 in
theorem jf_145_403 : jG m_L_law 403 (.aload_n 1) [] (.null) 404 := ⟨rfl, rfl⟩
set_option maxRecDepth 100000 in
theorem jf_145_404 : jG m_L_law 404 (.iconst 0) [] (.null) 405 := ⟨rfl, rfl⟩
set_option maxRecDepth 100000 in
theorem jf_145_405 : jG m_L_law 405 (.iaload) [] (.null) 406 := ⟨rfl, rfl⟩
set_option maxRecDepth 100000 in
theorem jf_145_406 : jG m_L_law 406 (.bipush 12) [] (.null) 408 := ⟨rfl, rfl⟩
set_option maxRecDepth 100000 in
theorem jf_145_408 : jG m_L_law 408 (.ishr) [] (.null) 409 := ⟨rfl, rfl⟩
set_option maxRecDepth 100000 in
theorem jf_145_409 : jG m_L_law 409 (.i2s) [] (.null) 410 := ⟨rfl, rfl⟩
set_option maxRecDepth 100000 in
theorem jf_145_410 : jG m_L_law 410 (.i2l) [] (.null) 411 := ⟨rfl, rfl⟩
set_option maxRecDepth 100000 in
theorem jf_145_411 : jG m_L_law 411 (.lstore 15) [] (.null) 413 := ⟨rfl, rfl⟩
set_option maxRecDepth 100000 in
theorem jf_145_413 : jG m_L_law 413 (.iload 10) [] (.null) 415 := ⟨rfl, rfl⟩
set_option maxRecDepth 100000 in
theorem jf_145_415 : jG m_L_law 415 (.ifCond .eq 47) [462] (.null) 418 := ⟨rfl, rfl⟩
set_option maxRecDepth 100000 in
theorem jf_145_418 : jG m_L_law 418 (.aload_n 2) [] (.null) 419 := ⟨rfl, rfl⟩
set_option maxRecDepth 100000 in
theorem jf_145_419 : jG m_L_law 419 (.iconst 0) [] (.null) 420 := ⟨rfl, rfl⟩
set_option maxRecDepth 100000 in
theorem jf_145_420 : jG m_L_law 420 (.iconst 0) [] (.null) 421 := ⟨rfl, rfl⟩
set_option maxRecDepth 100000 in
theorem jf_145_421 : jG m_L_law 421 (.iload_n 3) [] (.null) 422 := ⟨rfl, rfl⟩
set_option maxRecDepth 100000 in
theorem jf_145_422 : jG m_L_law 422 (.iconst 1) [] (.null) 423 := ⟨rfl, rfl⟩
set_option maxRecDepth 100000 in
theorem jf_145_423 : jG m_L_law 423 (.isub) [] (.null) 424 := ⟨rfl, rfl⟩
set_option maxRecDepth 100000 in
theorem jf_145_424 : jG m_L_law 424 (.iload 11) [] (.null) 426 := ⟨rfl, rfl⟩
set_option maxRecDepth 100000 in
theorem jf_145_426 : jG m_L_law 426 (.lload 13) [] (.null) 428 := ⟨rfl, rfl⟩
set_option maxRecDepth 100000 in
theorem jf_145_428 : jG m_L_law 428 (.invokevirtual 44) [6, 5, 0, m_B_loop] (.null) 431 := ⟨rfl, rfl⟩
set_option maxRecDepth 100000 in
theorem jf_145_431 : jG m_L_law 431 (.iconst 1) [] (.null) 432 := ⟨rfl, rfl⟩
set_option maxRecDepth 100000 in
theorem jf_145_432 : jG m_L_law 432 (.if_icmp .ne 30) [462] (.null) 435 := ⟨rfl, rfl⟩
set_option maxRecDepth 100000 in
theorem jf_145_435 : jG m_L_law 435 (.aload_n 2) [] (.null) 436 := ⟨rfl, rfl⟩
set_option maxRecDepth 100000 in
theorem jf_145_436 : jG m_L_law 436 (.iconst 0) [] (.null) 437 := ⟨rfl, rfl⟩
set_option maxRecDepth 100000 in
theorem jf_145_437 : jG m_L_law 437 (.iconst 0) [] (.null) 438 := ⟨rfl, rfl⟩
set_option maxRecDepth 100000 in
theorem jf_145_438 : jG m_L_law 438 (.iconst 0) [] (.null) 439 := ⟨rfl, rfl⟩
set_option maxRecDepth 100000 in
theorem jf_145_439 : jG m_L_law 439 (.iload 12) [] (.null) 441 := ⟨rfl, rfl⟩
set_option maxRecDepth 100000 in
theorem jf_145_441 : jG m_L_law 441 (.lload 15) [] (.null) 443 := ⟨rfl, rfl⟩
set_option maxRecDepth 100000 in
theorem jf_145_443 : jG m_L_law 443 (.invokevirtual 44) [6, 5, 0, m_B_loop] (.null) 446 := ⟨rfl, rfl⟩
set_option maxRecDepth 100000 in
theorem jf_145_446 : jG m_L_law 446 (.iconst 2) [] (.null) 447 := ⟨rfl, rfl⟩
set_option maxRecDepth 100000 in
theorem jf_145_447 : jG m_L_law 447 (.if_icmp .ne 15) [462] (.null) 450 := ⟨rfl, rfl⟩
set_option maxRecDepth 100000 in
theorem jf_145_450 : jG m_L_law 450 (.aload_n 2) [] (.null) 451 := ⟨rfl, rfl⟩
set_option maxRecDepth 100000 in
theorem jf_145_451 : jG m_L_law 451 (.iconst 0) [] (.null) 452 := ⟨rfl, rfl⟩
set_option maxRecDepth 100000 in
theorem jf_145_452 : jG m_L_law 452 (.invokevirtual 48) [6, 1, 0, m_B_keep] (.null) 455 := ⟨rfl, rfl⟩
set_option maxRecDepth 100000 in
theorem jf_145_455 : jG m_L_law 455 (.ifCond .ne 7) [462] (.null) 458 := ⟨rfl, rfl⟩
set_option maxRecDepth 100000 in
theorem jf_145_458 : jG m_L_law 458 (.iconst 1) [] (.null) 459 := ⟨rfl, rfl⟩
set_option maxRecDepth 100000 in
theorem jf_145_459 : jG m_L_law 459 (.goto 4) [463] (.null) 462 := ⟨rfl, rfl⟩
set_option maxRecDepth 100000 in
theorem jf_145_462 : jG m_L_law 462 (.iconst 0) [] (.null) 463 := ⟨rfl, rfl⟩
set_option maxRecDepth 100000 in
theorem jf_145_463 : jG m_L_law 463 (.istore 10) [] (.null) 465 := ⟨rfl, rfl⟩
set_option maxRecDepth 100000 in
theorem jf_145_465 : jG m_L_law 465 (.iconst 4) [] (.null) 466 := ⟨rfl, rfl⟩
set_option maxRecDepth 100000 in
theorem jf_145_466 : jG m_L_law 466 (.newarray .long) [] (.null) 468 := ⟨rfl, rfl⟩
set_option maxRecDepth 100000 in
theorem jf_145_468 : jG m_L_law 468 (.astore 17) [] (.null) 470 := ⟨rfl, rfl⟩
set_option maxRecDepth 100000 in
theorem jf_145_470 : jG m_L_law 470 (.bipush 16) [] (.null) 472 := ⟨rfl, rfl⟩
set_option maxRecDepth 100000 in
theorem jf_145_472 : jG m_L_law 472 (.newarray .long) [] (.null) 474 := ⟨rfl, rfl⟩
set_option maxRecDepth 100000 in
theorem jf_145_474 : jG m_L_law 474 (.astore 18) [] (.null) 476 := ⟨rfl, rfl⟩
set_option maxRecDepth 100000 in
theorem jf_145_476 : jG m_L_law 476 (.iconst 4) [] (.null) 477 := ⟨rfl, rfl⟩
set_option maxRecDepth 100000 in
theorem jf_145_477 : jG m_L_law 477 (.newarray .int) [] (.null) 479 := ⟨rfl, rfl⟩
set_option maxRecDepth 100000 in
theorem jf_145_479 : jG m_L_law 479 (.astore 19) [] (.null) 481 := ⟨rfl, rfl⟩
set_option maxRecDepth 100000 in
theorem jf_145_481 : jG m_L_law 481 (.iconst 4) [] (.null) 482 := ⟨rfl, rfl⟩
set_option maxRecDepth 100000 in
theorem jf_145_482 : jG m_L_law 482 (.newarray .long) [] (.null) 484 := ⟨rfl, rfl⟩
set_option maxRecDepth 100000 in
theorem jf_145_484 : jG m_L_law 484 (.astore 20) [] (.null) 486 := ⟨rfl, rfl⟩
set_option maxRecDepth 100000 in
theorem jf_145_486 : jG m_L_law 486 (.iconst 4) [] (.null) 487 := ⟨rfl, rfl⟩
set_option maxRecDepth 100000 in
theorem jf_145_487 : jG m_L_law 487 (.newarray .int) [] (.null) 489 := ⟨rfl, rfl⟩
set_option maxRecDepth 100000 in
theorem jf_145_489 : jG m_L_law 489 (.astore 21) [] (.null) 491 := ⟨rfl, rfl⟩
set_option maxRecDepth 100000 in
theorem jf_145_491 : jG m_L_law 491 (.iconst 4) [] (.null) 492 := ⟨rfl, rfl⟩
set_option maxRecDepth 100000 in
theorem jf_145_492 : jG m_L_law 492 (.newarray .int) [] (.null) 494 := ⟨rfl, rfl⟩
set_option maxRecDepth 100000 in
theorem jf_145_494 : jG m_L_law 494 (.astore 22) [] (.null) 496 := ⟨rfl, rfl⟩
set_option maxRecDepth 100000 in
theorem jf_145_496 : jG m_L_law 496 (.bipush 8) [] (.null) 498 := ⟨rfl, rfl⟩
set_option maxRecDepth 100000 in
theorem jf_145_498 : jG m_L_law 498 (.newarray .long) [] (.null) 500 := ⟨rfl, rfl⟩
set_option maxRecDepth 100000 in
theorem jf_145_500 : jG m_L_law 500 (.astore 23) [] (.null) 502 := ⟨rfl, rfl⟩
set_option maxRecDepth 100000 in
theorem jf_145_502 : jG m_L_law 502 (.iconst 0) [] (.null) 503 := ⟨rfl, rfl⟩
set_option maxRecDepth 100000 in
theorem jf_145_503 : jG m_L_law 503 (.istore 24) [] (.null) 505 := ⟨rfl, rfl⟩
set_option maxRecDepth 100000 in
theorem jf_145_505 : jG m_L_law 505 (.iconst 0) [] (.null) 506 := ⟨rfl, rfl⟩
set_option maxRecDepth 100000 in
theorem jf_145_506 : jG m_L_law 506 (.istore 25) [] (.null) 508 := ⟨rfl, rfl⟩
set_option maxRecDepth 100000 in
theorem jf_145_508 : jG m_L_law 508 (.bipush 40) [] (.null) 510 := ⟨rfl, rfl⟩
set_option maxRecDepth 100000 in
theorem jf_145_510 : jG m_L_law 510 (.newarray .int) [] (.null) 512 := ⟨rfl, rfl⟩
set_option maxRecDepth 100000 in
theorem jf_145_512 : jG m_L_law 512 (.astore 26) [] (.null) 514 := ⟨rfl, rfl⟩
set_option maxRecDepth 100000 in
theorem jf_145_514 : jG m_L_law 514 (.iconst 0) [] (.null) 515 := ⟨rfl, rfl⟩
set_option maxRecDepth 100000 in
theorem jf_145_515 : jG m_L_law 515 (.istore 27) [] (.null) 517 := ⟨rfl, rfl⟩
set_option maxRecDepth 100000 in
theorem jf_145_517 : jG m_L_law 517 (.iload 27) [] (.null) 519 := ⟨rfl, rfl⟩
set_option maxRecDepth 100000 in
theorem jf_145_519 : jG m_L_law 519 (.bipush 40) [] (.null) 521 := ⟨rfl, rfl⟩
set_option maxRecDepth 100000 in
theorem jf_145_521 : jG m_L_law 521 (.if_icmp .ge 1042) [1563] (.null) 524 := ⟨rfl, rfl⟩
set_option maxRecDepth 100000 in
theorem jf_145_524 : jG m_L_law 524 (.iload 10) [] (.null) 526 := ⟨rfl, rfl⟩
set_option maxRecDepth 100000 in
theorem jf_145_526 : jG m_L_law 526 (.ifCond .eq 1037) [1563] (.null) 529 := ⟨rfl, rfl⟩
set_option maxRecDepth 100000 in
theorem jf_145_529 : jG m_L_law 529 (.aload_n 1) [] (.null) 530 := ⟨rfl, rfl⟩
set_option maxRecDepth 100000 in
theorem jf_145_530 : jG m_L_law 530 (.bipush 10) [] (.null) 532 := ⟨rfl, rfl⟩
set_option maxRecDepth 100000 in
theorem jf_145_532 : jG m_L_law 532 (.iload 27) [] (.null) 534 := ⟨rfl, rfl⟩
set_option maxRecDepth 100000 in
theorem jf_145_534 : jG m_L_law 534 (.iadd) [] (.null) 535 := ⟨rfl, rfl⟩
set_option maxRecDepth 100000 in
theorem jf_145_535 : jG m_L_law 535 (.iaload) [] (.null) 536 := ⟨rfl, rfl⟩
set_option maxRecDepth 100000 in
theorem jf_145_536 : jG m_L_law 536 (.iload 27) [] (.null) 538 := ⟨rfl, rfl⟩
set_option maxRecDepth 100000 in
theorem jf_145_538 : jG m_L_law 538 (.bipush 7) [] (.null) 540 := ⟨rfl, rfl⟩
set_option maxRecDepth 100000 in
theorem jf_145_540 : jG m_L_law 540 (.iand) [] (.null) 541 := ⟨rfl, rfl⟩
set_option maxRecDepth 100000 in
theorem jf_145_541 : jG m_L_law 541 (.ishr) [] (.null) 542 := ⟨rfl, rfl⟩
set_option maxRecDepth 100000 in
theorem jf_145_542 : jG m_L_law 542 (.i2s) [] (.null) 543 := ⟨rfl, rfl⟩
set_option maxRecDepth 100000 in
theorem jf_145_543 : jG m_L_law 543 (.i2l) [] (.null) 544 := ⟨rfl, rfl⟩
set_option maxRecDepth 100000 in
theorem jf_145_544 : jG m_L_law 544 (.lstore 28) [] (.null) 546 := ⟨rfl, rfl⟩
set_option maxRecDepth 100000 in
theorem jf_145_546 : jG m_L_law 546 (.lload 28) [] (.null) 548 := ⟨rfl, rfl⟩
set_option maxRecDepth 100000 in
theorem jf_145_548 : jG m_L_law 548 (.lstore 30) [] (.null) 550 := ⟨rfl, rfl⟩
set_option maxRecDepth 100000 in
theorem jf_145_550 : jG m_L_law 550 (.iconst 0) [] (.null) 551 := ⟨rfl, rfl⟩
set_option maxRecDepth 100000 in
theorem jf_145_551 : jG m_L_law 551 (.istore 32) [] (.null) 553 := ⟨rfl, rfl⟩
set_option maxRecDepth 100000 in
theorem jf_145_553 : jG m_L_law 553 (.iload 32) [] (.null) 555 := ⟨rfl, rfl⟩
set_option maxRecDepth 100000 in
theorem jf_145_555 : jG m_L_law 555 (.iload_n 3) [] (.null) 556 := ⟨rfl, rfl⟩
set_option maxRecDepth 100000 in
theorem jf_145_556 : jG m_L_law 556 (.if_icmp .ge 871) [1427] (.null) 559 := ⟨rfl, rfl⟩
set_option maxRecDepth 100000 in
theorem jf_145_559 : jG m_L_law 559 (.iload 32) [] (.null) 561 := ⟨rfl, rfl⟩
set_option maxRecDepth 100000 in
theorem jf_145_561 : jG m_L_law 561 (.ifCond .ne 7) [568] (.null) 564 := ⟨rfl, rfl⟩
set_option maxRecDepth 100000 in
theorem jf_145_564 : jG m_L_law 564 (.iconst 2) [] (.null) 565 := ⟨rfl, rfl⟩
set_option maxRecDepth 100000 in
theorem jf_145_565 : jG m_L_law 565 (.goto 4) [569] (.null) 568 := ⟨rfl, rfl⟩
set_option maxRecDepth 100000 in
theorem jf_145_568 : jG m_L_law 568 (.iconst 0) [] (.null) 569 := ⟨rfl, rfl⟩
set_option maxRecDepth 100000 in
theorem jf_145_569 : jG m_L_law 569 (.istore 33) [] (.null) 571 := ⟨rfl, rfl⟩
set_option maxRecDepth 100000 in
theorem jf_145_571 : jG m_L_law 571 (.aload 4) [] (.null) 573 := ⟨rfl, rfl⟩
set_option maxRecDepth 100000 in
theorem jf_145_573 : jG m_L_law 573 (.iload 32) [] (.null) 575 := ⟨rfl, rfl⟩
set_option maxRecDepth 100000 in
theorem jf_145_575 : jG m_L_law 575 (.iaload) [] (.null) 576 := ⟨rfl, rfl⟩
set_option maxRecDepth 100000 in
theorem jf_145_576 : jG m_L_law 576 (.iconst 5) [] (.null) 577 := ⟨rfl, rfl⟩
set_option maxRecDepth 100000 in
theorem jf_145_577 : jG m_L_law 577 (.if_icmp .ne 7) [584] (.null) 580 := ⟨rfl, rfl⟩
set_option maxRecDepth 100000 in
theorem jf_145_580 : jG m_L_law 580 (.iconst 2) [] (.null) 581 := ⟨rfl, rfl⟩
set_option maxRecDepth 100000 in
theorem jf_145_581 : jG m_L_law 581 (.goto 38) [619] (.null) 584 := ⟨rfl, rfl⟩
set_option maxRecDepth 100000 in
theorem jf_145_584 : jG m_L_law 584 (.aload 4) [] (.null) 586 := ⟨rfl, rfl⟩
set_option maxRecDepth 100000 in
theorem jf_145_586 : jG m_L_law 586 (.iload 32) [] (.null) 588 := ⟨rfl, rfl⟩
set_option maxRecDepth 100000 in
theorem jf_145_588 : jG m_L_law 588 (.iaload) [] (.null) 589 := ⟨rfl, rfl⟩
set_option maxRecDepth 100000 in
theorem jf_145_589 : jG m_L_law 589 (.bipush 6) [] (.null) 591 := ⟨rfl, rfl⟩
set_option maxRecDepth 100000 in
theorem jf_145_591 : jG m_L_law 591 (.if_icmp .eq 23) [614] (.null) 594 := ⟨rfl, rfl⟩
set_option maxRecDepth 100000 in
theorem jf_145_594 : jG m_L_law 594 (.aload 4) [] (.null) 596 := ⟨rfl, rfl⟩
set_option maxRecDepth 100000 in
theorem jf_145_596 : jG m_L_law 596 (.iload 32) [] (.null) 598 := ⟨rfl, rfl⟩
set_option maxRecDepth 100000 in
theorem jf_145_598 : jG m_L_law 598 (.iaload) [] (.null) 599 := ⟨rfl, rfl⟩
set_option maxRecDepth 100000 in
theorem jf_145_599 : jG m_L_law 599 (.bipush 9) [] (.null) 601 := ⟨rfl, rfl⟩
set_option maxRecDepth 100000 in
theorem jf_145_601 : jG m_L_law 601 (.if_icmp .eq 13) [614] (.null) 604 := ⟨rfl, rfl⟩
set_option maxRecDepth 100000 in
theorem jf_145_604 : jG m_L_law 604 (.aload 4) [] (.null) 606 := ⟨rfl, rfl⟩
set_option maxRecDepth 100000 in
theorem jf_145_606 : jG m_L_law 606 (.iload 32) [] (.null) 608 := ⟨rfl, rfl⟩
set_option maxRecDepth 100000 in
theorem jf_145_608 : jG m_L_law 608 (.iaload) [] (.null) 609 := ⟨rfl, rfl⟩
set_option maxRecDepth 100000 in
theorem jf_145_609 : jG m_L_law 609 (.bipush 10) [] (.null) 611 := ⟨rfl, rfl⟩
set_option maxRecDepth 100000 in
theorem jf_145_611 : jG m_L_law 611 (.if_icmp .ne 7) [618] (.null) 614 := ⟨rfl, rfl⟩
set_option maxRecDepth 100000 in
theorem jf_145_614 : jG m_L_law 614 (.iconst 0) [] (.null) 615 := ⟨rfl, rfl⟩
set_option maxRecDepth 100000 in
theorem jf_145_615 : jG m_L_law 615 (.goto 4) [619] (.null) 618 := ⟨rfl, rfl⟩
set_option maxRecDepth 100000 in
theorem jf_145_618 : jG m_L_law 618 (.iconst 1) [] (.null) 619 := ⟨rfl, rfl⟩
set_option maxRecDepth 100000 in
theorem jf_145_619 : jG m_L_law 619 (.istore 34) [] (.null) 621 := ⟨rfl, rfl⟩
set_option maxRecDepth 100000 in
theorem jf_145_621 : jG m_L_law 621 (.lload 28) [] (.null) 623 := ⟨rfl, rfl⟩
set_option maxRecDepth 100000 in
theorem jf_145_623 : jG m_L_law 623 (.lstore 35) [] (.null) 625 := ⟨rfl, rfl⟩
set_option maxRecDepth 100000 in
theorem jf_145_625 : jG m_L_law 625 (.lconst 0) [] (.null) 626 := ⟨rfl, rfl⟩
set_option maxRecDepth 100000 in
theorem jf_145_626 : jG m_L_law 626 (.lstore 37) [] (.null) 628 := ⟨rfl, rfl⟩
set_option maxRecDepth 100000 in
theorem jf_145_628 : jG m_L_law 628 (.lconst 0) [] (.null) 629 := ⟨rfl, rfl⟩
set_option maxRecDepth 100000 in
theorem jf_145_629 : jG m_L_law 629 (.lstore 39) [] (.null) 631 := ⟨rfl, rfl⟩
set_option maxRecDepth 100000 in
theorem jf_145_631 : jG m_L_law 631 (.iconst 0) [] (.null) 632 := ⟨rfl, rfl⟩
set_option maxRecDepth 100000 in
theorem jf_145_632 : jG m_L_law 632 (.istore 41) [] (.null) 634 := ⟨rfl, rfl⟩
set_option maxRecDepth 100000 in
theorem jf_145_634 : jG m_L_law 634 (.iload 41) [] (.null) 636 := ⟨rfl, rfl⟩
set_option maxRecDepth 100000 in
theorem jf_145_636 : jG m_L_law 636 (.iload 33) [] (.null) 638 := ⟨rfl, rfl⟩
set_option maxRecDepth 100000 in
theorem jf_145_638 : jG m_L_law 638 (.iload 34) [] (.null) 640 := ⟨rfl, rfl⟩
set_option maxRecDepth 100000 in
theorem jf_145_640 : jG m_L_law 640 (.iadd) [] (.null) 641 := ⟨rfl, rfl⟩
set_option maxRecDepth 100000 in
theorem jf_145_641 : jG m_L_law 641 (.if_icmp .ge 424) [1065] (.null) 644 := ⟨rfl, rfl⟩
set_option maxRecDepth 100000 in
theorem jf_145_644 : jG m_L_law 644 (.lconst 0) [] (.null) 645 := ⟨rfl, rfl⟩
set_option maxRecDepth 100000 in
theorem jf_145_645 : jG m_L_law 645 (.lstore 42) [] (.null) 647 := ⟨rfl, rfl⟩
set_option maxRecDepth 100000 in
theorem jf_145_647 : jG m_L_law 647 (.iload 41) [] (.null) 649 := ⟨rfl, rfl⟩
set_option maxRecDepth 100000 in
theorem jf_145_649 : jG m_L_law 649 (.iload 33) [] (.null) 651 := ⟨rfl, rfl⟩
set_option maxRecDepth 100000 in
theorem jf_145_651 : jG m_L_law 651 (.if_icmp .ge 41) [692] (.null) 654 := ⟨rfl, rfl⟩
set_option maxRecDepth 100000 in
theorem jf_145_654 : jG m_L_law 654 (.ldc2_w 9) [] (.long (16384)) 657 := ⟨rfl, rfl⟩
set_option maxRecDepth 100000 in
theorem jf_145_657 : jG m_L_law 657 (.lload 28) [] (.null) 659 := ⟨rfl, rfl⟩
set_option maxRecDepth 100000 in
theorem jf_145_659 : jG m_L_law 659 (.lmul) [] (.null) 660 := ⟨rfl, rfl⟩
set_option maxRecDepth 100000 in
theorem jf_145_660 : jG m_L_law 660 (.iload 41) [] (.null) 662 := ⟨rfl, rfl⟩
set_option maxRecDepth 100000 in
theorem jf_145_662 : jG m_L_law 662 (.ifCond .ne 14) [676] (.null) 665 := ⟨rfl, rfl⟩
set_option maxRecDepth 100000 in
theorem jf_145_665 : jG m_L_law 665 (.lload 13) [] (.null) 667 := ⟨rfl, rfl⟩
set_option maxRecDepth 100000 in
theorem jf_145_667 : jG m_L_law 667 (.aload 23) [] (.null) 669 := ⟨rfl, rfl⟩
set_option maxRecDepth 100000 in
theorem jf_145_669 : jG m_L_law 669 (.iload 24) [] (.null) 671 := ⟨rfl, rfl⟩
set_option maxRecDepth 100000 in
theorem jf_145_671 : jG m_L_law 671 (.laload) [] (.null) 672 := ⟨rfl, rfl⟩
set_option maxRecDepth 100000 in
theorem jf_145_672 : jG m_L_law 672 (.lmul) [] (.null) 673 := ⟨rfl, rfl⟩
set_option maxRecDepth 100000 in
theorem jf_145_673 : jG m_L_law 673 (.goto 13) [686] (.null) 676 := ⟨rfl, rfl⟩
set_option maxRecDepth 100000 in
theorem jf_145_676 : jG m_L_law 676 (.lload 15) [] (.null) 678 := ⟨rfl, rfl⟩
set_option maxRecDepth 100000 in
theorem jf_145_678 : jG m_L_law 678 (.aload 23) [] (.null) 680 := ⟨rfl, rfl⟩
set_option maxRecDepth 100000 in
theorem jf_145_680 : jG m_L_law 680 (.iconst 4) [] (.null) 681 := ⟨rfl, rfl⟩
set_option maxRecDepth 100000 in
theorem jf_145_681 : jG m_L_law 681 (.iload 25) [] (.null) 683 := ⟨rfl, rfl⟩
set_option maxRecDepth 100000 in
theorem jf_145_683 : jG m_L_law 683 (.iadd) [] (.null) 684 := ⟨rfl, rfl⟩
set_option maxRecDepth 100000 in
theorem jf_145_684 : jG m_L_law 684 (.laload) [] (.null) 685 := ⟨rfl, rfl⟩
set_option maxRecDepth 100000 in
theorem jf_145_685 : jG m_L_law 685 (.lmul) [] (.null) 686 := ⟨rfl, rfl⟩
set_option maxRecDepth 100000 in
theorem jf_145_686 : jG m_L_law 686 (.ladd) [] (.null) 687 := ⟨rfl, rfl⟩
set_option maxRecDepth 100000 in
theorem jf_145_687 : jG m_L_law 687 (.lstore 42) [] (.null) 689 := ⟨rfl, rfl⟩
set_option maxRecDepth 100000 in
theorem jf_145_689 : jG m_L_law 689 (.goto 222) [911] (.null) 692 := ⟨rfl, rfl⟩
set_option maxRecDepth 100000 in
theorem jf_145_692 : jG m_L_law 692 (.aload 4) [] (.null) 694 := ⟨rfl, rfl⟩
set_option maxRecDepth 100000 in
theorem jf_145_694 : jG m_L_law 694 (.iload 32) [] (.null) 696 := ⟨rfl, rfl⟩
set_option maxRecDepth 100000 in
theorem jf_145_696 : jG m_L_law 696 (.iaload) [] (.null) 697 := ⟨rfl, rfl⟩
set_option maxRecDepth 100000 in
theorem jf_145_697 : jG m_L_law 697 (.ifCond .ne 16) [713] (.null) 700 := ⟨rfl, rfl⟩
set_option maxRecDepth 100000 in
theorem jf_145_700 : jG m_L_law 700 (.aload 8) [] (.null) 702 := ⟨rfl, rfl⟩
set_option maxRecDepth 100000 in
theorem jf_145_702 : jG m_L_law 702 (.iload 32) [] (.null) 704 := ⟨rfl, rfl⟩
set_option maxRecDepth 100000 in
theorem jf_145_704 : jG m_L_law 704 (.laload) [] (.null) 705 := ⟨rfl, rfl⟩
set_option maxRecDepth 100000 in
theorem jf_145_705 : jG m_L_law 705 (.lload 28) [] (.null) 707 := ⟨rfl, rfl⟩
set_option maxRecDepth 100000 in
theorem jf_145_707 : jG m_L_law 707 (.lmul) [] (.null) 708 := ⟨rfl, rfl⟩
set_option maxRecDepth 100000 in
theorem jf_145_708 : jG m_L_law 708 (.lstore 42) [] (.null) 710 := ⟨rfl, rfl⟩
set_option maxRecDepth 100000 in
theorem jf_145_710 : jG m_L_law 710 (.goto 201) [911] (.null) 713 := ⟨rfl, rfl⟩
set_option maxRecDepth 100000 in
theorem jf_145_713 : jG m_L_law 713 (.aload 4) [] (.null) 715 := ⟨rfl, rfl⟩
set_option maxRecDepth 100000 in
theorem jf_145_715 : jG m_L_law 715 (.iload 32) [] (.null) 717 := ⟨rfl, rfl⟩
set_option maxRecDepth 100000 in
theorem jf_145_717 : jG m_L_law 717 (.iaload) [] (.null) 718 := ⟨rfl, rfl⟩
set_option maxRecDepth 100000 in
theorem jf_145_718 : jG m_L_law 718 (.iconst 1) [] (.null) 719 := ⟨rfl, rfl⟩
set_option maxRecDepth 100000 in
theorem jf_145_719 : jG m_L_law 719 (.if_icmp .ne 28) [747] (.null) 722 := ⟨rfl, rfl⟩
set_option maxRecDepth 100000 in
theorem jf_145_722 : jG m_L_law 722 (.aload 8) [] (.null) 724 := ⟨rfl, rfl⟩
set_option maxRecDepth 100000 in
theorem jf_145_724 : jG m_L_law 724 (.iload 32) [] (.null) 726 := ⟨rfl, rfl⟩
set_option maxRecDepth 100000 in
theorem jf_145_726 : jG m_L_law 726 (.laload) [] (.null) 727 := ⟨rfl, rfl⟩
set_option maxRecDepth 100000 in
theorem jf_145_727 : jG m_L_law 727 (.lload 28) [] (.null) 729 := ⟨rfl, rfl⟩
set_option maxRecDepth 100000 in
theorem jf_145_729 : jG m_L_law 729 (.lmul) [] (.null) 730 := ⟨rfl, rfl⟩
set_option maxRecDepth 100000 in
theorem jf_145_730 : jG m_L_law 730 (.aload 9) [] (.null) 732 := ⟨rfl, rfl⟩
set_option maxRecDepth 100000 in
theorem jf_145_732 : jG m_L_law 732 (.iload 32) [] (.null) 734 := ⟨rfl, rfl⟩
set_option maxRecDepth 100000 in
theorem jf_145_734 : jG m_L_law 734 (.laload) [] (.null) 735 := ⟨rfl, rfl⟩
set_option maxRecDepth 100000 in
theorem jf_145_735 : jG m_L_law 735 (.aload 17) [] (.null) 737 := ⟨rfl, rfl⟩
set_option maxRecDepth 100000 in
theorem jf_145_737 : jG m_L_law 737 (.iload 32) [] (.null) 739 := ⟨rfl, rfl⟩
set_option maxRecDepth 100000 in
theorem jf_145_739 : jG m_L_law 739 (.laload) [] (.null) 740 := ⟨rfl, rfl⟩
set_option maxRecDepth 100000 in
theorem jf_145_740 : jG m_L_law 740 (.lmul) [] (.null) 741 := ⟨rfl, rfl⟩
set_option maxRecDepth 100000 in
theorem jf_145_741 : jG m_L_law 741 (.ladd) [] (.null) 742 := ⟨rfl, rfl⟩
set_option maxRecDepth 100000 in
theorem jf_145_742 : jG m_L_law 742 (.lstore 42) [] (.null) 744 := ⟨rfl, rfl⟩
set_option maxRecDepth 100000 in
theorem jf_145_744 : jG m_L_law 744 (.goto 167) [911] (.null) 747 := ⟨rfl, rfl⟩
set_option maxRecDepth 100000 in
theorem jf_145_747 : jG m_L_law 747 (.aload 4) [] (.null) 749 := ⟨rfl, rfl⟩
set_option maxRecDepth 100000 in
theorem jf_145_749 : jG m_L_law 749 (.iload 32) [] (.null) 751 := ⟨rfl, rfl⟩
set_option maxRecDepth 100000 in
theorem jf_145_751 : jG m_L_law 751 (.iaload) [] (.null) 752 := ⟨rfl, rfl⟩
set_option maxRecDepth 100000 in
theorem jf_145_752 : jG m_L_law 752 (.iconst 5) [] (.null) 753 := ⟨rfl, rfl⟩
set_option maxRecDepth 100000 in
theorem jf_145_753 : jG m_L_law 753 (.if_icmp .ne 54) [807] (.null) 756 := ⟨rfl, rfl⟩
set_option maxRecDepth 100000 in
theorem jf_145_756 : jG m_L_law 756 (.iload 41) [] (.null) 758 := ⟨rfl, rfl⟩
set_option maxRecDepth 100000 in
theorem jf_145_758 : jG m_L_law 758 (.iload 33) [] (.null) 760 := ⟨rfl, rfl⟩
set_option maxRecDepth 100000 in
theorem jf_145_760 : jG m_L_law 760 (.if_icmp .ne 24) [784] (.null) 763 := ⟨rfl, rfl⟩
set_option maxRecDepth 100000 in
theorem jf_145_763 : jG m_L_law 763 (.ldc2_w 9) [] (.long (16384)) 766 := ⟨rfl, rfl⟩
set_option maxRecDepth 100000 in
theorem jf_145_766 : jG m_L_law 766 (.lload 28) [] (.null) 768 := ⟨rfl, rfl⟩
set_option maxRecDepth 100000 in
theorem jf_145_768 : jG m_L_law 768 (.lmul) [] (.null) 769 := ⟨rfl, rfl⟩
set_option maxRecDepth 100000 in
theorem jf_145_769 : jG m_L_law 769 (.aload 8) [] (.null) 771 := ⟨rfl, rfl⟩
set_option maxRecDepth 100000 in
theorem jf_145_771 : jG m_L_law 771 (.iload 32) [] (.null) 773 := ⟨rfl, rfl⟩
set_option maxRecDepth 100000 in
theorem jf_145_773 : jG m_L_law 773 (.laload) [] (.null) 774 := ⟨rfl, rfl⟩
set_option maxRecDepth 100000 in
theorem jf_145_774 : jG m_L_law 774 (.aload 17) [] (.null) 776 := ⟨rfl, rfl⟩
set_option maxRecDepth 100000 in
theorem jf_145_776 : jG m_L_law 776 (.iload 32) [] (.null) 778 := ⟨rfl, rfl⟩
set_option maxRecDepth 100000 in
theorem jf_145_778 : jG m_L_law 778 (.laload) [] (.null) 779 := ⟨rfl, rfl⟩
set_option maxRecDepth 100000 in
theorem jf_145_779 : jG m_L_law 779 (.lmul) [] (.null) 780 := ⟨rfl, rfl⟩
set_option maxRecDepth 100000 in
theorem jf_145_780 : jG m_L_law 780 (.lsub) [] (.null) 781 := ⟨rfl, rfl⟩
set_option maxRecDepth 100000 in
theorem jf_145_781 : jG m_L_law 781 (.goto 21) [802] (.null) 784 := ⟨rfl, rfl⟩
set_option maxRecDepth 100000 in
theorem jf_145_784 : jG m_L_law 784 (.aload 8) [] (.null) 786 := ⟨rfl, rfl⟩
set_option maxRecDepth 100000 in
theorem jf_145_786 : jG m_L_law 786 (.iload 32) [] (.null) 788 := ⟨rfl, rfl⟩
set_option maxRecDepth 100000 in
theorem jf_145_788 : jG m_L_law 788 (.laload) [] (.null) 789 := ⟨rfl, rfl⟩
set_option maxRecDepth 100000 in
theorem jf_145_789 : jG m_L_law 789 (.lload 37) [] (.null) 791 := ⟨rfl, rfl⟩
set_option maxRecDepth 100000 in
theorem jf_145_791 : jG m_L_law 791 (.lmul) [] (.null) 792 := ⟨rfl, rfl⟩
set_option maxRecDepth 100000 in
theorem jf_145_792 : jG m_L_law 792 (.ldc2_w 9) [] (.long (16384)) 795 := ⟨rfl, rfl⟩
set_option maxRecDepth 100000 in
theorem jf_145_795 : jG m_L_law 795 (.aload 17) [] (.null) 797 := ⟨rfl, rfl⟩
set_option maxRecDepth 100000 in
theorem jf_145_797 : jG m_L_law 797 (.iload 32) [] (.null) 799 := ⟨rfl, rfl⟩
set_option maxRecDepth 100000 in
theorem jf_145_799 : jG m_L_law 799 (.laload) [] (.null) 800 := ⟨rfl, rfl⟩
set_option maxRecDepth 100000 in
theorem jf_145_800 : jG m_L_law 800 (.lmul) [] (.null) 801 := ⟨rfl, rfl⟩
set_option maxRecDepth 100000 in
theorem jf_145_801 : jG m_L_law 801 (.ladd) [] (.null) 802 := ⟨rfl, rfl⟩
set_option maxRecDepth 100000 in
theorem jf_145_802 : jG m_L_law 802 (.lstore 42) [] (.null) 804 := ⟨rfl, rfl⟩
set_option maxRecDepth 100000 in
theorem jf_145_804 : jG m_L_law 804 (.goto 107) [911] (.null) 807 := ⟨rfl, rfl⟩
set_option maxRecDepth 100000 in
theorem jf_145_807 : jG m_L_law 807 (.aload 4) [] (.null) 809 := ⟨rfl, rfl⟩
set_option maxRecDepth 100000 in
theorem jf_145_809 : jG m_L_law 809 (.iload 32) [] (.null) 811 := ⟨rfl, rfl⟩
set_option maxRecDepth 100000 in
theorem jf_145_811 : jG m_L_law 811 (.iaload) [] (.null) 812 := ⟨rfl, rfl⟩
set_option maxRecDepth 100000 in
theorem jf_145_812 : jG m_L_law 812 (.bipush 8) [] (.null) 814 := ⟨rfl, rfl⟩
set_option maxRecDepth 100000 in
theorem jf_145_814 : jG m_L_law 814 (.if_icmp .ne 34) [848] (.null) 817 := ⟨rfl, rfl⟩
set_option maxRecDepth 100000 in
theorem jf_145_817 : jG m_L_law 817 (.ldc2_w 9) [] (.long (16384)) 820 := ⟨rfl, rfl⟩
set_option maxRecDepth 100000 in
theorem jf_145_820 : jG m_L_law 820 (.lload 28) [] (.null) 822 := ⟨rfl, rfl⟩
set_option maxRecDepth 100000 in
theorem jf_145_822 : jG m_L_law 822 (.lmul) [] (.null) 823 := ⟨rfl, rfl⟩
set_option maxRecDepth 100000 in
theorem jf_145_823 : jG m_L_law 823 (.aload 8) [] (.null) 825 := ⟨rfl, rfl⟩
set_option maxRecDepth 100000 in
theorem jf_145_825 : jG m_L_law 825 (.iload 32) [] (.null) 827 := ⟨rfl, rfl⟩
set_option maxRecDepth 100000 in
theorem jf_145_827 : jG m_L_law 827 (.laload) [] (.null) 828 := ⟨rfl, rfl⟩
set_option maxRecDepth 100000 in
theorem jf_145_828 : jG m_L_law 828 (.aload 18) [] (.null) 830 := ⟨rfl, rfl⟩
set_option maxRecDepth 100000 in
theorem jf_145_830 : jG m_L_law 830 (.iconst 4) [] (.null) 831 := ⟨rfl, rfl⟩
set_option maxRecDepth 100000 in
theorem jf_145_831 : jG m_L_law 831 (.iload 32) [] (.null) 833 := ⟨rfl, rfl⟩
set_option maxRecDepth 100000 in
theorem jf_145_833 : jG m_L_law 833 (.imul) [] (.null) 834 := ⟨rfl, rfl⟩
set_option maxRecDepth 100000 in
theorem jf_145_834 : jG m_L_law 834 (.aload 19) [] (.null) 836 := ⟨rfl, rfl⟩
set_option maxRecDepth 100000 in
theorem jf_145_836 : jG m_L_law 836 (.iload 32) [] (.null) 838 := ⟨rfl, rfl⟩
set_option maxRecDepth 100000 in
theorem jf_145_838 : jG m_L_law 838 (.iaload) [] (.null) 839 := ⟨rfl, rfl⟩
set_option maxRecDepth 100000 in
theorem jf_145_839 : jG m_L_law 839 (.iadd) [] (.null) 840 := ⟨rfl, rfl⟩
set_option maxRecDepth 100000 in
theorem jf_145_840 : jG m_L_law 840 (.laload) [] (.null) 841 := ⟨rfl, rfl⟩
set_option maxRecDepth 100000 in
theorem jf_145_841 : jG m_L_law 841 (.lmul) [] (.null) 842 := ⟨rfl, rfl⟩
set_option maxRecDepth 100000 in
theorem jf_145_842 : jG m_L_law 842 (.ladd) [] (.null) 843 := ⟨rfl, rfl⟩
set_option maxRecDepth 100000 in
theorem jf_145_843 : jG m_L_law 843 (.lstore 42) [] (.null) 845 := ⟨rfl, rfl⟩
set_option maxRecDepth 100000 in
theorem jf_145_845 : jG m_L_law 845 (.goto 66) [911] (.null) 848 := ⟨rfl, rfl⟩
set_option maxRecDepth 100000 in
theorem jf_145_848 : jG m_L_law 848 (.lload 28) [] (.null) 850 := ⟨rfl, rfl⟩
set_option maxRecDepth 100000 in
theorem jf_145_850 : jG m_L_law 850 (.lconst 0) [] (.null) 851 := ⟨rfl, rfl⟩
set_option maxRecDepth 100000 in
theorem jf_145_851 : jG m_L_law 851 (.lcmp) [] (.null) 852 := ⟨rfl, rfl⟩
set_option maxRecDepth 100000 in
theorem jf_145_852 : jG m_L_law 852 (.ifCond .ge 24) [876] (.null) 855 := ⟨rfl, rfl⟩
set_option maxRecDepth 100000 in
theorem jf_145_855 : jG m_L_law 855 (.lload 28) [] (.null) 857 := ⟨rfl, rfl⟩
set_option maxRecDepth 100000 in
theorem jf_145_857 : jG m_L_law 857 (.ldc2_w 17) [] (.long (-32768)) 860 := ⟨rfl, rfl⟩
set_option maxRecDepth 100000 in
theorem jf_145_860 : jG m_L_law 860 (.lcmp) [] (.null) 861 := ⟨rfl, rfl⟩
set_option maxRecDepth 100000 in
theorem jf_145_861 : jG m_L_law 861 (.ifCond .ne 9) [870] (.null) 864 := ⟨rfl, rfl⟩
set_option maxRecDepth 100000 in
theorem jf_145_864 : jG m_L_law 864 (.ldc2_w 19) [] (.long (32767)) 867 := ⟨rfl, rfl⟩
set_option maxRecDepth 100000 in
theorem jf_145_867 : jG m_L_law 867 (.goto 11) [878] (.null) 870 := ⟨rfl, rfl⟩
set_option maxRecDepth 100000 in
theorem jf_145_870 : jG m_L_law 870 (.lload 28) [] (.null) 872 := ⟨rfl, rfl⟩
set_option maxRecDepth 100000 in
theorem jf_145_872 : jG m_L_law 872 (.lneg) [] (.null) 873 := ⟨rfl, rfl⟩
set_option maxRecDepth 100000 in
theorem jf_145_873 : jG m_L_law 873 (.goto 5) [878] (.null) 876 := ⟨rfl, rfl⟩
set_option maxRecDepth 100000 in
theorem jf_145_876 : jG m_L_law 876 (.lload 28) [] (.null) 878 := ⟨rfl, rfl⟩
set_option maxRecDepth 100000 in
theorem jf_145_878 : jG m_L_law 878 (.lstore 39) [] (.null) 880 := ⟨rfl, rfl⟩
set_option maxRecDepth 100000 in
theorem jf_145_880 : jG m_L_law 880 (.lload 39) [] (.null) 882 := ⟨rfl, rfl⟩
set_option maxRecDepth 100000 in
theorem jf_145_882 : jG m_L_law 882 (.aload 17) [] (.null) 884 := ⟨rfl, rfl⟩
set_option maxRecDepth 100000 in
theorem jf_145_884 : jG m_L_law 884 (.iload 32) [] (.null) 886 := ⟨rfl, rfl⟩
set_option maxRecDepth 100000 in
theorem jf_145_886 : jG m_L_law 886 (.laload) [] (.null) 887 := ⟨rfl, rfl⟩
set_option maxRecDepth 100000 in
theorem jf_145_887 : jG m_L_law 887 (.lcmp) [] (.null) 888 := ⟨rfl, rfl⟩
set_option maxRecDepth 100000 in
theorem jf_145_888 : jG m_L_law 888 (.ifCond .le 10) [898] (.null) 891 := ⟨rfl, rfl⟩
set_option maxRecDepth 100000 in
theorem jf_145_891 : jG m_L_law 891 (.lload 39) [] (.null) 893 := ⟨rfl, rfl⟩
set_option maxRecDepth 100000 in
theorem jf_145_893 : jG m_L_law 893 (.lstore 35) [] (.null) 895 := ⟨rfl, rfl⟩
set_option maxRecDepth 100000 in
theorem jf_145_895 : jG m_L_law 895 (.goto 164) [1059] (.null) 898 := ⟨rfl, rfl⟩
set_option maxRecDepth 100000 in
theorem jf_145_898 : jG m_L_law 898 (.aload 8) [] (.null) 900 := ⟨rfl, rfl⟩
set_option maxRecDepth 100000 in
theorem jf_145_900 : jG m_L_law 900 (.iload 32) [] (.null) 902 := ⟨rfl, rfl⟩
set_option maxRecDepth 100000 in
theorem jf_145_902 : jG m_L_law 902 (.laload) [] (.null) 903 := ⟨rfl, rfl⟩
set_option maxRecDepth 100000 in
theorem jf_145_903 : jG m_L_law 903 (.aload 17) [] (.null) 905 := ⟨rfl, rfl⟩
set_option maxRecDepth 100000 in
theorem jf_145_905 : jG m_L_law 905 (.iload 32) [] (.null) 907 := ⟨rfl, rfl⟩
set_option maxRecDepth 100000 in
theorem jf_145_907 : jG m_L_law 907 (.laload) [] (.null) 908 := ⟨rfl, rfl⟩
set_option maxRecDepth 100000 in
theorem jf_145_908 : jG m_L_law 908 (.lmul) [] (.null) 909 := ⟨rfl, rfl⟩
set_option maxRecDepth 100000 in
theorem jf_145_909 : jG m_L_law 909 (.lstore 42) [] (.null) 911 := ⟨rfl, rfl⟩
set_option maxRecDepth 100000 in
theorem jf_145_911 : jG m_L_law 911 (.aload 5) [] (.null) 913 := ⟨rfl, rfl⟩
set_option maxRecDepth 100000 in
theorem jf_145_913 : jG m_L_law 913 (.iload 32) [] (.null) 915 := ⟨rfl, rfl⟩
set_option maxRecDepth 100000 in
theorem jf_145_915 : jG m_L_law 915 (.iaload) [] (.null) 916 := ⟨rfl, rfl⟩
set_option maxRecDepth 100000 in
theorem jf_145_916 : jG m_L_law 916 (.iconst 2) [] (.null) 917 := ⟨rfl, rfl⟩
set_option maxRecDepth 100000 in
theorem jf_145_917 : jG m_L_law 917 (.if_icmp .ne 13) [930] (.null) 920 := ⟨rfl, rfl⟩
set_option maxRecDepth 100000 in
theorem jf_145_920 : jG m_L_law 920 (.lload 42) [] (.null) 922 := ⟨rfl, rfl⟩
set_option maxRecDepth 100000 in
theorem jf_145_922 : jG m_L_law 922 (.aload 20) [] (.null) 924 := ⟨rfl, rfl⟩
set_option maxRecDepth 100000 in
theorem jf_145_924 : jG m_L_law 924 (.iload 32) [] (.null) 926 := ⟨rfl, rfl⟩
set_option maxRecDepth 100000 in
theorem jf_145_926 : jG m_L_law 926 (.laload) [] (.null) 927 := ⟨rfl, rfl⟩
set_option maxRecDepth 100000 in
theorem jf_145_927 : jG m_L_law 927 (.ladd) [] (.null) 928 := ⟨rfl, rfl⟩
set_option maxRecDepth 100000 in
theorem jf_145_928 : jG m_L_law 928 (.lstore 42) [] (.null) 930 := ⟨rfl, rfl⟩
set_option maxRecDepth 100000 in
theorem jf_145_930 : jG m_L_law 930 (.aload 5) [] (.null) 932 := ⟨rfl, rfl⟩
set_option maxRecDepth 100000 in
theorem jf_145_932 : jG m_L_law 932 (.iload 32) [] (.null) 934 := ⟨rfl, rfl⟩
set_option maxRecDepth 100000 in
theorem jf_145_934 : jG m_L_law 934 (.iaload) [] (.null) 935 := ⟨rfl, rfl⟩
set_option maxRecDepth 100000 in
theorem jf_145_935 : jG m_L_law 935 (.ifCond .ne 15) [950] (.null) 938 := ⟨rfl, rfl⟩
set_option maxRecDepth 100000 in
theorem jf_145_938 : jG m_L_law 938 (.lload 42) [] (.null) 940 := ⟨rfl, rfl⟩
set_option maxRecDepth 100000 in
theorem jf_145_940 : jG m_L_law 940 (.ldc2_w 7) [] (.long (8192)) 943 := ⟨rfl, rfl⟩
set_option maxRecDepth 100000 in
theorem jf_145_943 : jG m_L_law 943 (.ladd) [] (.null) 944 := ⟨rfl, rfl⟩
set_option maxRecDepth 100000 in
theorem jf_145_944 : jG m_L_law 944 (.bipush 14) [] (.null) 946 := ⟨rfl, rfl⟩
set_option maxRecDepth 100000 in
theorem jf_145_946 : jG m_L_law 946 (.lshr) [] (.null) 947 := ⟨rfl, rfl⟩
set_option maxRecDepth 100000 in
theorem jf_145_947 : jG m_L_law 947 (.goto 9) [956] (.null) 950 := ⟨rfl, rfl⟩
set_option maxRecDepth 100000 in
theorem jf_145_950 : jG m_L_law 950 (.lload 42) [] (.null) 952 := ⟨rfl, rfl⟩
set_option maxRecDepth 100000 in
theorem jf_145_952 : jG m_L_law 952 (.ldc2_w 9) [] (.long (16384)) 955 := ⟨rfl, rfl⟩
set_option maxRecDepth 100000 in
theorem jf_145_955 : jG m_L_law 955 (.ldiv) [] (.null) 956 := ⟨rfl, rfl⟩
set_option maxRecDepth 100000 in
theorem jf_145_956 : jG m_L_law 956 (.lstore 44) [] (.null) 958 := ⟨rfl, rfl⟩
set_option maxRecDepth 100000 in
theorem jf_145_958 : jG m_L_law 958 (.aload 5) [] (.null) 960 := ⟨rfl, rfl⟩
set_option maxRecDepth 100000 in
theorem jf_145_960 : jG m_L_law 960 (.iload 32) [] (.null) 962 := ⟨rfl, rfl⟩
set_option maxRecDepth 100000 in
theorem jf_145_962 : jG m_L_law 962 (.iaload) [] (.null) 963 := ⟨rfl, rfl⟩
set_option maxRecDepth 100000 in
theorem jf_145_963 : jG m_L_law 963 (.iconst 2) [] (.null) 964 := ⟨rfl, rfl⟩
set_option maxRecDepth 100000 in
theorem jf_145_964 : jG m_L_law 964 (.if_icmp .ne 17) [981] (.null) 967 := ⟨rfl, rfl⟩
set_option maxRecDepth 100000 in
theorem jf_145_967 : jG m_L_law 967 (.aload 20) [] (.null) 969 := ⟨rfl, rfl⟩
set_option maxRecDepth 100000 in
theorem jf_145_969 : jG m_L_law 969 (.iload 32) [] (.null) 971 := ⟨rfl, rfl⟩
set_option maxRecDepth 100000 in
theorem jf_145_971 : jG m_L_law 971 (.lload 42) [] (.null) 973 := ⟨rfl, rfl⟩
set_option maxRecDepth 100000 in
theorem jf_145_973 : jG m_L_law 973 (.ldc2_w 9) [] (.long (16384)) 976 := ⟨rfl, rfl⟩
set_option maxRecDepth 100000 in
theorem jf_145_976 : jG m_L_law 976 (.lload 44) [] (.null) 978 := ⟨rfl, rfl⟩
set_option maxRecDepth 100000 in
theorem jf_145_978 : jG m_L_law 978 (.lmul) [] (.null) 979 := ⟨rfl, rfl⟩
set_option maxRecDepth 100000 in
theorem jf_145_979 : jG m_L_law 979 (.lsub) [] (.null) 980 := ⟨rfl, rfl⟩
set_option maxRecDepth 100000 in
theorem jf_145_980 : jG m_L_law 980 (.lastore) [] (.null) 981 := ⟨rfl, rfl⟩
set_option maxRecDepth 100000 in
theorem jf_145_981 : jG m_L_law 981 (.lload 44) [] (.null) 983 := ⟨rfl, rfl⟩
set_option maxRecDepth 100000 in
theorem jf_145_983 : jG m_L_law 983 (.ldc2_w 17) [] (.long (-32768)) 986 := ⟨rfl, rfl⟩
set_option maxRecDepth 100000 in
theorem jf_145_986 : jG m_L_law 986 (.lcmp) [] (.null) 987 := ⟨rfl, rfl⟩
set_option maxRecDepth 100000 in
theorem jf_145_987 : jG m_L_law 987 (.ifCond .lt 12) [999] (.null) 990 := ⟨rfl, rfl⟩
set_option maxRecDepth 100000 in
theorem jf_145_990 : jG m_L_law 990 (.lload 44) [] (.null) 992 := ⟨rfl, rfl⟩
set_option maxRecDepth 100000 in
theorem jf_145_992 : jG m_L_law 992 (.ldc2_w 19) [] (.long (32767)) 995 := ⟨rfl, rfl⟩
set_option maxRecDepth 100000 in
theorem jf_145_995 : jG m_L_law 995 (.lcmp) [] (.null) 996 := ⟨rfl, rfl⟩
set_option maxRecDepth 100000 in
theorem jf_145_996 : jG m_L_law 996 (.ifCond .le 12) [1008] (.null) 999 := ⟨rfl, rfl⟩
set_option maxRecDepth 100000 in
theorem jf_145_999 : jG m_L_law 999 (.aload 21) [] (.null) 1001 := ⟨rfl, rfl⟩
set_option maxRecDepth 100000 in
theorem jf_145_1001 : jG m_L_law 1001 (.iload 32) [] (.null) 1003 := ⟨rfl, rfl⟩
set_option maxRecDepth 100000 in
theorem jf_145_1003 : jG m_L_law 1003 (.dup2) [] (.null) 1004 := ⟨rfl, rfl⟩
set_option maxRecDepth 100000 in
theorem jf_145_1004 : jG m_L_law 1004 (.iaload) [] (.null) 1005 := ⟨rfl, rfl⟩
set_option maxRecDepth 100000 in
theorem jf_145_1005 : jG m_L_law 1005 (.iconst 1) [] (.null) 1006 := ⟨rfl, rfl⟩
set_option maxRecDepth 100000 in
theorem jf_145_1006 : jG m_L_law 1006 (.iadd) [] (.null) 1007 := ⟨rfl, rfl⟩
set_option maxRecDepth 100000 in
theorem jf_145_1007 : jG m_L_law 1007 (.iastore) [] (.null) 1008 := ⟨rfl, rfl⟩
set_option maxRecDepth 100000 in
theorem jf_145_1008 : jG m_L_law 1008 (.lload 44) [] (.null) 1010 := ⟨rfl, rfl⟩
set_option maxRecDepth 100000 in
theorem jf_145_1010 : jG m_L_law 1010 (.aload 6) [] (.null) 1012 := ⟨rfl, rfl⟩
set_option maxRecDepth 100000 in
theorem jf_145_1012 : jG m_L_law 1012 (.iload 32) [] (.null) 1014 := ⟨rfl, rfl⟩
set_option maxRecDepth 100000 in
theorem jf_145_1014 : jG m_L_law 1014 (.iaload) [] (.null) 1015 := ⟨rfl, rfl⟩
set_option maxRecDepth 100000 in
theorem jf_145_1015 : jG m_L_law 1015 (.invokestatic 11) [3, m_L_fit, 2] (.null) 1018 := ⟨rfl, rfl⟩
set_option maxRecDepth 100000 in
theorem jf_145_1018 : jG m_L_law 1018 (.lstore 35) [] (.null) 1020 := ⟨rfl, rfl⟩
set_option maxRecDepth 100000 in
theorem jf_145_1020 : jG m_L_law 1020 (.iload 41) [] (.null) 1022 := ⟨rfl, rfl⟩
set_option maxRecDepth 100000 in
theorem jf_145_1022 : jG m_L_law 1022 (.iload 33) [] (.null) 1024 := ⟨rfl, rfl⟩
set_option maxRecDepth 100000 in
theorem jf_145_1024 : jG m_L_law 1024 (.if_icmp .ge 10) [1034] (.null) 1027 := ⟨rfl, rfl⟩
set_option maxRecDepth 100000 in
theorem jf_145_1027 : jG m_L_law 1027 (.lload 35) [] (.null) 1029 := ⟨rfl, rfl⟩
set_option maxRecDepth 100000 in
theorem jf_145_1029 : jG m_L_law 1029 (.lstore 28) [] (.null) 1031 := ⟨rfl, rfl⟩
set_option maxRecDepth 100000 in
theorem jf_145_1031 : jG m_L_law 1031 (.goto 28) [1059] (.null) 1034 := ⟨rfl, rfl⟩
set_option maxRecDepth 100000 in
theorem jf_145_1034 : jG m_L_law 1034 (.aload 4) [] (.null) 1036 := ⟨rfl, rfl⟩
set_option maxRecDepth 100000 in
theorem jf_145_1036 : jG m_L_law 1036 (.iload 32) [] (.null) 1038 := ⟨rfl, rfl⟩
set_option maxRecDepth 100000 in
theorem jf_145_1038 : jG m_L_law 1038 (.iaload) [] (.null) 1039 := ⟨rfl, rfl⟩
set_option maxRecDepth 100000 in
theorem jf_145_1039 : jG m_L_law 1039 (.iconst 5) [] (.null) 1040 := ⟨rfl, rfl⟩
set_option maxRecDepth 100000 in
theorem jf_145_1040 : jG m_L_law 1040 (.if_icmp .ne 15) [1055] (.null) 1043 := ⟨rfl, rfl⟩
set_option maxRecDepth 100000 in
theorem jf_145_1043 : jG m_L_law 1043 (.iload 41) [] (.null) 1045 := ⟨rfl, rfl⟩
set_option maxRecDepth 100000 in
theorem jf_145_1045 : jG m_L_law 1045 (.iload 33) [] (.null) 1047 := ⟨rfl, rfl⟩
set_option maxRecDepth 100000 in
theorem jf_145_1047 : jG m_L_law 1047 (.if_icmp .ne 8) [1055] (.null) 1050 := ⟨rfl, rfl⟩
set_option maxRecDepth 100000 in
theorem jf_145_1050 : jG m_L_law 1050 (.lload 35) [] (.null) 1052 := ⟨rfl, rfl⟩
set_option maxRecDepth 100000 in
theorem jf_145_1052 : jG m_L_law 1052 (.goto 5) [1057] (.null) 1055 := ⟨rfl, rfl⟩
set_option maxRecDepth 100000 in
theorem jf_145_1055 : jG m_L_law 1055 (.lload 37) [] (.null) 1057 := ⟨rfl, rfl⟩
set_option maxRecDepth 100000 in
theorem jf_145_1057 : jG m_L_law 1057 (.lstore 37) [] (.null) 1059 := ⟨rfl, rfl⟩
set_option maxRecDepth 100000 in
theorem jf_145_1059 : jG m_L_law 1059 (.iinc 41 1) [] (.null) 1062 := ⟨rfl, rfl⟩
set_option maxRecDepth 100000 in
theorem jf_145_1062 : jG m_L_law 1062 (.goto (-428)) [634] (.null) 1065 := ⟨rfl, rfl⟩
set_option maxRecDepth 100000 in
theorem jf_145_1065 : jG m_L_law 1065 (.iload 34) [] (.null) 1067 := ⟨rfl, rfl⟩
set_option maxRecDepth 100000 in
theorem jf_145_1067 : jG m_L_law 1067 (.ifCond .ne 7) [1074] (.null) 1070 := ⟨rfl, rfl⟩
set_option maxRecDepth 100000 in
theorem jf_145_1070 : jG m_L_law 1070 (.lload 28) [] (.null) 1072 := ⟨rfl, rfl⟩
set_option maxRecDepth 100000 in
theorem jf_145_1072 : jG m_L_law 1072 (.lstore 35) [] (.null) 1074 := ⟨rfl, rfl⟩
set_option maxRecDepth 100000 in
theorem jf_145_1074 : jG m_L_law 1074 (.aload 4) [] (.null) 1076 := ⟨rfl, rfl⟩
set_option maxRecDepth 100000 in
theorem jf_145_1076 : jG m_L_law 1076 (.iload 32) [] (.null) 1078 := ⟨rfl, rfl⟩
set_option maxRecDepth 100000 in
theorem jf_145_1078 : jG m_L_law 1078 (.iaload) [] (.null) 1079 := ⟨rfl, rfl⟩
set_option maxRecDepth 100000 in
theorem jf_145_1079 : jG m_L_law 1079 (.iconst 1) [] (.null) 1080 := ⟨rfl, rfl⟩
set_option maxRecDepth 100000 in
theorem jf_145_1080 : jG m_L_law 1080 (.if_icmp .eq 13) [1093] (.null) 1083 := ⟨rfl, rfl⟩
set_option maxRecDepth 100000 in
theorem jf_145_1083 : jG m_L_law 1083 (.aload 4) [] (.null) 1085 := ⟨rfl, rfl⟩
set_option maxRecDepth 100000 in
theorem jf_145_1085 : jG m_L_law 1085 (.iload 32) [] (.null) 1087 := ⟨rfl, rfl⟩
set_option maxRecDepth 100000 in
theorem jf_145_1087 : jG m_L_law 1087 (.iaload) [] (.null) 1088 := ⟨rfl, rfl⟩
set_option maxRecDepth 100000 in
theorem jf_145_1088 : jG m_L_law 1088 (.bipush 11) [] (.null) 1090 := ⟨rfl, rfl⟩
set_option maxRecDepth 100000 in
theorem jf_145_1090 : jG m_L_law 1090 (.if_icmp .ne 10) [1100] (.null) 1093 := ⟨rfl, rfl⟩
set_option maxRecDepth 100000 in
theorem jf_145_1093 : jG m_L_law 1093 (.aload 17) [] (.null) 1095 := ⟨rfl, rfl⟩
set_option maxRecDepth 100000 in
theorem jf_145_1095 : jG m_L_law 1095 (.iload 32) [] (.null) 1097 := ⟨rfl, rfl⟩
set_option maxRecDepth 100000 in
theorem jf_145_1097 : jG m_L_law 1097 (.lload 35) [] (.null) 1099 := ⟨rfl, rfl⟩
set_option maxRecDepth 100000 in
theorem jf_145_1099 : jG m_L_law 1099 (.lastore) [] (.null) 1100 := ⟨rfl, rfl⟩
set_option maxRecDepth 100000 in
theorem jf_145_1100 : jG m_L_law 1100 (.aload 4) [] (.null) 1102 := ⟨rfl, rfl⟩
set_option maxRecDepth 100000 in
theorem jf_145_1102 : jG m_L_law 1102 (.iload 32) [] (.null) 1104 := ⟨rfl, rfl⟩
set_option maxRecDepth 100000 in
theorem jf_145_1104 : jG m_L_law 1104 (.iaload) [] (.null) 1105 := ⟨rfl, rfl⟩
set_option maxRecDepth 100000 in
theorem jf_145_1105 : jG m_L_law 1105 (.iconst 5) [] (.null) 1106 := ⟨rfl, rfl⟩
set_option maxRecDepth 100000 in
theorem jf_145_1106 : jG m_L_law 1106 (.if_icmp .ne 10) [1116] (.null) 1109 := ⟨rfl, rfl⟩
set_option maxRecDepth 100000 in
theorem jf_145_1109 : jG m_L_law 1109 (.aload 17) [] (.null) 1111 := ⟨rfl, rfl⟩
set_option maxRecDepth 100000 in
theorem jf_145_1111 : jG m_L_law 1111 (.iload 32) [] (.null) 1113 := ⟨rfl, rfl⟩
set_option maxRecDepth 100000 in
theorem jf_145_1113 : jG m_L_law 1113 (.lload 37) [] (.null) 1115 := ⟨rfl, rfl⟩
set_option maxRecDepth 100000 in
theorem jf_145_1115 : jG m_L_law 1115 (.lastore) [] (.null) 1116 := ⟨rfl, rfl⟩
set_option maxRecDepth 100000 in
theorem jf_145_1116 : jG m_L_law 1116 (.aload 4) [] (.null) 1118 := ⟨rfl, rfl⟩
set_option maxRecDepth 100000 in
theorem jf_145_1118 : jG m_L_law 1118 (.iload 32) [] (.null) 1120 := ⟨rfl, rfl⟩
set_option maxRecDepth 100000 in
theorem jf_145_1120 : jG m_L_law 1120 (.iaload) [] (.null) 1121 := ⟨rfl, rfl⟩
set_option maxRecDepth 100000 in
theorem jf_145_1121 : jG m_L_law 1121 (.bipush 6) [] (.null) 1123 := ⟨rfl, rfl⟩
set_option maxRecDepth 100000 in
theorem jf_145_1123 : jG m_L_law 1123 (.if_icmp .eq 13) [1136] (.null) 1126 := ⟨rfl, rfl⟩
set_option maxRecDepth 100000 in
theorem jf_145_1126 : jG m_L_law 1126 (.aload 4) [] (.null) 1128 := ⟨rfl, rfl⟩
set_option maxRecDepth 100000 in
theorem jf_145_1128 : jG m_L_law 1128 (.iload 32) [] (.null) 1130 := ⟨rfl, rfl⟩
set_option maxRecDepth 100000 in
theorem jf_145_1130 : jG m_L_law 1130 (.iaload) [] (.null) 1131 := ⟨rfl, rfl⟩
set_option maxRecDepth 100000 in
theorem jf_145_1131 : jG m_L_law 1131 (.bipush 8) [] (.null) 1133 := ⟨rfl, rfl⟩
set_option maxRecDepth 100000 in
theorem jf_145_1133 : jG m_L_law 1133 (.if_icmp .ne 80) [1213] (.null) 1136 := ⟨rfl, rfl⟩
set_option maxRecDepth 100000 in
theorem jf_145_1136 : jG m_L_law 1136 (.aload 18) [] (.null) 1138 := ⟨rfl, rfl⟩
set_option maxRecDepth 100000 in
theorem jf_145_1138 : jG m_L_law 1138 (.iconst 4) [] (.null) 1139 := ⟨rfl, rfl⟩
set_option maxRecDepth 100000 in
theorem jf_145_1139 : jG m_L_law 1139 (.iload 32) [] (.null) 1141 := ⟨rfl, rfl⟩
set_option maxRecDepth 100000 in
theorem jf_145_1141 : jG m_L_law 1141 (.imul) [] (.null) 1142 := ⟨rfl, rfl⟩
set_option maxRecDepth 100000 in
theorem jf_145_1142 : jG m_L_law 1142 (.aload 19) [] (.null) 1144 := ⟨rfl, rfl⟩
set_option maxRecDepth 100000 in
theorem jf_145_1144 : jG m_L_law 1144 (.iload 32) [] (.null) 1146 := ⟨rfl, rfl⟩
set_option maxRecDepth 100000 in
theorem jf_145_1146 : jG m_L_law 1146 (.iaload) [] (.null) 1147 := ⟨rfl, rfl⟩
set_option maxRecDepth 100000 in
theorem jf_145_1147 : jG m_L_law 1147 (.iadd) [] (.null) 1148 := ⟨rfl, rfl⟩
set_option maxRecDepth 100000 in
theorem jf_145_1148 : jG m_L_law 1148 (.laload) [] (.null) 1149 := ⟨rfl, rfl⟩
set_option maxRecDepth 100000 in
theorem jf_145_1149 : jG m_L_law 1149 (.lstore 41) [] (.null) 1151 := ⟨rfl, rfl⟩
set_option maxRecDepth 100000 in
theorem jf_145_1151 : jG m_L_law 1151 (.aload 18) [] (.null) 1153 := ⟨rfl, rfl⟩
set_option maxRecDepth 100000 in
theorem jf_145_1153 : jG m_L_law 1153 (.iconst 4) [] (.null) 1154 := ⟨rfl, rfl⟩
set_option maxRecDepth 100000 in
theorem jf_145_1154 : jG m_L_law 1154 (.iload 32) [] (.null) 1156 := ⟨rfl, rfl⟩
set_option maxRecDepth 100000 in
theorem jf_145_1156 : jG m_L_law 1156 (.imul) [] (.null) 1157 := ⟨rfl, rfl⟩
set_option maxRecDepth 100000 in
theorem jf_145_1157 : jG m_L_law 1157 (.aload 19) [] (.null) 1159 := ⟨rfl, rfl⟩
set_option maxRecDepth 100000 in
theorem jf_145_1159 : jG m_L_law 1159 (.iload 32) [] (.null) 1161 := ⟨rfl, rfl⟩
set_option maxRecDepth 100000 in
theorem jf_145_1161 : jG m_L_law 1161 (.iaload) [] (.null) 1162 := ⟨rfl, rfl⟩
set_option maxRecDepth 100000 in
theorem jf_145_1162 : jG m_L_law 1162 (.iadd) [] (.null) 1163 := ⟨rfl, rfl⟩
set_option maxRecDepth 100000 in
theorem jf_145_1163 : jG m_L_law 1163 (.aload 4) [] (.null) 1165 := ⟨rfl, rfl⟩
set_option maxRecDepth 100000 in
theorem jf_145_1165 : jG m_L_law 1165 (.iload 32) [] (.null) 1167 := ⟨rfl, rfl⟩
set_option maxRecDepth 100000 in
theorem jf_145_1167 : jG m_L_law 1167 (.iaload) [] (.null) 1168 := ⟨rfl, rfl⟩
set_option maxRecDepth 100000 in
theorem jf_145_1168 : jG m_L_law 1168 (.bipush 6) [] (.null) 1170 := ⟨rfl, rfl⟩
set_option maxRecDepth 100000 in
theorem jf_145_1170 : jG m_L_law 1170 (.if_icmp .ne 8) [1178] (.null) 1173 := ⟨rfl, rfl⟩
set_option maxRecDepth 100000 in
theorem jf_145_1173 : jG m_L_law 1173 (.lload 28) [] (.null) 1175 := ⟨rfl, rfl⟩
set_option maxRecDepth 100000 in
theorem jf_145_1175 : jG m_L_law 1175 (.goto 5) [1180] (.null) 1178 := ⟨rfl, rfl⟩
set_option maxRecDepth 100000 in
theorem jf_145_1178 : jG m_L_law 1178 (.lload 35) [] (.null) 1180 := ⟨rfl, rfl⟩
set_option maxRecDepth 100000 in
theorem jf_145_1180 : jG m_L_law 1180 (.lastore) [] (.null) 1181 := ⟨rfl, rfl⟩
set_option maxRecDepth 100000 in
theorem jf_145_1181 : jG m_L_law 1181 (.aload 19) [] (.null) 1183 := ⟨rfl, rfl⟩
set_option maxRecDepth 100000 in
theorem jf_145_1183 : jG m_L_law 1183 (.iload 32) [] (.null) 1185 := ⟨rfl, rfl⟩
set_option maxRecDepth 100000 in
theorem jf_145_1185 : jG m_L_law 1185 (.aload 19) [] (.null) 1187 := ⟨rfl, rfl⟩
set_option maxRecDepth 100000 in
theorem jf_145_1187 : jG m_L_law 1187 (.iload 32) [] (.null) 1189 := ⟨rfl, rfl⟩
set_option maxRecDepth 100000 in
theorem jf_145_1189 : jG m_L_law 1189 (.iaload) [] (.null) 1190 := ⟨rfl, rfl⟩
set_option maxRecDepth 100000 in
theorem jf_145_1190 : jG m_L_law 1190 (.iconst 1) [] (.null) 1191 := ⟨rfl, rfl⟩
set_option maxRecDepth 100000 in
theorem jf_145_1191 : jG m_L_law 1191 (.iadd) [] (.null) 1192 := ⟨rfl, rfl⟩
set_option maxRecDepth 100000 in
theorem jf_145_1192 : jG m_L_law 1192 (.aload 7) [] (.null) 1194 := ⟨rfl, rfl⟩
set_option maxRecDepth 100000 in
theorem jf_145_1194 : jG m_L_law 1194 (.iload 32) [] (.null) 1196 := ⟨rfl, rfl⟩
set_option maxRecDepth 100000 in
theorem jf_145_1196 : jG m_L_law 1196 (.iaload) [] (.null) 1197 := ⟨rfl, rfl⟩
set_option maxRecDepth 100000 in
theorem jf_145_1197 : jG m_L_law 1197 (.irem) [] (.null) 1198 := ⟨rfl, rfl⟩
set_option maxRecDepth 100000 in
theorem jf_145_1198 : jG m_L_law 1198 (.iastore) [] (.null) 1199 := ⟨rfl, rfl⟩
set_option maxRecDepth 100000 in
theorem jf_145_1199 : jG m_L_law 1199 (.aload 4) [] (.null) 1201 := ⟨rfl, rfl⟩
set_option maxRecDepth 100000 in
theorem jf_145_1201 : jG m_L_law 1201 (.iload 32) [] (.null) 1203 := ⟨rfl, rfl⟩
set_option maxRecDepth 100000 in
theorem jf_145_1203 : jG m_L_law 1203 (.iaload) [] (.null) 1204 := ⟨rfl, rfl⟩
set_option maxRecDepth 100000 in
theorem jf_145_1204 : jG m_L_law 1204 (.bipush 6) [] (.null) 1206 := ⟨rfl, rfl⟩
set_option maxRecDepth 100000 in
theorem jf_145_1206 : jG m_L_law 1206 (.if_icmp .ne 7) [1213] (.null) 1209 := ⟨rfl, rfl⟩
set_option maxRecDepth 100000 in
theorem jf_145_1209 : jG m_L_law 1209 (.lload 41) [] (.null) 1211 := ⟨rfl, rfl⟩
set_option maxRecDepth 100000 in
theorem jf_145_1211 : jG m_L_law 1211 (.lstore 35) [] (.null) 1213 := ⟨rfl, rfl⟩
set_option maxRecDepth 100000 in
theorem jf_145_1213 : jG m_L_law 1213 (.aload 4) [] (.null) 1215 := ⟨rfl, rfl⟩
set_option maxRecDepth 100000 in
theorem jf_145_1215 : jG m_L_law 1215 (.iload 32) [] (.null) 1217 := ⟨rfl, rfl⟩
set_option maxRecDepth 100000 in
theorem jf_145_1217 : jG m_L_law 1217 (.iaload) [] (.null) 1218 := ⟨rfl, rfl⟩
set_option maxRecDepth 100000 in
theorem jf_145_1218 : jG m_L_law 1218 (.bipush 9) [] (.null) 1220 := ⟨rfl, rfl⟩
set_option maxRecDepth 100000 in
theorem jf_145_1220 : jG m_L_law 1220 (.if_icmp .ne 93) [1313] (.null) 1223 := ⟨rfl, rfl⟩
set_option maxRecDepth 100000 in
theorem jf_145_1223 : jG m_L_law 1223 (.aload 8) [] (.null) 1225 := ⟨rfl, rfl⟩
set_option maxRecDepth 100000 in
theorem jf_145_1225 : jG m_L_law 1225 (.iload 32) [] (.null) 1227 := ⟨rfl, rfl⟩
set_option maxRecDepth 100000 in
theorem jf_145_1227 : jG m_L_law 1227 (.laload) [] (.null) 1228 := ⟨rfl, rfl⟩
set_option maxRecDepth 100000 in
theorem jf_145_1228 : jG m_L_law 1228 (.ldc2_w 17) [] (.long (-32768)) 1231 := ⟨rfl, rfl⟩
set_option maxRecDepth 100000 in
theorem jf_145_1231 : jG m_L_law 1231 (.lcmp) [] (.null) 1232 := ⟨rfl, rfl⟩
set_option maxRecDepth 100000 in
theorem jf_145_1232 : jG m_L_law 1232 (.ifCond .ne 9) [1241] (.null) 1235 := ⟨rfl, rfl⟩
set_option maxRecDepth 100000 in
theorem jf_145_1235 : jG m_L_law 1235 (.ldc2_w 19) [] (.long (32767)) 1238 := ⟨rfl, rfl⟩
set_option maxRecDepth 100000 in
theorem jf_145_1238 : jG m_L_law 1238 (.goto 9) [1247] (.null) 1241 := ⟨rfl, rfl⟩
set_option maxRecDepth 100000 in
theorem jf_145_1241 : jG m_L_law 1241 (.aload 8) [] (.null) 1243 := ⟨rfl, rfl⟩
set_option maxRecDepth 100000 in
theorem jf_145_1243 : jG m_L_law 1243 (.iload 32) [] (.null) 1245 := ⟨rfl, rfl⟩
set_option maxRecDepth 100000 in
theorem jf_145_1245 : jG m_L_law 1245 (.laload) [] (.null) 1246 := ⟨rfl, rfl⟩
set_option maxRecDepth 100000 in
theorem jf_145_1246 : jG m_L_law 1246 (.lneg) [] (.null) 1247 := ⟨rfl, rfl⟩
set_option maxRecDepth 100000 in
theorem jf_145_1247 : jG m_L_law 1247 (.lstore 41) [] (.null) 1249 := ⟨rfl, rfl⟩
set_option maxRecDepth 100000 in
theorem jf_145_1249 : jG m_L_law 1249 (.lload 28) [] (.null) 1251 := ⟨rfl, rfl⟩
set_option maxRecDepth 100000 in
theorem jf_145_1251 : jG m_L_law 1251 (.aload 8) [] (.null) 1253 := ⟨rfl, rfl⟩
set_option maxRecDepth 100000 in
theorem jf_145_1253 : jG m_L_law 1253 (.iload 32) [] (.null) 1255 := ⟨rfl, rfl⟩
set_option maxRecDepth 100000 in
theorem jf_145_1255 : jG m_L_law 1255 (.laload) [] (.null) 1256 := ⟨rfl, rfl⟩
set_option maxRecDepth 100000 in
theorem jf_145_1256 : jG m_L_law 1256 (.lcmp) [] (.null) 1257 := ⟨rfl, rfl⟩
set_option maxRecDepth 100000 in
theorem jf_145_1257 : jG m_L_law 1257 (.ifCond .gt 11) [1268] (.null) 1260 := ⟨rfl, rfl⟩
set_option maxRecDepth 100000 in
theorem jf_145_1260 : jG m_L_law 1260 (.lload 28) [] (.null) 1262 := ⟨rfl, rfl⟩
set_option maxRecDepth 100000 in
theorem jf_145_1262 : jG m_L_law 1262 (.lload 41) [] (.null) 1264 := ⟨rfl, rfl⟩
set_option maxRecDepth 100000 in
theorem jf_145_1264 : jG m_L_law 1264 (.lcmp) [] (.null) 1265 := ⟨rfl, rfl⟩
set_option maxRecDepth 100000 in
theorem jf_145_1265 : jG m_L_law 1265 (.ifCond .ge 12) [1277] (.null) 1268 := ⟨rfl, rfl⟩
set_option maxRecDepth 100000 in
theorem jf_145_1268 : jG m_L_law 1268 (.aload 22) [] (.null) 1270 := ⟨rfl, rfl⟩
set_option maxRecDepth 100000 in
theorem jf_145_1270 : jG m_L_law 1270 (.iload 32) [] (.null) 1272 := ⟨rfl, rfl⟩
set_option maxRecDepth 100000 in
theorem jf_145_1272 : jG m_L_law 1272 (.dup2) [] (.null) 1273 := ⟨rfl, rfl⟩
set_option maxRecDepth 100000 in
theorem jf_145_1273 : jG m_L_law 1273 (.iaload) [] (.null) 1274 := ⟨rfl, rfl⟩
set_option maxRecDepth 100000 in
theorem jf_145_1274 : jG m_L_law 1274 (.iconst 1) [] (.null) 1275 := ⟨rfl, rfl⟩
set_option maxRecDepth 100000 in
theorem jf_145_1275 : jG m_L_law 1275 (.iadd) [] (.null) 1276 := ⟨rfl, rfl⟩
set_option maxRecDepth 100000 in
theorem jf_145_1276 : jG m_L_law 1276 (.iastore) [] (.null) 1277 := ⟨rfl, rfl⟩
set_option maxRecDepth 100000 in
theorem jf_145_1277 : jG m_L_law 1277 (.lload 28) [] (.null) 1279 := ⟨rfl, rfl⟩
set_option maxRecDepth 100000 in
theorem jf_145_1279 : jG m_L_law 1279 (.aload 8) [] (.null) 1281 := ⟨rfl, rfl⟩
set_option maxRecDepth 100000 in
theorem jf_145_1281 : jG m_L_law 1281 (.iload 32) [] (.null) 1283 := ⟨rfl, rfl⟩
set_option maxRecDepth 100000 in
theorem jf_145_1283 : jG m_L_law 1283 (.laload) [] (.null) 1284 := ⟨rfl, rfl⟩
set_option maxRecDepth 100000 in
theorem jf_145_1284 : jG m_L_law 1284 (.lcmp) [] (.null) 1285 := ⟨rfl, rfl⟩
set_option maxRecDepth 100000 in
theorem jf_145_1285 : jG m_L_law 1285 (.ifCond .le 11) [1296] (.null) 1288 := ⟨rfl, rfl⟩
set_option maxRecDepth 100000 in
theorem jf_145_1288 : jG m_L_law 1288 (.aload 8) [] (.null) 1290 := ⟨rfl, rfl⟩
set_option maxRecDepth 100000 in
theorem jf_145_1290 : jG m_L_law 1290 (.iload 32) [] (.null) 1292 := ⟨rfl, rfl⟩
set_option maxRecDepth 100000 in
theorem jf_145_1292 : jG m_L_law 1292 (.laload) [] (.null) 1293 := ⟨rfl, rfl⟩
set_option maxRecDepth 100000 in
theorem jf_145_1293 : jG m_L_law 1293 (.goto 18) [1311] (.null) 1296 := ⟨rfl, rfl⟩
set_option maxRecDepth 100000 in
theorem jf_145_1296 : jG m_L_law 1296 (.lload 28) [] (.null) 1298 := ⟨rfl, rfl⟩
set_option maxRecDepth 100000 in
theorem jf_145_1298 : jG m_L_law 1298 (.lload 41) [] (.null) 1300 := ⟨rfl, rfl⟩
set_option maxRecDepth 100000 in
theorem jf_145_1300 : jG m_L_law 1300 (.lcmp) [] (.null) 1301 := ⟨rfl, rfl⟩
set_option maxRecDepth 100000 in
theorem jf_145_1301 : jG m_L_law 1301 (.ifCond .ge 8) [1309] (.null) 1304 := ⟨rfl, rfl⟩
set_option maxRecDepth 100000 in
theorem jf_145_1304 : jG m_L_law 1304 (.lload 41) [] (.null) 1306 := ⟨rfl, rfl⟩
set_option maxRecDepth 100000 in
theorem jf_145_1306 : jG m_L_law 1306 (.goto 5) [1311] (.null) 1309 := ⟨rfl, rfl⟩
set_option maxRecDepth 100000 in
theorem jf_145_1309 : jG m_L_law 1309 (.lload 28) [] (.null) 1311 := ⟨rfl, rfl⟩
set_option maxRecDepth 100000 in
theorem jf_145_1311 : jG m_L_law 1311 (.lstore 35) [] (.null) 1313 := ⟨rfl, rfl⟩
set_option maxRecDepth 100000 in
theorem jf_145_1313 : jG m_L_law 1313 (.aload 4) [] (.null) 1315 := ⟨rfl, rfl⟩
set_option maxRecDepth 100000 in
theorem jf_145_1315 : jG m_L_law 1315 (.iload 32) [] (.null) 1317 := ⟨rfl, rfl⟩
set_option maxRecDepth 100000 in
theorem jf_145_1317 : jG m_L_law 1317 (.iaload) [] (.null) 1318 := ⟨rfl, rfl⟩
set_option maxRecDepth 100000 in
theorem jf_145_1318 : jG m_L_law 1318 (.bipush 10) [] (.null) 1320 := ⟨rfl, rfl⟩
set_option maxRecDepth 100000 in
theorem jf_145_1320 : jG m_L_law 1320 (.if_icmp .ne 74) [1394] (.null) 1323 := ⟨rfl, rfl⟩
set_option maxRecDepth 100000 in
theorem jf_145_1323 : jG m_L_law 1323 (.lload 28) [] (.null) 1325 := ⟨rfl, rfl⟩
set_option maxRecDepth 100000 in
theorem jf_145_1325 : jG m_L_law 1325 (.lconst 0) [] (.null) 1326 := ⟨rfl, rfl⟩
set_option maxRecDepth 100000 in
theorem jf_145_1326 : jG m_L_law 1326 (.lcmp) [] (.null) 1327 := ⟨rfl, rfl⟩
set_option maxRecDepth 100000 in
theorem jf_145_1327 : jG m_L_law 1327 (.ifCond .ge 24) [1351] (.null) 1330 := ⟨rfl, rfl⟩
set_option maxRecDepth 100000 in
theorem jf_145_1330 : jG m_L_law 1330 (.lload 28) [] (.null) 1332 := ⟨rfl, rfl⟩
set_option maxRecDepth 100000 in
theorem jf_145_1332 : jG m_L_law 1332 (.ldc2_w 17) [] (.long (-32768)) 1335 := ⟨rfl, rfl⟩
set_option maxRecDepth 100000 in
theorem jf_145_1335 : jG m_L_law 1335 (.lcmp) [] (.null) 1336 := ⟨rfl, rfl⟩
set_option maxRecDepth 100000 in
theorem jf_145_1336 : jG m_L_law 1336 (.ifCond .ne 9) [1345] (.null) 1339 := ⟨rfl, rfl⟩
set_option maxRecDepth 100000 in
theorem jf_145_1339 : jG m_L_law 1339 (.ldc2_w 19) [] (.long (32767)) 1342 := ⟨rfl, rfl⟩
set_option maxRecDepth 100000 in
theorem jf_145_1342 : jG m_L_law 1342 (.goto 11) [1353] (.null) 1345 := ⟨rfl, rfl⟩
set_option maxRecDepth 100000 in
theorem jf_145_1345 : jG m_L_law 1345 (.lload 28) [] (.null) 1347 := ⟨rfl, rfl⟩
set_option maxRecDepth 100000 in
theorem jf_145_1347 : jG m_L_law 1347 (.lneg) [] (.null) 1348 := ⟨rfl, rfl⟩
set_option maxRecDepth 100000 in
theorem jf_145_1348 : jG m_L_law 1348 (.goto 5) [1353] (.null) 1351 := ⟨rfl, rfl⟩
set_option maxRecDepth 100000 in
theorem jf_145_1351 : jG m_L_law 1351 (.lload 28) [] (.null) 1353 := ⟨rfl, rfl⟩
set_option maxRecDepth 100000 in
theorem jf_145_1353 : jG m_L_law 1353 (.lstore 39) [] (.null) 1355 := ⟨rfl, rfl⟩
set_option maxRecDepth 100000 in
theorem jf_145_1355 : jG m_L_law 1355 (.lload 39) [] (.null) 1357 := ⟨rfl, rfl⟩
set_option maxRecDepth 100000 in
theorem jf_145_1357 : jG m_L_law 1357 (.aload 8) [] (.null) 1359 := ⟨rfl, rfl⟩
set_option maxRecDepth 100000 in
theorem jf_145_1359 : jG m_L_law 1359 (.iload 32) [] (.null) 1361 := ⟨rfl, rfl⟩
set_option maxRecDepth 100000 in
theorem jf_145_1361 : jG m_L_law 1361 (.laload) [] (.null) 1362 := ⟨rfl, rfl⟩
set_option maxRecDepth 100000 in
theorem jf_145_1362 : jG m_L_law 1362 (.lcmp) [] (.null) 1363 := ⟨rfl, rfl⟩
set_option maxRecDepth 100000 in
theorem jf_145_1363 : jG m_L_law 1363 (.ifCond .gt 12) [1375] (.null) 1366 := ⟨rfl, rfl⟩
set_option maxRecDepth 100000 in
theorem jf_145_1366 : jG m_L_law 1366 (.aload 22) [] (.null) 1368 := ⟨rfl, rfl⟩
set_option maxRecDepth 100000 in
theorem jf_145_1368 : jG m_L_law 1368 (.iload 32) [] (.null) 1370 := ⟨rfl, rfl⟩
set_option maxRecDepth 100000 in
theorem jf_145_1370 : jG m_L_law 1370 (.dup2) [] (.null) 1371 := ⟨rfl, rfl⟩
set_option maxRecDepth 100000 in
theorem jf_145_1371 : jG m_L_law 1371 (.iaload) [] (.null) 1372 := ⟨rfl, rfl⟩
set_option maxRecDepth 100000 in
theorem jf_145_1372 : jG m_L_law 1372 (.iconst 1) [] (.null) 1373 := ⟨rfl, rfl⟩
set_option maxRecDepth 100000 in
theorem jf_145_1373 : jG m_L_law 1373 (.iadd) [] (.null) 1374 := ⟨rfl, rfl⟩
set_option maxRecDepth 100000 in
theorem jf_145_1374 : jG m_L_law 1374 (.iastore) [] (.null) 1375 := ⟨rfl, rfl⟩
set_option maxRecDepth 100000 in
theorem jf_145_1375 : jG m_L_law 1375 (.lload 39) [] (.null) 1377 := ⟨rfl, rfl⟩
set_option maxRecDepth 100000 in
theorem jf_145_1377 : jG m_L_law 1377 (.aload 8) [] (.null) 1379 := ⟨rfl, rfl⟩
set_option maxRecDepth 100000 in
theorem jf_145_1379 : jG m_L_law 1379 (.iload 32) [] (.null) 1381 := ⟨rfl, rfl⟩
set_option maxRecDepth 100000 in
theorem jf_145_1381 : jG m_L_law 1381 (.laload) [] (.null) 1382 := ⟨rfl, rfl⟩
set_option maxRecDepth 100000 in
theorem jf_145_1382 : jG m_L_law 1382 (.lcmp) [] (.null) 1383 := ⟨rfl, rfl⟩
set_option maxRecDepth 100000 in
theorem jf_145_1383 : jG m_L_law 1383 (.ifCond .gt 7) [1390] (.null) 1386 := ⟨rfl, rfl⟩
set_option maxRecDepth 100000 in
theorem jf_145_1386 : jG m_L_law 1386 (.lconst 0) [] (.null) 1387 := ⟨rfl, rfl⟩
set_option maxRecDepth 100000 in
theorem jf_145_1387 : jG m_L_law 1387 (.goto 5) [1392] (.null) 1390 := ⟨rfl, rfl⟩
set_option maxRecDepth 100000 in
theorem jf_145_1390 : jG m_L_law 1390 (.lload 28) [] (.null) 1392 := ⟨rfl, rfl⟩
set_option maxRecDepth 100000 in
theorem jf_145_1392 : jG m_L_law 1392 (.lstore 35) [] (.null) 1394 := ⟨rfl, rfl⟩
set_option maxRecDepth 100000 in
theorem jf_145_1394 : jG m_L_law 1394 (.lload 35) [] (.null) 1396 := ⟨rfl, rfl⟩
set_option maxRecDepth 100000 in
theorem jf_145_1396 : jG m_L_law 1396 (.lstore 28) [] (.null) 1398 := ⟨rfl, rfl⟩
set_option maxRecDepth 100000 in
theorem jf_145_1398 : jG m_L_law 1398 (.iload 32) [] (.null) 1400 := ⟨rfl, rfl⟩
set_option maxRecDepth 100000 in
theorem jf_145_1400 : jG m_L_law 1400 (.ifCond .ne 21) [1421] (.null) 1403 := ⟨rfl, rfl⟩
set_option maxRecDepth 100000 in
theorem jf_145_1403 : jG m_L_law 1403 (.aload 23) [] (.null) 1405 := ⟨rfl, rfl⟩
set_option maxRecDepth 100000 in
theorem jf_145_1405 : jG m_L_law 1405 (.iconst 4) [] (.null) 1406 := ⟨rfl, rfl⟩
set_option maxRecDepth 100000 in
theorem jf_145_1406 : jG m_L_law 1406 (.iload 25) [] (.null) 1408 := ⟨rfl, rfl⟩
set_option maxRecDepth 100000 in
theorem jf_145_1408 : jG m_L_law 1408 (.iadd) [] (.null) 1409 := ⟨rfl, rfl⟩
set_option maxRecDepth 100000 in
theorem jf_145_1409 : jG m_L_law 1409 (.lload 28) [] (.null) 1411 := ⟨rfl, rfl⟩
set_option maxRecDepth 100000 in
theorem jf_145_1411 : jG m_L_law 1411 (.lastore) [] (.null) 1412 := ⟨rfl, rfl⟩
set_option maxRecDepth 100000 in
theorem jf_145_1412 : jG m_L_law 1412 (.iload 25) [] (.null) 1414 := ⟨rfl, rfl⟩
set_option maxRecDepth 100000 in
theorem jf_145_1414 : jG m_L_law 1414 (.iconst 1) [] (.null) 1415 := ⟨rfl, rfl⟩
set_option maxRecDepth 100000 in
theorem jf_145_1415 : jG m_L_law 1415 (.iadd) [] (.null) 1416 := ⟨rfl, rfl⟩
set_option maxRecDepth 100000 in
theorem jf_145_1416 : jG m_L_law 1416 (.iload 12) [] (.null) 1418 := ⟨rfl, rfl⟩
set_option maxRecDepth 100000 in
theorem jf_145_1418 : jG m_L_law 1418 (.irem) [] (.null) 1419 := ⟨rfl, rfl⟩
set_option maxRecDepth 100000 in
theorem jf_145_1419 : jG m_L_law 1419 (.istore 25) [] (.null) 1421 := ⟨rfl, rfl⟩
set_option maxRecDepth 100000 in
theorem jf_145_1421 : jG m_L_law 1421 (.iinc 32 1) [] (.null) 1424 := ⟨rfl, rfl⟩
set_option maxRecDepth 100000 in
theorem jf_145_1424 : jG m_L_law 1424 (.goto (-871)) [553] (.null) 1427 := ⟨rfl, rfl⟩
set_option maxRecDepth 100000 in
theorem jf_145_1427 : jG m_L_law 1427 (.aload 23) [] (.null) 1429 := ⟨rfl, rfl⟩
set_option maxRecDepth 100000 in
theorem jf_145_1429 : jG m_L_law 1429 (.iload 24) [] (.null) 1431 := ⟨rfl, rfl⟩
set_option maxRecDepth 100000 in
theorem jf_145_1431 : jG m_L_law 1431 (.lload 28) [] (.null) 1433 := ⟨rfl, rfl⟩
set_option maxRecDepth 100000 in
theorem jf_145_1433 : jG m_L_law 1433 (.lastore) [] (.null) 1434 := ⟨rfl, rfl⟩
set_option maxRecDepth 100000 in
theorem jf_145_1434 : jG m_L_law 1434 (.iload 24) [] (.null) 1436 := ⟨rfl, rfl⟩
set_option maxRecDepth 100000 in
theorem jf_145_1436 : jG m_L_law 1436 (.iconst 1) [] (.null) 1437 := ⟨rfl, rfl⟩
set_option maxRecDepth 100000 in
theorem jf_145_1437 : jG m_L_law 1437 (.iadd) [] (.null) 1438 := ⟨rfl, rfl⟩
set_option maxRecDepth 100000 in
theorem jf_145_1438 : jG m_L_law 1438 (.iload 11) [] (.null) 1440 := ⟨rfl, rfl⟩
set_option maxRecDepth 100000 in
theorem jf_145_1440 : jG m_L_law 1440 (.irem) [] (.null) 1441 := ⟨rfl, rfl⟩
set_option maxRecDepth 100000 in
theorem jf_145_1441 : jG m_L_law 1441 (.istore 24) [] (.null) 1443 := ⟨rfl, rfl⟩
set_option maxRecDepth 100000 in
theorem jf_145_1443 : jG m_L_law 1443 (.aload 26) [] (.null) 1445 := ⟨rfl, rfl⟩
set_option maxRecDepth 100000 in
theorem jf_145_1445 : jG m_L_law 1445 (.iload 27) [] (.null) 1447 := ⟨rfl, rfl⟩
set_option maxRecDepth 100000 in
theorem jf_145_1447 : jG m_L_law 1447 (.lload 28) [] (.null) 1449 := ⟨rfl, rfl⟩
set_option maxRecDepth 100000 in
theorem jf_145_1449 : jG m_L_law 1449 (.l2i) [] (.null) 1450 := ⟨rfl, rfl⟩
set_option maxRecDepth 100000 in
theorem jf_145_1450 : jG m_L_law 1450 (.iastore) [] (.null) 1451 := ⟨rfl, rfl⟩
set_option maxRecDepth 100000 in
theorem jf_145_1451 : jG m_L_law 1451 (.aload_n 2) [] (.null) 1452 := ⟨rfl, rfl⟩
set_option maxRecDepth 100000 in
theorem jf_145_1452 : jG m_L_law 1452 (.iconst 0) [] (.null) 1453 := ⟨rfl, rfl⟩
set_option maxRecDepth 100000 in
theorem jf_145_1453 : jG m_L_law 1453 (.lload 30) [] (.null) 1455 := ⟨rfl, rfl⟩
set_option maxRecDepth 100000 in
theorem jf_145_1455 : jG m_L_law 1455 (.invokevirtual 52) [6, 2, 0, m_B_feed] (.null) 1458 := ⟨rfl, rfl⟩
set_option maxRecDepth 100000 in
theorem jf_145_1458 : jG m_L_law 1458 (.iconst 1) [] (.null) 1459 := ⟨rfl, rfl⟩
set_option maxRecDepth 100000 in
theorem jf_145_1459 : jG m_L_law 1459 (.if_icmp .ne 20) [1479] (.null) 1462 := ⟨rfl, rfl⟩
set_option maxRecDepth 100000 in
theorem jf_145_1462 : jG m_L_law 1462 (.aload_n 2) [] (.null) 1463 := ⟨rfl, rfl⟩
set_option maxRecDepth 100000 in
theorem jf_145_1463 : jG m_L_law 1463 (.iconst 0) [] (.null) 1464 := ⟨rfl, rfl⟩
set_option maxRecDepth 100000 in
theorem jf_145_1464 : jG m_L_law 1464 (.iload 27) [] (.null) 1466 := ⟨rfl, rfl⟩
set_option maxRecDepth 100000 in
theorem jf_145_1466 : jG m_L_law 1466 (.invokevirtual 56) [6, 2, 0, m_B_output] (.null) 1469 := ⟨rfl, rfl⟩
set_option maxRecDepth 100000 in
theorem jf_145_1469 : jG m_L_law 1469 (.lload 28) [] (.null) 1471 := ⟨rfl, rfl⟩
set_option maxRecDepth 100000 in
theorem jf_145_1471 : jG m_L_law 1471 (.lcmp) [] (.null) 1472 := ⟨rfl, rfl⟩
set_option maxRecDepth 100000 in
theorem jf_145_1472 : jG m_L_law 1472 (.ifCond .ne 7) [1479] (.null) 1475 := ⟨rfl, rfl⟩
set_option maxRecDepth 100000 in
theorem jf_145_1475 : jG m_L_law 1475 (.iconst 1) [] (.null) 1476 := ⟨rfl, rfl⟩
set_option maxRecDepth 100000 in
theorem jf_145_1476 : jG m_L_law 1476 (.goto 4) [1480] (.null) 1479 := ⟨rfl, rfl⟩
set_option maxRecDepth 100000 in
theorem jf_145_1479 : jG m_L_law 1479 (.iconst 0) [] (.null) 1480 := ⟨rfl, rfl⟩
set_option maxRecDepth 100000 in
theorem jf_145_1480 : jG m_L_law 1480 (.istore 10) [] (.null) 1482 := ⟨rfl, rfl⟩
set_option maxRecDepth 100000 in
theorem jf_145_1482 : jG m_L_law 1482 (.iconst 0) [] (.null) 1483 := ⟨rfl, rfl⟩
set_option maxRecDepth 100000 in
theorem jf_145_1483 : jG m_L_law 1483 (.istore 32) [] (.null) 1485 := ⟨rfl, rfl⟩
set_option maxRecDepth 100000 in
theorem jf_145_1485 : jG m_L_law 1485 (.iload 32) [] (.null) 1487 := ⟨rfl, rfl⟩
set_option maxRecDepth 100000 in
theorem jf_145_1487 : jG m_L_law 1487 (.iload_n 3) [] (.null) 1488 := ⟨rfl, rfl⟩
set_option maxRecDepth 100000 in
theorem jf_145_1488 : jG m_L_law 1488 (.if_icmp .ge 69) [1557] (.null) 1491 := ⟨rfl, rfl⟩
set_option maxRecDepth 100000 in
theorem jf_145_1491 : jG m_L_law 1491 (.iload 10) [] (.null) 1493 := ⟨rfl, rfl⟩
set_option maxRecDepth 100000 in
theorem jf_145_1493 : jG m_L_law 1493 (.ifCond .eq 55) [1548] (.null) 1496 := ⟨rfl, rfl⟩
set_option maxRecDepth 100000 in
theorem jf_145_1496 : jG m_L_law 1496 (.aload_n 2) [] (.null) 1497 := ⟨rfl, rfl⟩
set_option maxRecDepth 100000 in
theorem jf_145_1497 : jG m_L_law 1497 (.iload 32) [] (.null) 1499 := ⟨rfl, rfl⟩
set_option maxRecDepth 100000 in
theorem jf_145_1499 : jG m_L_law 1499 (.iconst 5) [] (.null) 1500 := ⟨rfl, rfl⟩
set_option maxRecDepth 100000 in
theorem jf_145_1500 : jG m_L_law 1500 (.invokevirtual 60) [6, 2, 0, m_B_about] (.null) 1503 := ⟨rfl, rfl⟩
set_option maxRecDepth 100000 in
theorem jf_145_1503 : jG m_L_law 1503 (.aload 21) [] (.null) 1505 := ⟨rfl, rfl⟩
set_option maxRecDepth 100000 in
theorem jf_145_1505 : jG m_L_law 1505 (.iload 32) [] (.null) 1507 := ⟨rfl, rfl⟩
set_option maxRecDepth 100000 in
theorem jf_145_1507 : jG m_L_law 1507 (.iaload) [] (.null) 1508 := ⟨rfl, rfl⟩
set_option maxRecDepth 100000 in
theorem jf_145_1508 : jG m_L_law 1508 (.if_icmp .ne 40) [1548] (.null) 1511 := ⟨rfl, rfl⟩
set_option maxRecDepth 100000 in
theorem jf_145_1511 : jG m_L_law 1511 (.aload_n 2) [] (.null) 1512 := ⟨rfl, rfl⟩
set_option maxRecDepth 100000 in
theorem jf_145_1512 : jG m_L_law 1512 (.iload 32) [] (.null) 1514 := ⟨rfl, rfl⟩
set_option maxRecDepth 100000 in
theorem jf_145_1514 : jG m_L_law 1514 (.bipush 6) [] (.null) 1516 := ⟨rfl, rfl⟩
set_option maxRecDepth 100000 in
theorem jf_145_1516 : jG m_L_law 1516 (.invokevirtual 60) [6, 2, 0, m_B_about] (.null) 1519 := ⟨rfl, rfl⟩
set_option maxRecDepth 100000 in
theorem jf_145_1519 : jG m_L_law 1519 (.aload 22) [] (.null) 1521 := ⟨rfl, rfl⟩
set_option maxRecDepth 100000 in
theorem jf_145_1521 : jG m_L_law 1521 (.iload 32) [] (.null) 1523 := ⟨rfl, rfl⟩
set_option maxRecDepth 100000 in
theorem jf_145_1523 : jG m_L_law 1523 (.iaload) [] (.null) 1524 := ⟨rfl, rfl⟩
set_option maxRecDepth 100000 in
theorem jf_145_1524 : jG m_L_law 1524 (.if_icmp .ne 24) [1548] (.null) 1527 := ⟨rfl, rfl⟩
set_option maxRecDepth 100000 in
theorem jf_145_1527 : jG m_L_law 1527 (.aload_n 2) [] (.null) 1528 := ⟨rfl, rfl⟩
set_option maxRecDepth 100000 in
theorem jf_145_1528 : jG m_L_law 1528 (.iload 32) [] (.null) 1530 := ⟨rfl, rfl⟩
set_option maxRecDepth 100000 in
theorem jf_145_1530 : jG m_L_law 1530 (.bipush 100) [] (.null) 1532 := ⟨rfl, rfl⟩
set_option maxRecDepth 100000 in
theorem jf_145_1532 : jG m_L_law 1532 (.invokevirtual 63) [6, 2, 0, m_B_state] (.null) 1535 := ⟨rfl, rfl⟩
set_option maxRecDepth 100000 in
theorem jf_145_1535 : jG m_L_law 1535 (.aload 20) [] (.null) 1537 := ⟨rfl, rfl⟩
set_option maxRecDepth 100000 in
theorem jf_145_1537 : jG m_L_law 1537 (.iload 32) [] (.null) 1539 := ⟨rfl, rfl⟩
set_option maxRecDepth 100000 in
theorem jf_145_1539 : jG m_L_law 1539 (.laload) [] (.null) 1540 := ⟨rfl, rfl⟩
set_option maxRecDepth 100000 in
theorem jf_145_1540 : jG m_L_law 1540 (.lcmp) [] (.null) 1541 := ⟨rfl, rfl⟩
set_option maxRecDepth 100000 in
theorem jf_145_1541 : jG m_L_law 1541 (.ifCond .ne 7) [1548] (.null) 1544 := ⟨rfl, rfl⟩
set_option maxRecDepth 100000 in
theorem jf_145_1544 : jG m_L_law 1544 (.iconst 1) [] (.null) 1545 := ⟨rfl, rfl⟩
set_option maxRecDepth 100000 in
theorem jf_145_1545 : jG m_L_law 1545 (.goto 4) [1549] (.null) 1548 := ⟨rfl, rfl⟩
set_option maxRecDepth 100000 in
theorem jf_145_1548 : jG m_L_law 1548 (.iconst 0) [] (.null) 1549 := ⟨rfl, rfl⟩
set_option maxRecDepth 100000 in
theorem jf_145_1549 : jG m_L_law 1549 (.istore 10) [] (.null) 1551 := ⟨rfl, rfl⟩
set_option maxRecDepth 100000 in
theorem jf_145_1551 : jG m_L_law 1551 (.iinc 32 1) [] (.null) 1554 := ⟨rfl, rfl⟩
set_option maxRecDepth 100000 in
theorem jf_145_1554 : jG m_L_law 1554 (.goto (-69)) [1485] (.null) 1557 := ⟨rfl, rfl⟩
set_option maxRecDepth 100000 in
theorem jf_145_1557 : jG m_L_law 1557 (.iinc 27 1) [] (.null) 1560 := ⟨rfl, rfl⟩
set_option maxRecDepth 100000 in
theorem jf_145_1560 : jG m_L_law 1560 (.goto (-1043)) [517] (.null) 1563 := ⟨rfl, rfl⟩
set_option maxRecDepth 100000 in
theorem jf_145_1563 : jG m_L_law 1563 (.iload 10) [] (.null) 1565 := ⟨rfl, rfl⟩
set_option maxRecDepth 100000 in
theorem jf_145_1565 : jG m_L_law 1565 (.ifCond .eq 67) [1632] (.null) 1568 := ⟨rfl, rfl⟩
set_option maxRecDepth 100000 in
theorem jf_145_1568 : jG m_L_law 1568 (.aload_n 2) [] (.null) 1569 := ⟨rfl, rfl⟩
set_option maxRecDepth 100000 in
theorem jf_145_1569 : jG m_L_law 1569 (.iconst 0) [] (.null) 1570 := ⟨rfl, rfl⟩
set_option maxRecDepth 100000 in
theorem jf_145_1570 : jG m_L_law 1570 (.iconst 0) [] (.null) 1571 := ⟨rfl, rfl⟩
set_option maxRecDepth 100000 in
theorem jf_145_1571 : jG m_L_law 1571 (.invokevirtual 66) [6, 2, 0, m_B_convert] (.null) 1574 := ⟨rfl, rfl⟩
set_option maxRecDepth 100000 in
theorem jf_145_1574 : jG m_L_law 1574 (.iconst 1) [] (.null) 1575 := ⟨rfl, rfl⟩
set_option maxRecDepth 100000 in
theorem jf_145_1575 : jG m_L_law 1575 (.if_icmp .ne 57) [1632] (.null) 1578 := ⟨rfl, rfl⟩
set_option maxRecDepth 100000 in
theorem jf_145_1578 : jG m_L_law 1578 (.aload_n 2) [] (.null) 1579 := ⟨rfl, rfl⟩
set_option maxRecDepth 100000 in
theorem jf_145_1579 : jG m_L_law 1579 (.iconst 1) [] (.null) 1580 := ⟨rfl, rfl⟩
set_option maxRecDepth 100000 in
theorem jf_145_1580 : jG m_L_law 1580 (.iconst 2) [] (.null) 1581 := ⟨rfl, rfl⟩
set_option maxRecDepth 100000 in
theorem jf_145_1581 : jG m_L_law 1581 (.invokevirtual 66) [6, 2, 0, m_B_convert] (.null) 1584 := ⟨rfl, rfl⟩
set_option maxRecDepth 100000 in
theorem jf_145_1584 : jG m_L_law 1584 (.iconst 2) [] (.null) 1585 := ⟨rfl, rfl⟩
set_option maxRecDepth 100000 in
theorem jf_145_1585 : jG m_L_law 1585 (.if_icmp .ne 47) [1632] (.null) 1588 := ⟨rfl, rfl⟩
set_option maxRecDepth 100000 in
theorem jf_145_1588 : jG m_L_law 1588 (.aload_n 2) [] (.null) 1589 := ⟨rfl, rfl⟩
set_option maxRecDepth 100000 in
theorem jf_145_1589 : jG m_L_law 1589 (.iconst 0) [] (.null) 1590 := ⟨rfl, rfl⟩
set_option maxRecDepth 100000 in
theorem jf_145_1590 : jG m_L_law 1590 (.invokevirtual 69) [6, 1, 0, m_B_count] (.null) 1593 := ⟨rfl, rfl⟩
set_option maxRecDepth 100000 in
theorem jf_145_1593 : jG m_L_law 1593 (.iconst 3) [] (.null) 1594 := ⟨rfl, rfl⟩
set_option maxRecDepth 100000 in
theorem jf_145_1594 : jG m_L_law 1594 (.iload_n 3) [] (.null) 1595 := ⟨rfl, rfl⟩
set_option maxRecDepth 100000 in
theorem jf_145_1595 : jG m_L_law 1595 (.imul) [] (.null) 1596 := ⟨rfl, rfl⟩
set_option maxRecDepth 100000 in
theorem jf_145_1596 : jG m_L_law 1596 (.if_icmp .ne 36) [1632] (.null) 1599 := ⟨rfl, rfl⟩
set_option maxRecDepth 100000 in
theorem jf_145_1599 : jG m_L_law 1599 (.aload_n 2) [] (.null) 1600 := ⟨rfl, rfl⟩
set_option maxRecDepth 100000 in
theorem jf_145_1600 : jG m_L_law 1600 (.iconst 2) [] (.null) 1601 := ⟨rfl, rfl⟩
set_option maxRecDepth 100000 in
theorem jf_145_1601 : jG m_L_law 1601 (.iconst 1) [] (.null) 1602 := ⟨rfl, rfl⟩
set_option maxRecDepth 100000 in
theorem jf_145_1602 : jG m_L_law 1602 (.invokevirtual 72) [6, 2, 0, m_B_chain_2] (.null) 1605 := ⟨rfl, rfl⟩
set_option maxRecDepth 100000 in
theorem jf_145_1605 : jG m_L_law 1605 (.iconst 2) [] (.null) 1606 := ⟨rfl, rfl⟩
set_option maxRecDepth 100000 in
theorem jf_145_1606 : jG m_L_law 1606 (.if_icmp .ne 26) [1632] (.null) 1609 := ⟨rfl, rfl⟩
set_option maxRecDepth 100000 in
theorem jf_145_1609 : jG m_L_law 1609 (.aload_n 2) [] (.null) 1610 := ⟨rfl, rfl⟩
set_option maxRecDepth 100000 in
theorem jf_145_1610 : jG m_L_law 1610 (.iconst 1) [] (.null) 1611 := ⟨rfl, rfl⟩
set_option maxRecDepth 100000 in
theorem jf_145_1611 : jG m_L_law 1611 (.iconst 4) [] (.null) 1612 := ⟨rfl, rfl⟩
set_option maxRecDepth 100000 in
theorem jf_145_1612 : jG m_L_law 1612 (.invokevirtual 72) [6, 2, 0, m_B_chain_2] (.null) 1615 := ⟨rfl, rfl⟩
set_option maxRecDepth 100000 in
theorem jf_145_1615 : jG m_L_law 1615 (.ifCond .ne 17) [1632] (.null) 1618 := ⟨rfl, rfl⟩
set_option maxRecDepth 100000 in
theorem jf_145_1618 : jG m_L_law 1618 (.aload_n 2) [] (.null) 1619 := ⟨rfl, rfl⟩
set_option maxRecDepth 100000 in
theorem jf_145_1619 : jG m_L_law 1619 (.iconst 2) [] (.null) 1620 := ⟨rfl, rfl⟩
set_option maxRecDepth 100000 in
theorem jf_145_1620 : jG m_L_law 1620 (.iconst 4) [] (.null) 1621 := ⟨rfl, rfl⟩
set_option maxRecDepth 100000 in
theorem jf_145_1621 : jG m_L_law 1621 (.invokevirtual 72) [6, 2, 0, m_B_chain_2] (.null) 1624 := ⟨rfl, rfl⟩
set_option maxRecDepth 100000 in
theorem jf_145_1624 : jG m_L_law 1624 (.iconst 2) [] (.null) 1625 := ⟨rfl, rfl⟩
set_option maxRecDepth 100000 in
theorem jf_145_1625 : jG m_L_law 1625 (.if_icmp .ne 7) [1632] (.null) 1628 := ⟨rfl, rfl⟩
set_option maxRecDepth 100000 in
theorem jf_145_1628 : jG m_L_law 1628 (.iconst 1) [] (.null) 1629 := ⟨rfl, rfl⟩
set_option maxRecDepth 100000 in
theorem jf_145_1629 : jG m_L_law 1629 (.goto 4) [1633] (.null) 1632 := ⟨rfl, rfl⟩
set_option maxRecDepth 100000 in
theorem jf_145_1632 : jG m_L_law 1632 (.iconst 0) [] (.null) 1633 := ⟨rfl, rfl⟩
set_option maxRecDepth 100000 in
theorem jf_145_1633 : jG m_L_law 1633 (.istore 10) [] (.null) 1635 := ⟨rfl, rfl⟩
set_option maxRecDepth 100000 in
theorem jf_145_1635 : jG m_L_law 1635 (.iconst 0) [] (.null) 1636 := ⟨rfl, rfl⟩
set_option maxRecDepth 100000 in
theorem jf_145_1636 : jG m_L_law 1636 (.istore 27) [] (.null) 1638 := ⟨rfl, rfl⟩
set_option maxRecDepth 100000 in
theorem jf_145_1638 : jG m_L_law 1638 (.iload 27) [] (.null) 1640 := ⟨rfl, rfl⟩
set_option maxRecDepth 100000 in
theorem jf_145_1640 : jG m_L_law 1640 (.iload_n 3) [] (.null) 1641 := ⟨rfl, rfl⟩
set_option maxRecDepth 100000 in
theorem jf_145_1641 : jG m_L_law 1641 (.if_icmp .ge 122) [1763] (.null) 1644 := ⟨rfl, rfl⟩
set_option maxRecDepth 100000 in
theorem jf_145_1644 : jG m_L_law 1644 (.iload 10) [] (.null) 1646 := ⟨rfl, rfl⟩
set_option maxRecDepth 100000 in
theorem jf_145_1646 : jG m_L_law 1646 (.ifCond .eq 117) [1763] (.null) 1649 := ⟨rfl, rfl⟩
set_option maxRecDepth 100000 in
theorem jf_145_1649 : jG m_L_law 1649 (.aload_n 2) [] (.null) 1650 := ⟨rfl, rfl⟩
set_option maxRecDepth 100000 in
theorem jf_145_1650 : jG m_L_law 1650 (.iconst 2) [] (.null) 1651 := ⟨rfl, rfl⟩
set_option maxRecDepth 100000 in
theorem jf_145_1651 : jG m_L_law 1651 (.iload_n 3) [] (.null) 1652 := ⟨rfl, rfl⟩
set_option maxRecDepth 100000 in
theorem jf_145_1652 : jG m_L_law 1652 (.imul) [] (.null) 1653 := ⟨rfl, rfl⟩
set_option maxRecDepth 100000 in
theorem jf_145_1653 : jG m_L_law 1653 (.iload 27) [] (.null) 1655 := ⟨rfl, rfl⟩
set_option maxRecDepth 100000 in
theorem jf_145_1655 : jG m_L_law 1655 (.iadd) [] (.null) 1656 := ⟨rfl, rfl⟩
set_option maxRecDepth 100000 in
theorem jf_145_1656 : jG m_L_law 1656 (.iconst 0) [] (.null) 1657 := ⟨rfl, rfl⟩
set_option maxRecDepth 100000 in
theorem jf_145_1657 : jG m_L_law 1657 (.invokevirtual 74) [6, 2, 0, m_B_told] (.null) 1660 := ⟨rfl, rfl⟩
set_option maxRecDepth 100000 in
theorem jf_145_1660 : jG m_L_law 1660 (.aload_n 2) [] (.null) 1661 := ⟨rfl, rfl⟩
set_option maxRecDepth 100000 in
theorem jf_145_1661 : jG m_L_law 1661 (.iload 27) [] (.null) 1663 := ⟨rfl, rfl⟩
set_option maxRecDepth 100000 in
theorem jf_145_1663 : jG m_L_law 1663 (.iconst 0) [] (.null) 1664 := ⟨rfl, rfl⟩
set_option maxRecDepth 100000 in
theorem jf_145_1664 : jG m_L_law 1664 (.invokevirtual 74) [6, 2, 0, m_B_told] (.null) 1667 := ⟨rfl, rfl⟩
set_option maxRecDepth 100000 in
theorem jf_145_1667 : jG m_L_law 1667 (.lcmp) [] (.null) 1668 := ⟨rfl, rfl⟩
set_option maxRecDepth 100000 in
theorem jf_145_1668 : jG m_L_law 1668 (.ifCond .ne 86) [1754] (.null) 1671 := ⟨rfl, rfl⟩
set_option maxRecDepth 100000 in
theorem jf_145_1671 : jG m_L_law 1671 (.aload_n 2) [] (.null) 1672 := ⟨rfl, rfl⟩
set_option maxRecDepth 100000 in
theorem jf_145_1672 : jG m_L_law 1672 (.iconst 2) [] (.null) 1673 := ⟨rfl, rfl⟩
set_option maxRecDepth 100000 in
theorem jf_145_1673 : jG m_L_law 1673 (.iload_n 3) [] (.null) 1674 := ⟨rfl, rfl⟩
set_option maxRecDepth 100000 in
theorem jf_145_1674 : jG m_L_law 1674 (.imul) [] (.null) 1675 := ⟨rfl, rfl⟩
set_option maxRecDepth 100000 in
theorem jf_145_1675 : jG m_L_law 1675 (.iload 27) [] (.null) 1677 := ⟨rfl, rfl⟩
set_option maxRecDepth 100000 in
theorem jf_145_1677 : jG m_L_law 1677 (.iadd) [] (.null) 1678 := ⟨rfl, rfl⟩
set_option maxRecDepth 100000 in
theorem jf_145_1678 : jG m_L_law 1678 (.iconst 1) [] (.null) 1679 := ⟨rfl, rfl⟩
set_option maxRecDepth 100000 in
theorem jf_145_1679 : jG m_L_law 1679 (.invokevirtual 74) [6, 2, 0, m_B_told] (.null) 1682 := ⟨rfl, rfl⟩
set_option maxRecDepth 100000 in
theorem jf_145_1682 : jG m_L_law 1682 (.aload_n 2) [] (.null) 1683 := ⟨rfl, rfl⟩
set_option maxRecDepth 100000 in
theorem jf_145_1683 : jG m_L_law 1683 (.iload 27) [] (.null) 1685 := ⟨rfl, rfl⟩
set_option maxRecDepth 100000 in
theorem jf_145_1685 : jG m_L_law 1685 (.iconst 1) [] (.null) 1686 := ⟨rfl, rfl⟩
set_option maxRecDepth 100000 in
theorem jf_145_1686 : jG m_L_law 1686 (.invokevirtual 74) [6, 2, 0, m_B_told] (.null) 1689 := ⟨rfl, rfl⟩
set_option maxRecDepth 100000 in
theorem jf_145_1689 : jG m_L_law 1689 (.lcmp) [] (.null) 1690 := ⟨rfl, rfl⟩
set_option maxRecDepth 100000 in
theorem jf_145_1690 : jG m_L_law 1690 (.ifCond .ne 64) [1754] (.null) 1693 := ⟨rfl, rfl⟩
set_option maxRecDepth 100000 in
theorem jf_145_1693 : jG m_L_law 1693 (.aload_n 2) [] (.null) 1694 := ⟨rfl, rfl⟩
set_option maxRecDepth 100000 in
theorem jf_145_1694 : jG m_L_law 1694 (.iconst 2) [] (.null) 1695 := ⟨rfl, rfl⟩
set_option maxRecDepth 100000 in
theorem jf_145_1695 : jG m_L_law 1695 (.iload_n 3) [] (.null) 1696 := ⟨rfl, rfl⟩
set_option maxRecDepth 100000 in
theorem jf_145_1696 : jG m_L_law 1696 (.imul) [] (.null) 1697 := ⟨rfl, rfl⟩
set_option maxRecDepth 100000 in
theorem jf_145_1697 : jG m_L_law 1697 (.iload 27) [] (.null) 1699 := ⟨rfl, rfl⟩
set_option maxRecDepth 100000 in
theorem jf_145_1699 : jG m_L_law 1699 (.iadd) [] (.null) 1700 := ⟨rfl, rfl⟩
set_option maxRecDepth 100000 in
theorem jf_145_1700 : jG m_L_law 1700 (.iconst 0) [] (.null) 1701 := ⟨rfl, rfl⟩
set_option maxRecDepth 100000 in
theorem jf_145_1701 : jG m_L_law 1701 (.invokevirtual 60) [6, 2, 0, m_B_about] (.null) 1704 := ⟨rfl, rfl⟩
set_option maxRecDepth 100000 in
theorem jf_145_1704 : jG m_L_law 1704 (.aload 4) [] (.null) 1706 := ⟨rfl, rfl⟩
set_option maxRecDepth 100000 in
theorem jf_145_1706 : jG m_L_law 1706 (.iload 27) [] (.null) 1708 := ⟨rfl, rfl⟩
set_option maxRecDepth 100000 in
theorem jf_145_1708 : jG m_L_law 1708 (.iaload) [] (.null) 1709 := ⟨rfl, rfl⟩
set_option maxRecDepth 100000 in
theorem jf_145_1709 : jG m_L_law 1709 (.if_icmp .ne 45) [1754] (.null) 1712 := ⟨rfl, rfl⟩
set_option maxRecDepth 100000 in
theorem jf_145_1712 : jG m_L_law 1712 (.aload_n 2) [] (.null) 1713 := ⟨rfl, rfl⟩
set_option maxRecDepth 100000 in
theorem jf_145_1713 : jG m_L_law 1713 (.iconst 2) [] (.null) 1714 := ⟨rfl, rfl⟩
set_option maxRecDepth 100000 in
theorem jf_145_1714 : jG m_L_law 1714 (.iload_n 3) [] (.null) 1715 := ⟨rfl, rfl⟩
set_option maxRecDepth 100000 in
theorem jf_145_1715 : jG m_L_law 1715 (.imul) [] (.null) 1716 := ⟨rfl, rfl⟩
set_option maxRecDepth 100000 in
theorem jf_145_1716 : jG m_L_law 1716 (.iload 27) [] (.null) 1718 := ⟨rfl, rfl⟩
set_option maxRecDepth 100000 in
theorem jf_145_1718 : jG m_L_law 1718 (.iadd) [] (.null) 1719 := ⟨rfl, rfl⟩
set_option maxRecDepth 100000 in
theorem jf_145_1719 : jG m_L_law 1719 (.bipush 8) [] (.null) 1721 := ⟨rfl, rfl⟩
set_option maxRecDepth 100000 in
theorem jf_145_1721 : jG m_L_law 1721 (.invokevirtual 60) [6, 2, 0, m_B_about] (.null) 1724 := ⟨rfl, rfl⟩
set_option maxRecDepth 100000 in
theorem jf_145_1724 : jG m_L_law 1724 (.ifCond .ne 30) [1754] (.null) 1727 := ⟨rfl, rfl⟩
set_option maxRecDepth 100000 in
theorem jf_145_1727 : jG m_L_law 1727 (.aload_n 2) [] (.null) 1728 := ⟨rfl, rfl⟩
set_option maxRecDepth 100000 in
theorem jf_145_1728 : jG m_L_law 1728 (.iconst 2) [] (.null) 1729 := ⟨rfl, rfl⟩
set_option maxRecDepth 100000 in
theorem jf_145_1729 : jG m_L_law 1729 (.iload_n 3) [] (.null) 1730 := ⟨rfl, rfl⟩
set_option maxRecDepth 100000 in
theorem jf_145_1730 : jG m_L_law 1730 (.imul) [] (.null) 1731 := ⟨rfl, rfl⟩
set_option maxRecDepth 100000 in
theorem jf_145_1731 : jG m_L_law 1731 (.iload 27) [] (.null) 1733 := ⟨rfl, rfl⟩
set_option maxRecDepth 100000 in
theorem jf_145_1733 : jG m_L_law 1733 (.iadd) [] (.null) 1734 := ⟨rfl, rfl⟩
set_option maxRecDepth 100000 in
theorem jf_145_1734 : jG m_L_law 1734 (.aload 5) [] (.null) 1736 := ⟨rfl, rfl⟩
set_option maxRecDepth 100000 in
theorem jf_145_1736 : jG m_L_law 1736 (.iload 27) [] (.null) 1738 := ⟨rfl, rfl⟩
set_option maxRecDepth 100000 in
theorem jf_145_1738 : jG m_L_law 1738 (.iaload) [] (.null) 1739 := ⟨rfl, rfl⟩
set_option maxRecDepth 100000 in
theorem jf_145_1739 : jG m_L_law 1739 (.aload 6) [] (.null) 1741 := ⟨rfl, rfl⟩
set_option maxRecDepth 100000 in
theorem jf_145_1741 : jG m_L_law 1741 (.iload 27) [] (.null) 1743 := ⟨rfl, rfl⟩
set_option maxRecDepth 100000 in
theorem jf_145_1743 : jG m_L_law 1743 (.iaload) [] (.null) 1744 := ⟨rfl, rfl⟩
set_option maxRecDepth 100000 in
theorem jf_145_1744 : jG m_L_law 1744 (.invokevirtual 36) [6, 3, 0, m_B_rule] (.null) 1747 := ⟨rfl, rfl⟩
set_option maxRecDepth 100000 in
theorem jf_145_1747 : jG m_L_law 1747 (.ifCond .eq 7) [1754] (.null) 1750 := ⟨rfl, rfl⟩
set_option maxRecDepth 100000 in
theorem jf_145_1750 : jG m_L_law 1750 (.iconst 1) [] (.null) 1751 := ⟨rfl, rfl⟩
set_option maxRecDepth 100000 in
theorem jf_145_1751 : jG m_L_law 1751 (.goto 4) [1755] (.null) 1754 := ⟨rfl, rfl⟩
set_option maxRecDepth 100000 in
theorem jf_145_1754 : jG m_L_law 1754 (.iconst 0) [] (.null) 1755 := ⟨rfl, rfl⟩
set_option maxRecDepth 100000 in
theorem jf_145_1755 : jG m_L_law 1755 (.istore 10) [] (.null) 1757 := ⟨rfl, rfl⟩
set_option maxRecDepth 100000 in
theorem jf_145_1757 : jG m_L_law 1757 (.iinc 27 1) [] (.null) 1760 := ⟨rfl, rfl⟩
set_option maxRecDepth 100000 in
theorem jf_145_1760 : jG m_L_law 1760 (.goto (-122)) [1638] (.null) 1763 := ⟨rfl, rfl⟩
set_option maxRecDepth 100000 in
theorem jf_145_1763 : jG m_L_law 1763 (.iconst 0) [] (.null) 1764 := ⟨rfl, rfl⟩
set_option maxRecDepth 100000 in
theorem jf_145_1764 : jG m_L_law 1764 (.istore 27) [] (.null) 1766 := ⟨rfl, rfl⟩
set_option maxRecDepth 100000 in
theorem jf_145_1766 : jG m_L_law 1766 (.iload 27) [] (.null) 1768 := ⟨rfl, rfl⟩
set_option maxRecDepth 100000 in
theorem jf_145_1768 : jG m_L_law 1768 (.bipush 40) [] (.null) 1770 := ⟨rfl, rfl⟩
set_option maxRecDepth 100000 in
theorem jf_145_1770 : jG m_L_law 1770 (.if_icmp .ge 62) [1832] (.null) 1773 := ⟨rfl, rfl⟩
set_option maxRecDepth 100000 in
theorem jf_145_1773 : jG m_L_law 1773 (.iload 10) [] (.null) 1775 := ⟨rfl, rfl⟩
set_option maxRecDepth 100000 in
theorem jf_145_1775 : jG m_L_law 1775 (.ifCond .eq 57) [1832] (.null) 1778 := ⟨rfl, rfl⟩
set_option maxRecDepth 100000 in
theorem jf_145_1778 : jG m_L_law 1778 (.aload_n 2) [] (.null) 1779 := ⟨rfl, rfl⟩
set_option maxRecDepth 100000 in
theorem jf_145_1779 : jG m_L_law 1779 (.iconst 2) [] (.null) 1780 := ⟨rfl, rfl⟩
set_option maxRecDepth 100000 in
theorem jf_145_1780 : jG m_L_law 1780 (.aload_n 1) [] (.null) 1781 := ⟨rfl, rfl⟩
set_option maxRecDepth 100000 in
theorem jf_145_1781 : jG m_L_law 1781 (.bipush 10) [] (.null) 1783 := ⟨rfl, rfl⟩
set_option maxRecDepth 100000 in
theorem jf_145_1783 : jG m_L_law 1783 (.iload 27) [] (.null) 1785 := ⟨rfl, rfl⟩
set_option maxRecDepth 100000 in
theorem jf_145_1785 : jG m_L_law 1785 (.iadd) [] (.null) 1786 := ⟨rfl, rfl⟩
set_option maxRecDepth 100000 in
theorem jf_145_1786 : jG m_L_law 1786 (.iaload) [] (.null) 1787 := ⟨rfl, rfl⟩
set_option maxRecDepth 100000 in
theorem jf_145_1787 : jG m_L_law 1787 (.iload 27) [] (.null) 1789 := ⟨rfl, rfl⟩
set_option maxRecDepth 100000 in
theorem jf_145_1789 : jG m_L_law 1789 (.bipush 7) [] (.null) 1791 := ⟨rfl, rfl⟩
set_option maxRecDepth 100000 in
theorem jf_145_1791 : jG m_L_law 1791 (.iand) [] (.null) 1792 := ⟨rfl, rfl⟩
set_option maxRecDepth 100000 in
theorem jf_145_1792 : jG m_L_law 1792 (.ishr) [] (.null) 1793 := ⟨rfl, rfl⟩
set_option maxRecDepth 100000 in
theorem jf_145_1793 : jG m_L_law 1793 (.i2s) [] (.null) 1794 := ⟨rfl, rfl⟩
set_option maxRecDepth 100000 in
theorem jf_145_1794 : jG m_L_law 1794 (.i2l) [] (.null) 1795 := ⟨rfl, rfl⟩
set_option maxRecDepth 100000 in
theorem jf_145_1795 : jG m_L_law 1795 (.invokevirtual 52) [6, 2, 0, m_B_feed] (.null) 1798 := ⟨rfl, rfl⟩
set_option maxRecDepth 100000 in
theorem jf_145_1798 : jG m_L_law 1798 (.iconst 1) [] (.null) 1799 := ⟨rfl, rfl⟩
set_option maxRecDepth 100000 in
theorem jf_145_1799 : jG m_L_law 1799 (.if_icmp .ne 24) [1823] (.null) 1802 := ⟨rfl, rfl⟩
set_option maxRecDepth 100000 in
theorem jf_145_1802 : jG m_L_law 1802 (.aload_n 2) [] (.null) 1803 := ⟨rfl, rfl⟩
set_option maxRecDepth 100000 in
theorem jf_145_1803 : jG m_L_law 1803 (.iconst 2) [] (.null) 1804 := ⟨rfl, rfl⟩
set_option maxRecDepth 100000 in
theorem jf_145_1804 : jG m_L_law 1804 (.iload 27) [] (.null) 1806 := ⟨rfl, rfl⟩
set_option maxRecDepth 100000 in
theorem jf_145_1806 : jG m_L_law 1806 (.invokevirtual 56) [6, 2, 0, m_B_output] (.null) 1809 := ⟨rfl, rfl⟩
set_option maxRecDepth 100000 in
theorem jf_145_1809 : jG m_L_law 1809 (.aload 26) [] (.null) 1811 := ⟨rfl, rfl⟩
set_option maxRecDepth 100000 in
theorem jf_145_1811 : jG m_L_law 1811 (.iload 27) [] (.null) 1813 := ⟨rfl, rfl⟩
set_option maxRecDepth 100000 in
theorem jf_145_1813 : jG m_L_law 1813 (.iaload) [] (.null) 1814 := ⟨rfl, rfl⟩
set_option maxRecDepth 100000 in
theorem jf_145_1814 : jG m_L_law 1814 (.i2l) [] (.null) 1815 := ⟨rfl, rfl⟩
set_option maxRecDepth 100000 in
theorem jf_145_1815 : jG m_L_law 1815 (.lcmp) [] (.null) 1816 := ⟨rfl, rfl⟩
set_option maxRecDepth 100000 in
theorem jf_145_1816 : jG m_L_law 1816 (.ifCond .ne 7) [1823] (.null) 1819 := ⟨rfl, rfl⟩
set_option maxRecDepth 100000 in
theorem jf_145_1819 : jG m_L_law 1819 (.iconst 1) [] (.null) 1820 := ⟨rfl, rfl⟩
set_option maxRecDepth 100000 in
theorem jf_145_1820 : jG m_L_law 1820 (.goto 4) [1824] (.null) 1823 := ⟨rfl, rfl⟩
set_option maxRecDepth 100000 in
theorem jf_145_1823 : jG m_L_law 1823 (.iconst 0) [] (.null) 1824 := ⟨rfl, rfl⟩
set_option maxRecDepth 100000 in
theorem jf_145_1824 : jG m_L_law 1824 (.istore 10) [] (.null) 1826 := ⟨rfl, rfl⟩
set_option maxRecDepth 100000 in
theorem jf_145_1826 : jG m_L_law 1826 (.iinc 27 1) [] (.null) 1829 := ⟨rfl, rfl⟩
set_option maxRecDepth 100000 in
theorem jf_145_1829 : jG m_L_law 1829 (.goto (-63)) [1766] (.null) 1832 := ⟨rfl, rfl⟩
set_option maxRecDepth 100000 in
theorem jf_145_1832 : jG m_L_law 1832 (.iload 10) [] (.null) 1834 := ⟨rfl, rfl⟩
set_option maxRecDepth 100000 in
theorem jf_145_1834 : jG m_L_law 1834 (.ifCond .eq 23) [1857] (.null) 1837 := ⟨rfl, rfl⟩
set_option maxRecDepth 100000 in
theorem jf_145_1837 : jG m_L_law 1837 (.aload_n 2) [] (.null) 1838 := ⟨rfl, rfl⟩
set_option maxRecDepth 100000 in
theorem jf_145_1838 : jG m_L_law 1838 (.iconst 0) [] (.null) 1839 := ⟨rfl, rfl⟩
set_option maxRecDepth 100000 in
theorem jf_145_1839 : jG m_L_law 1839 (.invokevirtual 77) [6, 1, 0, m_B_back] (.null) 1842 := ⟨rfl, rfl⟩
set_option maxRecDepth 100000 in
theorem jf_145_1842 : jG m_L_law 1842 (.ifCond .eq 15) [1857] (.null) 1845 := ⟨rfl, rfl⟩
set_option maxRecDepth 100000 in
theorem jf_145_1845 : jG m_L_law 1845 (.aload_n 2) [] (.null) 1846 := ⟨rfl, rfl⟩
set_option maxRecDepth 100000 in
theorem jf_145_1846 : jG m_L_law 1846 (.iconst 0) [] (.null) 1847 := ⟨rfl, rfl⟩
set_option maxRecDepth 100000 in
theorem jf_145_1847 : jG m_L_law 1847 (.invokevirtual 81) [6, 1, 0, m_B_same] (.null) 1850 := ⟨rfl, rfl⟩
set_option maxRecDepth 100000 in
theorem jf_145_1850 : jG m_L_law 1850 (.ifCond .eq 7) [1857] (.null) 1853 := ⟨rfl, rfl⟩
set_option maxRecDepth 100000 in
theorem jf_145_1853 : jG m_L_law 1853 (.iconst 1) [] (.null) 1854 := ⟨rfl, rfl⟩
set_option maxRecDepth 100000 in
theorem jf_145_1854 : jG m_L_law 1854 (.goto 4) [1858] (.null) 1857 := ⟨rfl, rfl⟩
set_option maxRecDepth 100000 in
theorem jf_145_1857 : jG m_L_law 1857 (.iconst 0) [] (.null) 1858 := ⟨rfl, rfl⟩
set_option maxRecDepth 100000 in
theorem jf_145_1858 : jG m_L_law 1858 (.ireturn) [] (.null) 1859 := ⟨rfl, rfl⟩
