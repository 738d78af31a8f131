/-! facts of the tables (printed by wip/whole/dec.py) -/
set_option maxRecDepth 100000 in
theorem jf_269_0 : jG m_L_law 0 (.new 7) [0] (.null) 3 := ⟨rfl, rfl⟩
set_option maxRecDepth 100000 in
theorem jf_269_3 : jG m_L_law 3 (.dup) [] (.null) 4 := ⟨rfl, rfl⟩
set_option maxRecDepth 100000 in
theorem jf_269_4 : jG m_L_law 4 (.invokespecial 9) [1, m_B_init, 0] (.null) 7 := ⟨rfl, rfl⟩
set_option maxRecDepth 100000 in
theorem jf_269_7 : jG m_L_law 7 (.astore_n 1) [] (.null) 8 := ⟨rfl, rfl⟩
set_option maxRecDepth 100000 in
theorem jf_269_8 : jG m_L_law 8 (.new 10) [9] (.null) 11 := ⟨rfl, rfl⟩
set_option maxRecDepth 100000 in
theorem jf_269_11 : jG m_L_law 11 (.dup) [] (.null) 12 := ⟨rfl, rfl⟩
set_option maxRecDepth 100000 in
theorem jf_269_12 : jG m_L_law 12 (.invokespecial 12) [1, m_R_init, 0] (.null) 15 := ⟨rfl, rfl⟩
set_option maxRecDepth 100000 in
theorem jf_269_15 : jG m_L_law 15 (.astore_n 2) [] (.null) 16 := ⟨rfl, rfl⟩
set_option maxRecDepth 100000 in
theorem jf_269_16 : jG m_L_law 16 (.iconst 0) [] (.null) 17 := ⟨rfl, rfl⟩
set_option maxRecDepth 100000 in
theorem jf_269_17 : jG m_L_law 17 (.istore_n 3) [] (.null) 18 := ⟨rfl, rfl⟩
set_option maxRecDepth 100000 in
theorem jf_269_18 : jG m_L_law 18 (.iload_n 3) [] (.null) 19 := ⟨rfl, rfl⟩
set_option maxRecDepth 100000 in
theorem jf_269_19 : jG m_L_law 19 (.aload_n 0) [] (.null) 20 := ⟨rfl, rfl⟩
set_option maxRecDepth 100000 in
theorem jf_269_20 : jG m_L_law 20 (.arraylength) [] (.null) 21 := ⟨rfl, rfl⟩
set_option maxRecDepth 100000 in
theorem jf_269_21 : jG m_L_law 21 (.bipush 7) [] (.null) 23 := ⟨rfl, rfl⟩
set_option maxRecDepth 100000 in
theorem jf_269_23 : jG m_L_law 23 (.isub) [] (.null) 24 := ⟨rfl, rfl⟩
set_option maxRecDepth 100000 in
theorem jf_269_24 : jG m_L_law 24 (.if_icmp .gt 1061) [1085] (.null) 27 := ⟨rfl, rfl⟩
set_option maxRecDepth 100000 in
theorem jf_269_27 : jG m_L_law 27 (.aload_n 0) [] (.null) 28 := ⟨rfl, rfl⟩
set_option maxRecDepth 100000 in
theorem jf_269_28 : jG m_L_law 28 (.iload_n 3) [] (.null) 29 := ⟨rfl, rfl⟩
set_option maxRecDepth 100000 in
theorem jf_269_29 : jG m_L_law 29 (.iaload) [] (.null) 30 := ⟨rfl, rfl⟩
set_option maxRecDepth 100000 in
theorem jf_269_30 : jG m_L_law 30 (.bipush 31) [] (.null) 32 := ⟨rfl, rfl⟩
set_option maxRecDepth 100000 in
theorem jf_269_32 : jG m_L_law 32 (.iand) [] (.null) 33 := ⟨rfl, rfl⟩
set_option maxRecDepth 100000 in
theorem jf_269_33 : jG m_L_law 33 (.tableswitch 1046 0 24 #[115, 158, 231, 284, 327, 340, 373, 468, 501, 564, 607, 641, 675, 708, 742, 765, 788, 811, 834, 857, 880, 923, 956, 990, 1013]) [1079, 148, 191, 264, 317, 360, 373, 406, 501, 534, 597, 640, 674, 708, 741, 775, 798, 821, 844, 867, 890, 913, 956, 989, 1023, 1046] (.null) 34 := ⟨rfl, rfl⟩
set_option maxRecDepth 100000 in
theorem jf_269_148 : jG m_L_law 148 (.aload_n 1) [] (.null) 149 := ⟨rfl, rfl⟩
set_option maxRecDepth 100000 in
theorem jf_269_149 : jG m_L_law 149 (.aload_n 0) [] (.null) 150 := ⟨rfl, rfl⟩
set_option maxRecDepth 100000 in
theorem jf_269_150 : jG m_L_law 150 (.iload_n 3) [] (.null) 151 := ⟨rfl, rfl⟩
set_option maxRecDepth 100000 in
theorem jf_269_151 : jG m_L_law 151 (.iconst 1) [] (.null) 152 := ⟨rfl, rfl⟩
set_option maxRecDepth 100000 in
theorem jf_269_152 : jG m_L_law 152 (.iadd) [] (.null) 153 := ⟨rfl, rfl⟩
set_option maxRecDepth 100000 in
theorem jf_269_153 : jG m_L_law 153 (.iaload) [] (.null) 154 := ⟨rfl, rfl⟩
set_option maxRecDepth 100000 in
theorem jf_269_154 : jG m_L_law 154 (.aload_n 0) [] (.null) 155 := ⟨rfl, rfl⟩
set_option maxRecDepth 100000 in
theorem jf_269_155 : jG m_L_law 155 (.iload_n 3) [] (.null) 156 := ⟨rfl, rfl⟩
set_option maxRecDepth 100000 in
theorem jf_269_156 : jG m_L_law 156 (.iconst 2) [] (.null) 157 := ⟨rfl, rfl⟩
set_option maxRecDepth 100000 in
theorem jf_269_157 : jG m_L_law 157 (.iadd) [] (.null) 158 := ⟨rfl, rfl⟩
set_option maxRecDepth 100000 in
theorem jf_269_158 : jG m_L_law 158 (.iaload) [] (.null) 159 := ⟨rfl, rfl⟩
set_option maxRecDepth 100000 in
theorem jf_269_159 : jG m_L_law 159 (.aload_n 0) [] (.null) 160 := ⟨rfl, rfl⟩
set_option maxRecDepth 100000 in
theorem jf_269_160 : jG m_L_law 160 (.iload_n 3) [] (.null) 161 := ⟨rfl, rfl⟩
set_option maxRecDepth 100000 in
theorem jf_269_161 : jG m_L_law 161 (.iconst 3) [] (.null) 162 := ⟨rfl, rfl⟩
set_option maxRecDepth 100000 in
theorem jf_269_162 : jG m_L_law 162 (.iadd) [] (.null) 163 := ⟨rfl, rfl⟩
set_option maxRecDepth 100000 in
theorem jf_269_163 : jG m_L_law 163 (.iaload) [] (.null) 164 := ⟨rfl, rfl⟩
set_option maxRecDepth 100000 in
theorem jf_269_164 : jG m_L_law 164 (.invokevirtual 13) [6, 3, 0, m_B_section] (.null) 167 := ⟨rfl, rfl⟩
set_option maxRecDepth 100000 in
theorem jf_269_167 : jG m_L_law 167 (.aload_n 2) [] (.null) 168 := ⟨rfl, rfl⟩
set_option maxRecDepth 100000 in
theorem jf_269_168 : jG m_L_law 168 (.aload_n 0) [] (.null) 169 := ⟨rfl, rfl⟩
set_option maxRecDepth 100000 in
theorem jf_269_169 : jG m_L_law 169 (.iload_n 3) [] (.null) 170 := ⟨rfl, rfl⟩
set_option maxRecDepth 100000 in
theorem jf_269_170 : jG m_L_law 170 (.iconst 1) [] (.null) 171 := ⟨rfl, rfl⟩
set_option maxRecDepth 100000 in
theorem jf_269_171 : jG m_L_law 171 (.iadd) [] (.null) 172 := ⟨rfl, rfl⟩
set_option maxRecDepth 100000 in
theorem jf_269_172 : jG m_L_law 172 (.iaload) [] (.null) 173 := ⟨rfl, rfl⟩
set_option maxRecDepth 100000 in
theorem jf_269_173 : jG m_L_law 173 (.aload_n 0) [] (.null) 174 := ⟨rfl, rfl⟩
set_option maxRecDepth 100000 in
theorem jf_269_174 : jG m_L_law 174 (.iload_n 3) [] (.null) 175 := ⟨rfl, rfl⟩
set_option maxRecDepth 100000 in
theorem jf_269_175 : jG m_L_law 175 (.iconst 2) [] (.null) 176 := ⟨rfl, rfl⟩
set_option maxRecDepth 100000 in
theorem jf_269_176 : jG m_L_law 176 (.iadd) [] (.null) 177 := ⟨rfl, rfl⟩
set_option maxRecDepth 100000 in
theorem jf_269_177 : jG m_L_law 177 (.iaload) [] (.null) 178 := ⟨rfl, rfl⟩
set_option maxRecDepth 100000 in
theorem jf_269_178 : jG m_L_law 178 (.aload_n 0) [] (.null) 179 := ⟨rfl, rfl⟩
set_option maxRecDepth 100000 in
theorem jf_269_179 : jG m_L_law 179 (.iload_n 3) [] (.null) 180 := ⟨rfl, rfl⟩
set_option maxRecDepth 100000 in
theorem jf_269_180 : jG m_L_law 180 (.iconst 3) [] (.null) 181 := ⟨rfl, rfl⟩
set_option maxRecDepth 100000 in
theorem jf_269_181 : jG m_L_law 181 (.iadd) [] (.null) 182 := ⟨rfl, rfl⟩
set_option maxRecDepth 100000 in
theorem jf_269_182 : jG m_L_law 182 (.iaload) [] (.null) 183 := ⟨rfl, rfl⟩
set_option maxRecDepth 100000 in
theorem jf_269_183 : jG m_L_law 183 (.invokevirtual 17) [6, 3, 9, m_R_section] (.null) 186 := ⟨rfl, rfl⟩
set_option maxRecDepth 100000 in
theorem jf_269_186 : jG m_L_law 186 (.if_icmp .eq 893) [1079] (.null) 189 := ⟨rfl, rfl⟩
set_option maxRecDepth 100000 in
theorem jf_269_189 : jG m_L_law 189 (.iconst 0) [] (.null) 190 := ⟨rfl, rfl⟩
set_option maxRecDepth 100000 in
theorem jf_269_190 : jG m_L_law 190 (.ireturn) [] (.null) 191 := ⟨rfl, rfl⟩
set_option maxRecDepth 100000 in
theorem jf_269_191 : jG m_L_law 191 (.aload_n 1) [] (.null) 192 := ⟨rfl, rfl⟩
set_option maxRecDepth 100000 in
theorem jf_269_192 : jG m_L_law 192 (.aload_n 0) [] (.null) 193 := ⟨rfl, rfl⟩
set_option maxRecDepth 100000 in
theorem jf_269_193 : jG m_L_law 193 (.iload_n 3) [] (.null) 194 := ⟨rfl, rfl⟩
set_option maxRecDepth 100000 in
theorem jf_269_194 : jG m_L_law 194 (.iconst 1) [] (.null) 195 := ⟨rfl, rfl⟩
set_option maxRecDepth 100000 in
theorem jf_269_195 : jG m_L_law 195 (.iadd) [] (.null) 196 := ⟨rfl, rfl⟩
set_option maxRecDepth 100000 in
theorem jf_269_196 : jG m_L_law 196 (.iaload) [] (.null) 197 := ⟨rfl, rfl⟩
set_option maxRecDepth 100000 in
theorem jf_269_197 : jG m_L_law 197 (.aload_n 0) [] (.null) 198 := ⟨rfl, rfl⟩
set_option maxRecDepth 100000 in
theorem jf_269_198 : jG m_L_law 198 (.iload_n 3) [] (.null) 199 := ⟨rfl, rfl⟩
set_option maxRecDepth 100000 in
theorem jf_269_199 : jG m_L_law 199 (.iconst 2) [] (.null) 200 := ⟨rfl, rfl⟩
set_option maxRecDepth 100000 in
theorem jf_269_200 : jG m_L_law 200 (.iadd) [] (.null) 201 := ⟨rfl, rfl⟩
set_option maxRecDepth 100000 in
theorem jf_269_201 : jG m_L_law 201 (.iaload) [] (.null) 202 := ⟨rfl, rfl⟩
set_option maxRecDepth 100000 in
theorem jf_269_202 : jG m_L_law 202 (.aload_n 0) [] (.null) 203 := ⟨rfl, rfl⟩
set_option maxRecDepth 100000 in
theorem jf_269_203 : jG m_L_law 203 (.iload_n 3) [] (.null) 204 := ⟨rfl, rfl⟩
set_option maxRecDepth 100000 in
theorem jf_269_204 : jG m_L_law 204 (.iconst 3) [] (.null) 205 := ⟨rfl, rfl⟩
set_option maxRecDepth 100000 in
theorem jf_269_205 : jG m_L_law 205 (.iadd) [] (.null) 206 := ⟨rfl, rfl⟩
set_option maxRecDepth 100000 in
theorem jf_269_206 : jG m_L_law 206 (.iaload) [] (.null) 207 := ⟨rfl, rfl⟩
set_option maxRecDepth 100000 in
theorem jf_269_207 : jG m_L_law 207 (.i2l) [] (.null) 208 := ⟨rfl, rfl⟩
set_option maxRecDepth 100000 in
theorem jf_269_208 : jG m_L_law 208 (.bipush 32) [] (.null) 210 := ⟨rfl, rfl⟩
set_option maxRecDepth 100000 in
theorem jf_269_210 : jG m_L_law 210 (.lshl) [] (.null) 211 := ⟨rfl, rfl⟩
set_option maxRecDepth 100000 in
theorem jf_269_211 : jG m_L_law 211 (.aload_n 0) [] (.null) 212 := ⟨rfl, rfl⟩
set_option maxRecDepth 100000 in
theorem jf_269_212 : jG m_L_law 212 (.iload_n 3) [] (.null) 213 := ⟨rfl, rfl⟩
set_option maxRecDepth 100000 in
theorem jf_269_213 : jG m_L_law 213 (.iconst 4) [] (.null) 214 := ⟨rfl, rfl⟩
set_option maxRecDepth 100000 in
theorem jf_269_214 : jG m_L_law 214 (.iadd) [] (.null) 215 := ⟨rfl, rfl⟩
set_option maxRecDepth 100000 in
theorem jf_269_215 : jG m_L_law 215 (.iaload) [] (.null) 216 := ⟨rfl, rfl⟩
set_option maxRecDepth 100000 in
theorem jf_269_216 : jG m_L_law 216 (.i2l) [] (.null) 217 := ⟨rfl, rfl⟩
set_option maxRecDepth 100000 in
theorem jf_269_217 : jG m_L_law 217 (.ldc2_w 18) [] (.long (4294967295)) 220 := ⟨rfl, rfl⟩
set_option maxRecDepth 100000 in
theorem jf_269_220 : jG m_L_law 220 (.land) [] (.null) 221 := ⟨rfl, rfl⟩
set_option maxRecDepth 100000 in
theorem jf_269_221 : jG m_L_law 221 (.lor) [] (.null) 222 := ⟨rfl, rfl⟩
set_option maxRecDepth 100000 in
theorem jf_269_222 : jG m_L_law 222 (.invokevirtual 20) [6, 3, 0, m_B_coefficient] (.null) 225 := ⟨rfl, rfl⟩
set_option maxRecDepth 100000 in
theorem jf_269_225 : jG m_L_law 225 (.aload_n 2) [] (.null) 226 := ⟨rfl, rfl⟩
set_option maxRecDepth 100000 in
theorem jf_269_226 : jG m_L_law 226 (.aload_n 0) [] (.null) 227 := ⟨rfl, rfl⟩
set_option maxRecDepth 100000 in
theorem jf_269_227 : jG m_L_law 227 (.iload_n 3) [] (.null) 228 := ⟨rfl, rfl⟩
set_option maxRecDepth 100000 in
theorem jf_269_228 : jG m_L_law 228 (.iconst 1) [] (.null) 229 := ⟨rfl, rfl⟩
set_option maxRecDepth 100000 in
theorem jf_269_229 : jG m_L_law 229 (.iadd) [] (.null) 230 := ⟨rfl, rfl⟩
set_option maxRecDepth 100000 in
theorem jf_269_230 : jG m_L_law 230 (.iaload) [] (.null) 231 := ⟨rfl, rfl⟩
set_option maxRecDepth 100000 in
theorem jf_269_231 : jG m_L_law 231 (.aload_n 0) [] (.null) 232 := ⟨rfl, rfl⟩
set_option maxRecDepth 100000 in
theorem jf_269_232 : jG m_L_law 232 (.iload_n 3) [] (.null) 233 := ⟨rfl, rfl⟩
set_option maxRecDepth 100000 in
theorem jf_269_233 : jG m_L_law 233 (.iconst 2) [] (.null) 234 := ⟨rfl, rfl⟩
set_option maxRecDepth 100000 in
theorem jf_269_234 : jG m_L_law 234 (.iadd) [] (.null) 235 := ⟨rfl, rfl⟩
set_option maxRecDepth 100000 in
theorem jf_269_235 : jG m_L_law 235 (.iaload) [] (.null) 236 := ⟨rfl, rfl⟩
set_option maxRecDepth 100000 in
theorem jf_269_236 : jG m_L_law 236 (.aload_n 0) [] (.null) 237 := ⟨rfl, rfl⟩
set_option maxRecDepth 100000 in
theorem jf_269_237 : jG m_L_law 237 (.iload_n 3) [] (.null) 238 := ⟨rfl, rfl⟩
set_option maxRecDepth 100000 in
theorem jf_269_238 : jG m_L_law 238 (.iconst 3) [] (.null) 239 := ⟨rfl, rfl⟩
set_option maxRecDepth 100000 in
theorem jf_269_239 : jG m_L_law 239 (.iadd) [] (.null) 240 := ⟨rfl, rfl⟩
set_option maxRecDepth 100000 in
theorem jf_269_240 : jG m_L_law 240 (.iaload) [] (.null) 241 := ⟨rfl, rfl⟩
set_option maxRecDepth 100000 in
theorem jf_269_241 : jG m_L_law 241 (.i2l) [] (.null) 242 := ⟨rfl, rfl⟩
set_option maxRecDepth 100000 in
theorem jf_269_242 : jG m_L_law 242 (.bipush 32) [] (.null) 244 := ⟨rfl, rfl⟩
set_option maxRecDepth 100000 in
theorem jf_269_244 : jG m_L_law 244 (.lshl) [] (.null) 245 := ⟨rfl, rfl⟩
set_option maxRecDepth 100000 in
theorem jf_269_245 : jG m_L_law 245 (.aload_n 0) [] (.null) 246 := ⟨rfl, rfl⟩
set_option maxRecDepth 100000 in
theorem jf_269_246 : jG m_L_law 246 (.iload_n 3) [] (.null) 247 := ⟨rfl, rfl⟩
set_option maxRecDepth 100000 in
theorem jf_269_247 : jG m_L_law 247 (.iconst 4) [] (.null) 248 := ⟨rfl, rfl⟩
set_option maxRecDepth 100000 in
theorem jf_269_248 : jG m_L_law 248 (.iadd) [] (.null) 249 := ⟨rfl, rfl⟩
set_option maxRecDepth 100000 in
theorem jf_269_249 : jG m_L_law 249 (.iaload) [] (.null) 250 := ⟨rfl, rfl⟩
set_option maxRecDepth 100000 in
theorem jf_269_250 : jG m_L_law 250 (.i2l) [] (.null) 251 := ⟨rfl, rfl⟩
set_option maxRecDepth 100000 in
theorem jf_269_251 : jG m_L_law 251 (.ldc2_w 18) [] (.long (4294967295)) 254 := ⟨rfl, rfl⟩
set_option maxRecDepth 100000 in
theorem jf_269_254 : jG m_L_law 254 (.land) [] (.null) 255 := ⟨rfl, rfl⟩
set_option maxRecDepth 100000 in
theorem jf_269_255 : jG m_L_law 255 (.lor) [] (.null) 256 := ⟨rfl, rfl⟩
set_option maxRecDepth 100000 in
theorem jf_269_256 : jG m_L_law 256 (.invokevirtual 24) [6, 3, 9, m_R_coefficient] (.null) 259 := ⟨rfl, rfl⟩
set_option maxRecDepth 100000 in
theorem jf_269_259 : jG m_L_law 259 (.if_icmp .eq 820) [1079] (.null) 262 := ⟨rfl, rfl⟩
set_option maxRecDepth 100000 in
theorem jf_269_262 : jG m_L_law 262 (.iconst 0) [] (.null) 263 := ⟨rfl, rfl⟩
set_option maxRecDepth 100000 in
theorem jf_269_263 : jG m_L_law 263 (.ireturn) [] (.null) 264 := ⟨rfl, rfl⟩
set_option maxRecDepth 100000 in
theorem jf_269_264 : jG m_L_law 264 (.aload_n 1) [] (.null) 265 := ⟨rfl, rfl⟩
set_option maxRecDepth 100000 in
theorem jf_269_265 : jG m_L_law 265 (.aload_n 0) [] (.null) 266 := ⟨rfl, rfl⟩
set_option maxRecDepth 100000 in
theorem jf_269_266 : jG m_L_law 266 (.iload_n 3) [] (.null) 267 := ⟨rfl, rfl⟩
set_option maxRecDepth 100000 in
theorem jf_269_267 : jG m_L_law 267 (.iconst 1) [] (.null) 268 := ⟨rfl, rfl⟩
set_option maxRecDepth 100000 in
theorem jf_269_268 : jG m_L_law 268 (.iadd) [] (.null) 269 := ⟨rfl, rfl⟩
set_option maxRecDepth 100000 in
theorem jf_269_269 : jG m_L_law 269 (.iaload) [] (.null) 270 := ⟨rfl, rfl⟩
set_option maxRecDepth 100000 in
theorem jf_269_270 : jG m_L_law 270 (.aload_n 0) [] (.null) 271 := ⟨rfl, rfl⟩
set_option maxRecDepth 100000 in
theorem jf_269_271 : jG m_L_law 271 (.iload_n 3) [] (.null) 272 := ⟨rfl, rfl⟩
set_option maxRecDepth 100000 in
theorem jf_269_272 : jG m_L_law 272 (.iconst 2) [] (.null) 273 := ⟨rfl, rfl⟩
set_option maxRecDepth 100000 in
theorem jf_269_273 : jG m_L_law 273 (.iadd) [] (.null) 274 := ⟨rfl, rfl⟩
set_option maxRecDepth 100000 in
theorem jf_269_274 : jG m_L_law 274 (.iaload) [] (.null) 275 := ⟨rfl, rfl⟩
set_option maxRecDepth 100000 in
theorem jf_269_275 : jG m_L_law 275 (.aload_n 0) [] (.null) 276 := ⟨rfl, rfl⟩
set_option maxRecDepth 100000 in
theorem jf_269_276 : jG m_L_law 276 (.iload_n 3) [] (.null) 277 := ⟨rfl, rfl⟩
set_option maxRecDepth 100000 in
theorem jf_269_277 : jG m_L_law 277 (.iconst 3) [] (.null) 278 := ⟨rfl, rfl⟩
set_option maxRecDepth 100000 in
theorem jf_269_278 : jG m_L_law 278 (.iadd) [] (.null) 279 := ⟨rfl, rfl⟩
set_option maxRecDepth 100000 in
theorem jf_269_279 : jG m_L_law 279 (.iaload) [] (.null) 280 := ⟨rfl, rfl⟩
set_option maxRecDepth 100000 in
theorem jf_269_280 : jG m_L_law 280 (.aload_n 0) [] (.null) 281 := ⟨rfl, rfl⟩
set_option maxRecDepth 100000 in
theorem jf_269_281 : jG m_L_law 281 (.iload_n 3) [] (.null) 282 := ⟨rfl, rfl⟩
set_option maxRecDepth 100000 in
theorem jf_269_282 : jG m_L_law 282 (.iconst 4) [] (.null) 283 := ⟨rfl, rfl⟩
set_option maxRecDepth 100000 in
theorem jf_269_283 : jG m_L_law 283 (.iadd) [] (.null) 284 := ⟨rfl, rfl⟩
set_option maxRecDepth 100000 in
theorem jf_269_284 : jG m_L_law 284 (.iaload) [] (.null) 285 := ⟨rfl, rfl⟩
set_option maxRecDepth 100000 in
theorem jf_269_285 : jG m_L_law 285 (.invokevirtual 25) [6, 4, 0, m_B_ratio] (.null) 288 := ⟨rfl, rfl⟩
set_option maxRecDepth 100000 in
theorem jf_269_288 : jG m_L_law 288 (.aload_n 2) [] (.null) 289 := ⟨rfl, rfl⟩
set_option maxRecDepth 100000 in
theorem jf_269_289 : jG m_L_law 289 (.aload_n 0) [] (.null) 290 := ⟨rfl, rfl⟩
set_option maxRecDepth 100000 in
theorem jf_269_290 : jG m_L_law 290 (.iload_n 3) [] (.null) 291 := ⟨rfl, rfl⟩
set_option maxRecDepth 100000 in
theorem jf_269_291 : jG m_L_law 291 (.iconst 1) [] (.null) 292 := ⟨rfl, rfl⟩
set_option maxRecDepth 100000 in
theorem jf_269_292 : jG m_L_law 292 (.iadd) [] (.null) 293 := ⟨rfl, rfl⟩
set_option maxRecDepth 100000 in
theorem jf_269_293 : jG m_L_law 293 (.iaload) [] (.null) 294 := ⟨rfl, rfl⟩
set_option maxRecDepth 100000 in
theorem jf_269_294 : jG m_L_law 294 (.aload_n 0) [] (.null) 295 := ⟨rfl, rfl⟩
set_option maxRecDepth 100000 in
theorem jf_269_295 : jG m_L_law 295 (.iload_n 3) [] (.null) 296 := ⟨rfl, rfl⟩
set_option maxRecDepth 100000 in
theorem jf_269_296 : jG m_L_law 296 (.iconst 2) [] (.null) 297 := ⟨rfl, rfl⟩
set_option maxRecDepth 100000 in
theorem jf_269_297 : jG m_L_law 297 (.iadd) [] (.null) 298 := ⟨rfl, rfl⟩
set_option maxRecDepth 100000 in
theorem jf_269_298 : jG m_L_law 298 (.iaload) [] (.null) 299 := ⟨rfl, rfl⟩
set_option maxRecDepth 100000 in
theorem jf_269_299 : jG m_L_law 299 (.aload_n 0) [] (.null) 300 := ⟨rfl, rfl⟩
set_option maxRecDepth 100000 in
theorem jf_269_300 : jG m_L_law 300 (.iload_n 3) [] (.null) 301 := ⟨rfl, rfl⟩
set_option maxRecDepth 100000 in
theorem jf_269_301 : jG m_L_law 301 (.iconst 3) [] (.null) 302 := ⟨rfl, rfl⟩
set_option maxRecDepth 100000 in
theorem jf_269_302 : jG m_L_law 302 (.iadd) [] (.null) 303 := ⟨rfl, rfl⟩
set_option maxRecDepth 100000 in
theorem jf_269_303 : jG m_L_law 303 (.iaload) [] (.null) 304 := ⟨rfl, rfl⟩
set_option maxRecDepth 100000 in
theorem jf_269_304 : jG m_L_law 304 (.aload_n 0) [] (.null) 305 := ⟨rfl, rfl⟩
set_option maxRecDepth 100000 in
theorem jf_269_305 : jG m_L_law 305 (.iload_n 3) [] (.null) 306 := ⟨rfl, rfl⟩
set_option maxRecDepth 100000 in
theorem jf_269_306 : jG m_L_law 306 (.iconst 4) [] (.null) 307 := ⟨rfl, rfl⟩
set_option maxRecDepth 100000 in
theorem jf_269_307 : jG m_L_law 307 (.iadd) [] (.null) 308 := ⟨rfl, rfl⟩
set_option maxRecDepth 100000 in
theorem jf_269_308 : jG m_L_law 308 (.iaload) [] (.null) 309 := ⟨rfl, rfl⟩
set_option maxRecDepth 100000 in
theorem jf_269_309 : jG m_L_law 309 (.invokevirtual 29) [6, 4, 9, m_R_ratio] (.null) 312 := ⟨rfl, rfl⟩
set_option maxRecDepth 100000 in
theorem jf_269_312 : jG m_L_law 312 (.if_icmp .eq 767) [1079] (.null) 315 := ⟨rfl, rfl⟩
set_option maxRecDepth 100000 in
theorem jf_269_315 : jG m_L_law 315 (.iconst 0) [] (.null) 316 := ⟨rfl, rfl⟩
set_option maxRecDepth 100000 in
theorem jf_269_316 : jG m_L_law 316 (.ireturn) [] (.null) 317 := ⟨rfl, rfl⟩
set_option maxRecDepth 100000 in
theorem jf_269_317 : jG m_L_law 317 (.aload_n 1) [] (.null) 318 := ⟨rfl, rfl⟩
set_option maxRecDepth 100000 in
theorem jf_269_318 : jG m_L_law 318 (.aload_n 0) [] (.null) 319 := ⟨rfl, rfl⟩
set_option maxRecDepth 100000 in
theorem jf_269_319 : jG m_L_law 319 (.iload_n 3) [] (.null) 320 := ⟨rfl, rfl⟩
set_option maxRecDepth 100000 in
theorem jf_269_320 : jG m_L_law 320 (.iconst 1) [] (.null) 321 := ⟨rfl, rfl⟩
set_option maxRecDepth 100000 in
theorem jf_269_321 : jG m_L_law 321 (.iadd) [] (.null) 322 := ⟨rfl, rfl⟩
set_option maxRecDepth 100000 in
theorem jf_269_322 : jG m_L_law 322 (.iaload) [] (.null) 323 := ⟨rfl, rfl⟩
set_option maxRecDepth 100000 in
theorem jf_269_323 : jG m_L_law 323 (.aload_n 0) [] (.null) 324 := ⟨rfl, rfl⟩
set_option maxRecDepth 100000 in
theorem jf_269_324 : jG m_L_law 324 (.iload_n 3) [] (.null) 325 := ⟨rfl, rfl⟩
set_option maxRecDepth 100000 in
theorem jf_269_325 : jG m_L_law 325 (.iconst 2) [] (.null) 326 := ⟨rfl, rfl⟩
set_option maxRecDepth 100000 in
theorem jf_269_326 : jG m_L_law 326 (.iadd) [] (.null) 327 := ⟨rfl, rfl⟩
set_option maxRecDepth 100000 in
theorem jf_269_327 : jG m_L_law 327 (.iaload) [] (.null) 328 := ⟨rfl, rfl⟩
set_option maxRecDepth 100000 in
theorem jf_269_328 : jG m_L_law 328 (.aload_n 0) [] (.null) 329 := ⟨rfl, rfl⟩
set_option maxRecDepth 100000 in
theorem jf_269_329 : jG m_L_law 329 (.iload_n 3) [] (.null) 330 := ⟨rfl, rfl⟩
set_option maxRecDepth 100000 in
theorem jf_269_330 : jG m_L_law 330 (.iconst 3) [] (.null) 331 := ⟨rfl, rfl⟩
set_option maxRecDepth 100000 in
theorem jf_269_331 : jG m_L_law 331 (.iadd) [] (.null) 332 := ⟨rfl, rfl⟩
set_option maxRecDepth 100000 in
theorem jf_269_332 : jG m_L_law 332 (.iaload) [] (.null) 333 := ⟨rfl, rfl⟩
set_option maxRecDepth 100000 in
theorem jf_269_333 : jG m_L_law 333 (.invokevirtual 30) [6, 3, 0, m_B_rule] (.null) 336 := ⟨rfl, rfl⟩
set_option maxRecDepth 100000 in
theorem jf_269_336 : jG m_L_law 336 (.aload_n 2) [] (.null) 337 := ⟨rfl, rfl⟩
set_option maxRecDepth 100000 in
theorem jf_269_337 : jG m_L_law 337 (.aload_n 0) [] (.null) 338 := ⟨rfl, rfl⟩
set_option maxRecDepth 100000 in
theorem jf_269_338 : jG m_L_law 338 (.iload_n 3) [] (.null) 339 := ⟨rfl, rfl⟩
set_option maxRecDepth 100000 in
theorem jf_269_339 : jG m_L_law 339 (.iconst 1) [] (.null) 340 := ⟨rfl, rfl⟩
set_option maxRecDepth 100000 in
theorem jf_269_340 : jG m_L_law 340 (.iadd) [] (.null) 341 := ⟨rfl, rfl⟩
set_option maxRecDepth 100000 in
theorem jf_269_341 : jG m_L_law 341 (.iaload) [] (.null) 342 := ⟨rfl, rfl⟩
set_option maxRecDepth 100000 in
theorem jf_269_342 : jG m_L_law 342 (.aload_n 0) [] (.null) 343 := ⟨rfl, rfl⟩
set_option maxRecDepth 100000 in
theorem jf_269_343 : jG m_L_law 343 (.iload_n 3) [] (.null) 344 := ⟨rfl, rfl⟩
set_option maxRecDepth 100000 in
theorem jf_269_344 : jG m_L_law 344 (.iconst 2) [] (.null) 345 := ⟨rfl, rfl⟩
set_option maxRecDepth 100000 in
theorem jf_269_345 : jG m_L_law 345 (.iadd) [] (.null) 346 := ⟨rfl, rfl⟩
set_option maxRecDepth 100000 in
theorem jf_269_346 : jG m_L_law 346 (.iaload) [] (.null) 347 := ⟨rfl, rfl⟩
set_option maxRecDepth 100000 in
theorem jf_269_347 : jG m_L_law 347 (.aload_n 0) [] (.null) 348 := ⟨rfl, rfl⟩
set_option maxRecDepth 100000 in
theorem jf_269_348 : jG m_L_law 348 (.iload_n 3) [] (.null) 349 := ⟨rfl, rfl⟩
set_option maxRecDepth 100000 in
theorem jf_269_349 : jG m_L_law 349 (.iconst 3) [] (.null) 350 := ⟨rfl, rfl⟩
set_option maxRecDepth 100000 in
theorem jf_269_350 : jG m_L_law 350 (.iadd) [] (.null) 351 := ⟨rfl, rfl⟩
set_option maxRecDepth 100000 in
theorem jf_269_351 : jG m_L_law 351 (.iaload) [] (.null) 352 := ⟨rfl, rfl⟩
set_option maxRecDepth 100000 in
theorem jf_269_352 : jG m_L_law 352 (.invokevirtual 34) [6, 3, 9, m_R_rule] (.null) 355 := ⟨rfl, rfl⟩
set_option maxRecDepth 100000 in
theorem jf_269_355 : jG m_L_law 355 (.if_icmp .eq 724) [1079] (.null) 358 := ⟨rfl, rfl⟩
set_option maxRecDepth 100000 in
theorem jf_269_358 : jG m_L_law 358 (.iconst 0) [] (.null) 359 := ⟨rfl, rfl⟩
set_option maxRecDepth 100000 in
theorem jf_269_359 : jG m_L_law 359 (.ireturn) [] (.null) 360 := ⟨rfl, rfl⟩
set_option maxRecDepth 100000 in
theorem jf_269_360 : jG m_L_law 360 (.aload_n 1) [] (.null) 361 := ⟨rfl, rfl⟩
set_option maxRecDepth 100000 in
theorem jf_269_361 : jG m_L_law 361 (.invokevirtual 35) [6, 0, 0, m_B_chain] (.null) 364 := ⟨rfl, rfl⟩
set_option maxRecDepth 100000 in
theorem jf_269_364 : jG m_L_law 364 (.aload_n 2) [] (.null) 365 := ⟨rfl, rfl⟩
set_option maxRecDepth 100000 in
theorem jf_269_365 : jG m_L_law 365 (.invokevirtual 39) [6, 0, 9, m_R_chain] (.null) 368 := ⟨rfl, rfl⟩
set_option maxRecDepth 100000 in
theorem jf_269_368 : jG m_L_law 368 (.if_icmp .eq 711) [1079] (.null) 371 := ⟨rfl, rfl⟩
set_option maxRecDepth 100000 in
theorem jf_269_371 : jG m_L_law 371 (.iconst 0) [] (.null) 372 := ⟨rfl, rfl⟩
set_option maxRecDepth 100000 in
theorem jf_269_372 : jG m_L_law 372 (.ireturn) [] (.null) 373 := ⟨rfl, rfl⟩
set_option maxRecDepth 100000 in
theorem jf_269_373 : jG m_L_law 373 (.aload_n 1) [] (.null) 374 := ⟨rfl, rfl⟩
set_option maxRecDepth 100000 in
theorem jf_269_374 : jG m_L_law 374 (.aload_n 0) [] (.null) 375 := ⟨rfl, rfl⟩
set_option maxRecDepth 100000 in
theorem jf_269_375 : jG m_L_law 375 (.iload_n 3) [] (.null) 376 := ⟨rfl, rfl⟩
set_option maxRecDepth 100000 in
theorem jf_269_376 : jG m_L_law 376 (.iconst 1) [] (.null) 377 := ⟨rfl, rfl⟩
set_option maxRecDepth 100000 in
theorem jf_269_377 : jG m_L_law 377 (.iadd) [] (.null) 378 := ⟨rfl, rfl⟩
set_option maxRecDepth 100000 in
theorem jf_269_378 : jG m_L_law 378 (.iaload) [] (.null) 379 := ⟨rfl, rfl⟩
set_option maxRecDepth 100000 in
theorem jf_269_379 : jG m_L_law 379 (.aload_n 0) [] (.null) 380 := ⟨rfl, rfl⟩
set_option maxRecDepth 100000 in
theorem jf_269_380 : jG m_L_law 380 (.iload_n 3) [] (.null) 381 := ⟨rfl, rfl⟩
set_option maxRecDepth 100000 in
theorem jf_269_381 : jG m_L_law 381 (.iconst 2) [] (.null) 382 := ⟨rfl, rfl⟩
set_option maxRecDepth 100000 in
theorem jf_269_382 : jG m_L_law 382 (.iadd) [] (.null) 383 := ⟨rfl, rfl⟩
set_option maxRecDepth 100000 in
theorem jf_269_383 : jG m_L_law 383 (.iaload) [] (.null) 384 := ⟨rfl, rfl⟩
set_option maxRecDepth 100000 in
theorem jf_269_384 : jG m_L_law 384 (.invokevirtual 40) [6, 2, 0, m_B_add] (.null) 387 := ⟨rfl, rfl⟩
set_option maxRecDepth 100000 in
theorem jf_269_387 : jG m_L_law 387 (.aload_n 2) [] (.null) 388 := ⟨rfl, rfl⟩
set_option maxRecDepth 100000 in
theorem jf_269_388 : jG m_L_law 388 (.aload_n 0) [] (.null) 389 := ⟨rfl, rfl⟩
set_option maxRecDepth 100000 in
theorem jf_269_389 : jG m_L_law 389 (.iload_n 3) [] (.null) 390 := ⟨rfl, rfl⟩
set_option maxRecDepth 100000 in
theorem jf_269_390 : jG m_L_law 390 (.iconst 1) [] (.null) 391 := ⟨rfl, rfl⟩
set_option maxRecDepth 100000 in
theorem jf_269_391 : jG m_L_law 391 (.iadd) [] (.null) 392 := ⟨rfl, rfl⟩
set_option maxRecDepth 100000 in
theorem jf_269_392 : jG m_L_law 392 (.iaload) [] (.null) 393 := ⟨rfl, rfl⟩
set_option maxRecDepth 100000 in
theorem jf_269_393 : jG m_L_law 393 (.aload_n 0) [] (.null) 394 := ⟨rfl, rfl⟩
set_option maxRecDepth 100000 in
theorem jf_269_394 : jG m_L_law 394 (.iload_n 3) [] (.null) 395 := ⟨rfl, rfl⟩
set_option maxRecDepth 100000 in
theorem jf_269_395 : jG m_L_law 395 (.iconst 2) [] (.null) 396 := ⟨rfl, rfl⟩
set_option maxRecDepth 100000 in
theorem jf_269_396 : jG m_L_law 396 (.iadd) [] (.null) 397 := ⟨rfl, rfl⟩
set_option maxRecDepth 100000 in
theorem jf_269_397 : jG m_L_law 397 (.iaload) [] (.null) 398 := ⟨rfl, rfl⟩
set_option maxRecDepth 100000 in
theorem jf_269_398 : jG m_L_law 398 (.invokevirtual 44) [6, 2, 9, m_R_add] (.null) 401 := ⟨rfl, rfl⟩
set_option maxRecDepth 100000 in
theorem jf_269_401 : jG m_L_law 401 (.if_icmp .eq 678) [1079] (.null) 404 := ⟨rfl, rfl⟩
set_option maxRecDepth 100000 in
theorem jf_269_404 : jG m_L_law 404 (.iconst 0) [] (.null) 405 := ⟨rfl, rfl⟩
set_option maxRecDepth 100000 in
theorem jf_269_405 : jG m_L_law 405 (.ireturn) [] (.null) 406 := ⟨rfl, rfl⟩
set_option maxRecDepth 100000 in
theorem jf_269_406 : jG m_L_law 406 (.aload_n 1) [] (.null) 407 := ⟨rfl, rfl⟩
set_option maxRecDepth 100000 in
theorem jf_269_407 : jG m_L_law 407 (.aload_n 0) [] (.null) 408 := ⟨rfl, rfl⟩
set_option maxRecDepth 100000 in
theorem jf_269_408 : jG m_L_law 408 (.iload_n 3) [] (.null) 409 := ⟨rfl, rfl⟩
set_option maxRecDepth 100000 in
theorem jf_269_409 : jG m_L_law 409 (.iconst 1) [] (.null) 410 := ⟨rfl, rfl⟩
set_option maxRecDepth 100000 in
theorem jf_269_410 : jG m_L_law 410 (.iadd) [] (.null) 411 := ⟨rfl, rfl⟩
set_option maxRecDepth 100000 in
theorem jf_269_411 : jG m_L_law 411 (.iaload) [] (.null) 412 := ⟨rfl, rfl⟩
set_option maxRecDepth 100000 in
theorem jf_269_412 : jG m_L_law 412 (.aload_n 0) [] (.null) 413 := ⟨rfl, rfl⟩
set_option maxRecDepth 100000 in
theorem jf_269_413 : jG m_L_law 413 (.iload_n 3) [] (.null) 414 := ⟨rfl, rfl⟩
set_option maxRecDepth 100000 in
theorem jf_269_414 : jG m_L_law 414 (.iconst 2) [] (.null) 415 := ⟨rfl, rfl⟩
set_option maxRecDepth 100000 in
theorem jf_269_415 : jG m_L_law 415 (.iadd) [] (.null) 416 := ⟨rfl, rfl⟩
set_option maxRecDepth 100000 in
theorem jf_269_416 : jG m_L_law 416 (.iaload) [] (.null) 417 := ⟨rfl, rfl⟩
set_option maxRecDepth 100000 in
theorem jf_269_417 : jG m_L_law 417 (.aload_n 0) [] (.null) 418 := ⟨rfl, rfl⟩
set_option maxRecDepth 100000 in
theorem jf_269_418 : jG m_L_law 418 (.iload_n 3) [] (.null) 419 := ⟨rfl, rfl⟩
set_option maxRecDepth 100000 in
theorem jf_269_419 : jG m_L_law 419 (.iconst 3) [] (.null) 420 := ⟨rfl, rfl⟩
set_option maxRecDepth 100000 in
theorem jf_269_420 : jG m_L_law 420 (.iadd) [] (.null) 421 := ⟨rfl, rfl⟩
set_option maxRecDepth 100000 in
theorem jf_269_421 : jG m_L_law 421 (.iaload) [] (.null) 422 := ⟨rfl, rfl⟩
set_option maxRecDepth 100000 in
theorem jf_269_422 : jG m_L_law 422 (.aload_n 0) [] (.null) 423 := ⟨rfl, rfl⟩
set_option maxRecDepth 100000 in
theorem jf_269_423 : jG m_L_law 423 (.iload_n 3) [] (.null) 424 := ⟨rfl, rfl⟩
set_option maxRecDepth 100000 in
theorem jf_269_424 : jG m_L_law 424 (.iconst 4) [] (.null) 425 := ⟨rfl, rfl⟩
set_option maxRecDepth 100000 in
theorem jf_269_425 : jG m_L_law 425 (.iadd) [] (.null) 426 := ⟨rfl, rfl⟩
set_option maxRecDepth 100000 in
theorem jf_269_426 : jG m_L_law 426 (.iaload) [] (.null) 427 := ⟨rfl, rfl⟩
set_option maxRecDepth 100000 in
theorem jf_269_427 : jG m_L_law 427 (.aload_n 0) [] (.null) 428 := ⟨rfl, rfl⟩
set_option maxRecDepth 100000 in
theorem jf_269_428 : jG m_L_law 428 (.iload_n 3) [] (.null) 429 := ⟨rfl, rfl⟩
set_option maxRecDepth 100000 in
theorem jf_269_429 : jG m_L_law 429 (.iconst 5) [] (.null) 430 := ⟨rfl, rfl⟩
set_option maxRecDepth 100000 in
theorem jf_269_430 : jG m_L_law 430 (.iadd) [] (.null) 431 := ⟨rfl, rfl⟩
set_option maxRecDepth 100000 in
theorem jf_269_431 : jG m_L_law 431 (.iaload) [] (.null) 432 := ⟨rfl, rfl⟩
set_option maxRecDepth 100000 in
theorem jf_269_432 : jG m_L_law 432 (.i2l) [] (.null) 433 := ⟨rfl, rfl⟩
set_option maxRecDepth 100000 in
theorem jf_269_433 : jG m_L_law 433 (.bipush 32) [] (.null) 435 := ⟨rfl, rfl⟩
set_option maxRecDepth 100000 in
theorem jf_269_435 : jG m_L_law 435 (.lshl) [] (.null) 436 := ⟨rfl, rfl⟩
set_option maxRecDepth 100000 in
theorem jf_269_436 : jG m_L_law 436 (.aload_n 0) [] (.null) 437 := ⟨rfl, rfl⟩
set_option maxRecDepth 100000 in
theorem jf_269_437 : jG m_L_law 437 (.iload_n 3) [] (.null) 438 := ⟨rfl, rfl⟩
set_option maxRecDepth 100000 in
theorem jf_269_438 : jG m_L_law 438 (.bipush 6) [] (.null) 440 := ⟨rfl, rfl⟩
set_option maxRecDepth 100000 in
theorem jf_269_440 : jG m_L_law 440 (.iadd) [] (.null) 441 := ⟨rfl, rfl⟩
set_option maxRecDepth 100000 in
theorem jf_269_441 : jG m_L_law 441 (.iaload) [] (.null) 442 := ⟨rfl, rfl⟩
set_option maxRecDepth 100000 in
theorem jf_269_442 : jG m_L_law 442 (.i2l) [] (.null) 443 := ⟨rfl, rfl⟩
set_option maxRecDepth 100000 in
theorem jf_269_443 : jG m_L_law 443 (.ldc2_w 18) [] (.long (4294967295)) 446 := ⟨rfl, rfl⟩
set_option maxRecDepth 100000 in
theorem jf_269_446 : jG m_L_law 446 (.land) [] (.null) 447 := ⟨rfl, rfl⟩
set_option maxRecDepth 100000 in
theorem jf_269_447 : jG m_L_law 447 (.lor) [] (.null) 448 := ⟨rfl, rfl⟩
set_option maxRecDepth 100000 in
theorem jf_269_448 : jG m_L_law 448 (.invokevirtual 45) [6, 5, 0, m_B_loop] (.null) 451 := ⟨rfl, rfl⟩
set_option maxRecDepth 100000 in
theorem jf_269_451 : jG m_L_law 451 (.aload_n 2) [] (.null) 452 := ⟨rfl, rfl⟩
set_option maxRecDepth 100000 in
theorem jf_269_452 : jG m_L_law 452 (.aload_n 0) [] (.null) 453 := ⟨rfl, rfl⟩
set_option maxRecDepth 100000 in
theorem jf_269_453 : jG m_L_law 453 (.iload_n 3) [] (.null) 454 := ⟨rfl, rfl⟩
set_option maxRecDepth 100000 in
theorem jf_269_454 : jG m_L_law 454 (.iconst 1) [] (.null) 455 := ⟨rfl, rfl⟩
set_option maxRecDepth 100000 in
theorem jf_269_455 : jG m_L_law 455 (.iadd) [] (.null) 456 := ⟨rfl, rfl⟩
set_option maxRecDepth 100000 in
theorem jf_269_456 : jG m_L_law 456 (.iaload) [] (.null) 457 := ⟨rfl, rfl⟩
set_option maxRecDepth 100000 in
theorem jf_269_457 : jG m_L_law 457 (.aload_n 0) [] (.null) 458 := ⟨rfl, rfl⟩
set_option maxRecDepth 100000 in
theorem jf_269_458 : jG m_L_law 458 (.iload_n 3) [] (.null) 459 := ⟨rfl, rfl⟩
set_option maxRecDepth 100000 in
theorem jf_269_459 : jG m_L_law 459 (.iconst 2) [] (.null) 460 := ⟨rfl, rfl⟩
set_option maxRecDepth 100000 in
theorem jf_269_460 : jG m_L_law 460 (.iadd) [] (.null) 461 := ⟨rfl, rfl⟩
set_option maxRecDepth 100000 in
theorem jf_269_461 : jG m_L_law 461 (.iaload) [] (.null) 462 := ⟨rfl, rfl⟩
set_option maxRecDepth 100000 in
theorem jf_269_462 : jG m_L_law 462 (.aload_n 0) [] (.null) 463 := ⟨rfl, rfl⟩
set_option maxRecDepth 100000 in
theorem jf_269_463 : jG m_L_law 463 (.iload_n 3) [] (.null) 464 := ⟨rfl, rfl⟩
set_option maxRecDepth 100000 in
theorem jf_269_464 : jG m_L_law 464 (.iconst 3) [] (.null) 465 := ⟨rfl, rfl⟩
set_option maxRecDepth 100000 in
theorem jf_269_465 : jG m_L_law 465 (.iadd) [] (.null) 466 := ⟨rfl, rfl⟩
set_option maxRecDepth 100000 in
theorem jf_269_466 : jG m_L_law 466 (.iaload) [] (.null) 467 := ⟨rfl, rfl⟩
set_option maxRecDepth 100000 in
theorem jf_269_467 : jG m_L_law 467 (.aload_n 0) [] (.null) 468 := ⟨rfl, rfl⟩
set_option maxRecDepth 100000 in
theorem jf_269_468 : jG m_L_law 468 (.iload_n 3) [] (.null) 469 := ⟨rfl, rfl⟩
set_option maxRecDepth 100000 in
theorem jf_269_469 : jG m_L_law 469 (.iconst 4) [] (.null) 470 := ⟨rfl, rfl⟩
set_option maxRecDepth 100000 in
theorem jf_269_470 : jG m_L_law 470 (.iadd) [] (.null) 471 := ⟨rfl, rfl⟩
set_option maxRecDepth 100000 in
theorem jf_269_471 : jG m_L_law 471 (.iaload) [] (.null) 472 := ⟨rfl, rfl⟩
set_option maxRecDepth 100000 in
theorem jf_269_472 : jG m_L_law 472 (.aload_n 0) [] (.null) 473 := ⟨rfl, rfl⟩
set_option maxRecDepth 100000 in
theorem jf_269_473 : jG m_L_law 473 (.iload_n 3) [] (.null) 474 := ⟨rfl, rfl⟩
set_option maxRecDepth 100000 in
theorem jf_269_474 : jG m_L_law 474 (.iconst 5) [] (.null) 475 := ⟨rfl, rfl⟩
set_option maxRecDepth 100000 in
theorem jf_269_475 : jG m_L_law 475 (.iadd) [] (.null) 476 := ⟨rfl, rfl⟩
set_option maxRecDepth 100000 in
theorem jf_269_476 : jG m_L_law 476 (.iaload) [] (.null) 477 := ⟨rfl, rfl⟩
set_option maxRecDepth 100000 in
theorem jf_269_477 : jG m_L_law 477 (.i2l) [] (.null) 478 := ⟨rfl, rfl⟩
set_option maxRecDepth 100000 in
theorem jf_269_478 : jG m_L_law 478 (.bipush 32) [] (.null) 480 := ⟨rfl, rfl⟩
set_option maxRecDepth 100000 in
theorem jf_269_480 : jG m_L_law 480 (.lshl) [] (.null) 481 := ⟨rfl, rfl⟩
set_option maxRecDepth 100000 in
theorem jf_269_481 : jG m_L_law 481 (.aload_n 0) [] (.null) 482 := ⟨rfl, rfl⟩
set_option maxRecDepth 100000 in
theorem jf_269_482 : jG m_L_law 482 (.iload_n 3) [] (.null) 483 := ⟨rfl, rfl⟩
set_option maxRecDepth 100000 in
theorem jf_269_483 : jG m_L_law 483 (.bipush 6) [] (.null) 485 := ⟨rfl, rfl⟩
set_option maxRecDepth 100000 in
theorem jf_269_485 : jG m_L_law 485 (.iadd) [] (.null) 486 := ⟨rfl, rfl⟩
set_option maxRecDepth 100000 in
theorem jf_269_486 : jG m_L_law 486 (.iaload) [] (.null) 487 := ⟨rfl, rfl⟩
set_option maxRecDepth 100000 in
theorem jf_269_487 : jG m_L_law 487 (.i2l) [] (.null) 488 := ⟨rfl, rfl⟩
set_option maxRecDepth 100000 in
theorem jf_269_488 : jG m_L_law 488 (.ldc2_w 18) [] (.long (4294967295)) 491 := ⟨rfl, rfl⟩
set_option maxRecDepth 100000 in
theorem jf_269_491 : jG m_L_law 491 (.land) [] (.null) 492 := ⟨rfl, rfl⟩
set_option maxRecDepth 100000 in
theorem jf_269_492 : jG m_L_law 492 (.lor) [] (.null) 493 := ⟨rfl, rfl⟩
set_option maxRecDepth 100000 in
theorem jf_269_493 : jG m_L_law 493 (.invokevirtual 49) [6, 5, 9, m_R_loop] (.null) 496 := ⟨rfl, rfl⟩
set_option maxRecDepth 100000 in
theorem jf_269_496 : jG m_L_law 496 (.if_icmp .eq 583) [1079] (.null) 499 := ⟨rfl, rfl⟩
set_option maxRecDepth 100000 in
theorem jf_269_499 : jG m_L_law 499 (.iconst 0) [] (.null) 500 := ⟨rfl, rfl⟩
set_option maxRecDepth 100000 in
theorem jf_269_500 : jG m_L_law 500 (.ireturn) [] (.null) 501 := ⟨rfl, rfl⟩
set_option maxRecDepth 100000 in
theorem jf_269_501 : jG m_L_law 501 (.aload_n 1) [] (.null) 502 := ⟨rfl, rfl⟩
set_option maxRecDepth 100000 in
theorem jf_269_502 : jG m_L_law 502 (.aload_n 0) [] (.null) 503 := ⟨rfl, rfl⟩
set_option maxRecDepth 100000 in
theorem jf_269_503 : jG m_L_law 503 (.iload_n 3) [] (.null) 504 := ⟨rfl, rfl⟩
set_option maxRecDepth 100000 in
theorem jf_269_504 : jG m_L_law 504 (.iconst 1) [] (.null) 505 := ⟨rfl, rfl⟩
set_option maxRecDepth 100000 in
theorem jf_269_505 : jG m_L_law 505 (.iadd) [] (.null) 506 := ⟨rfl, rfl⟩
set_option maxRecDepth 100000 in
theorem jf_269_506 : jG m_L_law 506 (.iaload) [] (.null) 507 := ⟨rfl, rfl⟩
set_option maxRecDepth 100000 in
theorem jf_269_507 : jG m_L_law 507 (.aload_n 0) [] (.null) 508 := ⟨rfl, rfl⟩
set_option maxRecDepth 100000 in
theorem jf_269_508 : jG m_L_law 508 (.iload_n 3) [] (.null) 509 := ⟨rfl, rfl⟩
set_option maxRecDepth 100000 in
theorem jf_269_509 : jG m_L_law 509 (.iconst 2) [] (.null) 510 := ⟨rfl, rfl⟩
set_option maxRecDepth 100000 in
theorem jf_269_510 : jG m_L_law 510 (.iadd) [] (.null) 511 := ⟨rfl, rfl⟩
set_option maxRecDepth 100000 in
theorem jf_269_511 : jG m_L_law 511 (.iaload) [] (.null) 512 := ⟨rfl, rfl⟩
set_option maxRecDepth 100000 in
theorem jf_269_512 : jG m_L_law 512 (.invokevirtual 50) [6, 2, 0, m_B_within] (.null) 515 := ⟨rfl, rfl⟩
set_option maxRecDepth 100000 in
theorem jf_269_515 : jG m_L_law 515 (.aload_n 2) [] (.null) 516 := ⟨rfl, rfl⟩
set_option maxRecDepth 100000 in
theorem jf_269_516 : jG m_L_law 516 (.aload_n 0) [] (.null) 517 := ⟨rfl, rfl⟩
set_option maxRecDepth 100000 in
theorem jf_269_517 : jG m_L_law 517 (.iload_n 3) [] (.null) 518 := ⟨rfl, rfl⟩
set_option maxRecDepth 100000 in
theorem jf_269_518 : jG m_L_law 518 (.iconst 1) [] (.null) 519 := ⟨rfl, rfl⟩
set_option maxRecDepth 100000 in
theorem jf_269_519 : jG m_L_law 519 (.iadd) [] (.null) 520 := ⟨rfl, rfl⟩
set_option maxRecDepth 100000 in
theorem jf_269_520 : jG m_L_law 520 (.iaload) [] (.null) 521 := ⟨rfl, rfl⟩
set_option maxRecDepth 100000 in
theorem jf_269_521 : jG m_L_law 521 (.aload_n 0) [] (.null) 522 := ⟨rfl, rfl⟩
set_option maxRecDepth 100000 in
theorem jf_269_522 : jG m_L_law 522 (.iload_n 3) [] (.null) 523 := ⟨rfl, rfl⟩
set_option maxRecDepth 100000 in
theorem jf_269_523 : jG m_L_law 523 (.iconst 2) [] (.null) 524 := ⟨rfl, rfl⟩
set_option maxRecDepth 100000 in
theorem jf_269_524 : jG m_L_law 524 (.iadd) [] (.null) 525 := ⟨rfl, rfl⟩
set_option maxRecDepth 100000 in
theorem jf_269_525 : jG m_L_law 525 (.iaload) [] (.null) 526 := ⟨rfl, rfl⟩
set_option maxRecDepth 100000 in
theorem jf_269_526 : jG m_L_law 526 (.invokevirtual 54) [6, 2, 9, m_R_within] (.null) 529 := ⟨rfl, rfl⟩
set_option maxRecDepth 100000 in
theorem jf_269_529 : jG m_L_law 529 (.if_icmp .eq 550) [1079] (.null) 532 := ⟨rfl, rfl⟩
set_option maxRecDepth 100000 in
theorem jf_269_532 : jG m_L_law 532 (.iconst 0) [] (.null) 533 := ⟨rfl, rfl⟩
set_option maxRecDepth 100000 in
theorem jf_269_533 : jG m_L_law 533 (.ireturn) [] (.null) 534 := ⟨rfl, rfl⟩
set_option maxRecDepth 100000 in
theorem jf_269_534 : jG m_L_law 534 (.aload_n 1) [] (.null) 535 := ⟨rfl, rfl⟩
set_option maxRecDepth 100000 in
theorem jf_269_535 : jG m_L_law 535 (.aload_n 0) [] (.null) 536 := ⟨rfl, rfl⟩
set_option maxRecDepth 100000 in
theorem jf_269_536 : jG m_L_law 536 (.iload_n 3) [] (.null) 537 := ⟨rfl, rfl⟩
set_option maxRecDepth 100000 in
theorem jf_269_537 : jG m_L_law 537 (.iconst 1) [] (.null) 538 := ⟨rfl, rfl⟩
set_option maxRecDepth 100000 in
theorem jf_269_538 : jG m_L_law 538 (.iadd) [] (.null) 539 := ⟨rfl, rfl⟩
set_option maxRecDepth 100000 in
theorem jf_269_539 : jG m_L_law 539 (.iaload) [] (.null) 540 := ⟨rfl, rfl⟩
set_option maxRecDepth 100000 in
theorem jf_269_540 : jG m_L_law 540 (.aload_n 0) [] (.null) 541 := ⟨rfl, rfl⟩
set_option maxRecDepth 100000 in
theorem jf_269_541 : jG m_L_law 541 (.iload_n 3) [] (.null) 542 := ⟨rfl, rfl⟩
set_option maxRecDepth 100000 in
theorem jf_269_542 : jG m_L_law 542 (.iconst 2) [] (.null) 543 := ⟨rfl, rfl⟩
set_option maxRecDepth 100000 in
theorem jf_269_543 : jG m_L_law 543 (.iadd) [] (.null) 544 := ⟨rfl, rfl⟩
set_option maxRecDepth 100000 in
theorem jf_269_544 : jG m_L_law 544 (.iaload) [] (.null) 545 := ⟨rfl, rfl⟩
set_option maxRecDepth 100000 in
theorem jf_269_545 : jG m_L_law 545 (.i2l) [] (.null) 546 := ⟨rfl, rfl⟩
set_option maxRecDepth 100000 in
theorem jf_269_546 : jG m_L_law 546 (.bipush 32) [] (.null) 548 := ⟨rfl, rfl⟩
set_option maxRecDepth 100000 in
theorem jf_269_548 : jG m_L_law 548 (.lshl) [] (.null) 549 := ⟨rfl, rfl⟩
set_option maxRecDepth 100000 in
theorem jf_269_549 : jG m_L_law 549 (.aload_n 0) [] (.null) 550 := ⟨rfl, rfl⟩
set_option maxRecDepth 100000 in
theorem jf_269_550 : jG m_L_law 550 (.iload_n 3) [] (.null) 551 := ⟨rfl, rfl⟩
set_option maxRecDepth 100000 in
theorem jf_269_551 : jG m_L_law 551 (.iconst 3) [] (.null) 552 := ⟨rfl, rfl⟩
set_option maxRecDepth 100000 in
theorem jf_269_552 : jG m_L_law 552 (.iadd) [] (.null) 553 := ⟨rfl, rfl⟩
set_option maxRecDepth 100000 in
theorem jf_269_553 : jG m_L_law 553 (.iaload) [] (.null) 554 := ⟨rfl, rfl⟩
set_option maxRecDepth 100000 in
theorem jf_269_554 : jG m_L_law 554 (.i2l) [] (.null) 555 := ⟨rfl, rfl⟩
set_option maxRecDepth 100000 in
theorem jf_269_555 : jG m_L_law 555 (.ldc2_w 18) [] (.long (4294967295)) 558 := ⟨rfl, rfl⟩
set_option maxRecDepth 100000 in
theorem jf_269_558 : jG m_L_law 558 (.land) [] (.null) 559 := ⟨rfl, rfl⟩
set_option maxRecDepth 100000 in
theorem jf_269_559 : jG m_L_law 559 (.lor) [] (.null) 560 := ⟨rfl, rfl⟩
set_option maxRecDepth 100000 in
theorem jf_269_560 : jG m_L_law 560 (.invokevirtual 55) [6, 2, 0, m_B_feed] (.null) 563 := ⟨rfl, rfl⟩
set_option maxRecDepth 100000 in
theorem jf_269_563 : jG m_L_law 563 (.aload_n 2) [] (.null) 564 := ⟨rfl, rfl⟩
set_option maxRecDepth 100000 in
theorem jf_269_564 : jG m_L_law 564 (.aload_n 0) [] (.null) 565 := ⟨rfl, rfl⟩
set_option maxRecDepth 100000 in
theorem jf_269_565 : jG m_L_law 565 (.iload_n 3) [] (.null) 566 := ⟨rfl, rfl⟩
set_option maxRecDepth 100000 in
theorem jf_269_566 : jG m_L_law 566 (.iconst 1) [] (.null) 567 := ⟨rfl, rfl⟩
set_option maxRecDepth 100000 in
theorem jf_269_567 : jG m_L_law 567 (.iadd) [] (.null) 568 := ⟨rfl, rfl⟩
set_option maxRecDepth 100000 in
theorem jf_269_568 : jG m_L_law 568 (.iaload) [] (.null) 569 := ⟨rfl, rfl⟩
set_option maxRecDepth 100000 in
theorem jf_269_569 : jG m_L_law 569 (.aload_n 0) [] (.null) 570 := ⟨rfl, rfl⟩
set_option maxRecDepth 100000 in
theorem jf_269_570 : jG m_L_law 570 (.iload_n 3) [] (.null) 571 := ⟨rfl, rfl⟩
set_option maxRecDepth 100000 in
theorem jf_269_571 : jG m_L_law 571 (.iconst 2) [] (.null) 572 := ⟨rfl, rfl⟩
set_option maxRecDepth 100000 in
theorem jf_269_572 : jG m_L_law 572 (.iadd) [] (.null) 573 := ⟨rfl, rfl⟩
set_option maxRecDepth 100000 in
theorem jf_269_573 : jG m_L_law 573 (.iaload) [] (.null) 574 := ⟨rfl, rfl⟩
set_option maxRecDepth 100000 in
theorem jf_269_574 : jG m_L_law 574 (.i2l) [] (.null) 575 := ⟨rfl, rfl⟩
set_option maxRecDepth 100000 in
theorem jf_269_575 : jG m_L_law 575 (.bipush 32) [] (.null) 577 := ⟨rfl, rfl⟩
set_option maxRecDepth 100000 in
theorem jf_269_577 : jG m_L_law 577 (.lshl) [] (.null) 578 := ⟨rfl, rfl⟩
set_option maxRecDepth 100000 in
theorem jf_269_578 : jG m_L_law 578 (.aload_n 0) [] (.null) 579 := ⟨rfl, rfl⟩
set_option maxRecDepth 100000 in
theorem jf_269_579 : jG m_L_law 579 (.iload_n 3) [] (.null) 580 := ⟨rfl, rfl⟩
set_option maxRecDepth 100000 in
theorem jf_269_580 : jG m_L_law 580 (.iconst 3) [] (.null) 581 := ⟨rfl, rfl⟩
set_option maxRecDepth 100000 in
theorem jf_269_581 : jG m_L_law 581 (.iadd) [] (.null) 582 := ⟨rfl, rfl⟩
set_option maxRecDepth 100000 in
theorem jf_269_582 : jG m_L_law 582 (.iaload) [] (.null) 583 := ⟨rfl, rfl⟩
set_option maxRecDepth 100000 in
theorem jf_269_583 : jG m_L_law 583 (.i2l) [] (.null) 584 := ⟨rfl, rfl⟩
set_option maxRecDepth 100000 in
theorem jf_269_584 : jG m_L_law 584 (.ldc2_w 18) [] (.long (4294967295)) 587 := ⟨rfl, rfl⟩
set_option maxRecDepth 100000 in
theorem jf_269_587 : jG m_L_law 587 (.land) [] (.null) 588 := ⟨rfl, rfl⟩
set_option maxRecDepth 100000 in
theorem jf_269_588 : jG m_L_law 588 (.lor) [] (.null) 589 := ⟨rfl, rfl⟩
set_option maxRecDepth 100000 in
theorem jf_269_589 : jG m_L_law 589 (.invokevirtual 59) [6, 2, 9, m_R_feed] (.null) 592 := ⟨rfl, rfl⟩
set_option maxRecDepth 100000 in
theorem jf_269_592 : jG m_L_law 592 (.if_icmp .eq 487) [1079] (.null) 595 := ⟨rfl, rfl⟩
set_option maxRecDepth 100000 in
theorem jf_269_595 : jG m_L_law 595 (.iconst 0) [] (.null) 596 := ⟨rfl, rfl⟩
set_option maxRecDepth 100000 in
theorem jf_269_596 : jG m_L_law 596 (.ireturn) [] (.null) 597 := ⟨rfl, rfl⟩
set_option maxRecDepth 100000 in
theorem jf_269_597 : jG m_L_law 597 (.aload_n 1) [] (.null) 598 := ⟨rfl, rfl⟩
set_option maxRecDepth 100000 in
theorem jf_269_598 : jG m_L_law 598 (.aload_n 0) [] (.null) 599 := ⟨rfl, rfl⟩
set_option maxRecDepth 100000 in
theorem jf_269_599 : jG m_L_law 599 (.iload_n 3) [] (.null) 600 := ⟨rfl, rfl⟩
set_option maxRecDepth 100000 in
theorem jf_269_600 : jG m_L_law 600 (.iconst 1) [] (.null) 601 := ⟨rfl, rfl⟩
set_option maxRecDepth 100000 in
theorem jf_269_601 : jG m_L_law 601 (.iadd) [] (.null) 602 := ⟨rfl, rfl⟩
set_option maxRecDepth 100000 in
theorem jf_269_602 : jG m_L_law 602 (.iaload) [] (.null) 603 := ⟨rfl, rfl⟩
set_option maxRecDepth 100000 in
theorem jf_269_603 : jG m_L_law 603 (.aload_n 0) [] (.null) 604 := ⟨rfl, rfl⟩
set_option maxRecDepth 100000 in
theorem jf_269_604 : jG m_L_law 604 (.iload_n 3) [] (.null) 605 := ⟨rfl, rfl⟩
set_option maxRecDepth 100000 in
theorem jf_269_605 : jG m_L_law 605 (.iconst 2) [] (.null) 606 := ⟨rfl, rfl⟩
set_option maxRecDepth 100000 in
theorem jf_269_606 : jG m_L_law 606 (.iadd) [] (.null) 607 := ⟨rfl, rfl⟩
set_option maxRecDepth 100000 in
theorem jf_269_607 : jG m_L_law 607 (.iaload) [] (.null) 608 := ⟨rfl, rfl⟩
set_option maxRecDepth 100000 in
theorem jf_269_608 : jG m_L_law 608 (.aload_n 0) [] (.null) 609 := ⟨rfl, rfl⟩
set_option maxRecDepth 100000 in
theorem jf_269_609 : jG m_L_law 609 (.iload_n 3) [] (.null) 610 := ⟨rfl, rfl⟩
set_option maxRecDepth 100000 in
theorem jf_269_610 : jG m_L_law 610 (.iconst 3) [] (.null) 611 := ⟨rfl, rfl⟩
set_option maxRecDepth 100000 in
theorem jf_269_611 : jG m_L_law 611 (.iadd) [] (.null) 612 := ⟨rfl, rfl⟩
set_option maxRecDepth 100000 in
theorem jf_269_612 : jG m_L_law 612 (.iaload) [] (.null) 613 := ⟨rfl, rfl⟩
set_option maxRecDepth 100000 in
theorem jf_269_613 : jG m_L_law 613 (.invokevirtual 60) [6, 3, 0, m_B_run] (.null) 616 := ⟨rfl, rfl⟩
set_option maxRecDepth 100000 in
theorem jf_269_616 : jG m_L_law 616 (.aload_n 2) [] (.null) 617 := ⟨rfl, rfl⟩
set_option maxRecDepth 100000 in
theorem jf_269_617 : jG m_L_law 617 (.aload_n 0) [] (.null) 618 := ⟨rfl, rfl⟩
set_option maxRecDepth 100000 in
theorem jf_269_618 : jG m_L_law 618 (.iload_n 3) [] (.null) 619 := ⟨rfl, rfl⟩
set_option maxRecDepth 100000 in
theorem jf_269_619 : jG m_L_law 619 (.iconst 1) [] (.null) 620 := ⟨rfl, rfl⟩
set_option maxRecDepth 100000 in
theorem jf_269_620 : jG m_L_law 620 (.iadd) [] (.null) 621 := ⟨rfl, rfl⟩
set_option maxRecDepth 100000 in
theorem jf_269_621 : jG m_L_law 621 (.iaload) [] (.null) 622 := ⟨rfl, rfl⟩
set_option maxRecDepth 100000 in
theorem jf_269_622 : jG m_L_law 622 (.aload_n 0) [] (.null) 623 := ⟨rfl, rfl⟩
set_option maxRecDepth 100000 in
theorem jf_269_623 : jG m_L_law 623 (.iload_n 3) [] (.null) 624 := ⟨rfl, rfl⟩
set_option maxRecDepth 100000 in
theorem jf_269_624 : jG m_L_law 624 (.iconst 2) [] (.null) 625 := ⟨rfl, rfl⟩
set_option maxRecDepth 100000 in
theorem jf_269_625 : jG m_L_law 625 (.iadd) [] (.null) 626 := ⟨rfl, rfl⟩
set_option maxRecDepth 100000 in
theorem jf_269_626 : jG m_L_law 626 (.iaload) [] (.null) 627 := ⟨rfl, rfl⟩
set_option maxRecDepth 100000 in
theorem jf_269_627 : jG m_L_law 627 (.aload_n 0) [] (.null) 628 := ⟨rfl, rfl⟩
set_option maxRecDepth 100000 in
theorem jf_269_628 : jG m_L_law 628 (.iload_n 3) [] (.null) 629 := ⟨rfl, rfl⟩
set_option maxRecDepth 100000 in
theorem jf_269_629 : jG m_L_law 629 (.iconst 3) [] (.null) 630 := ⟨rfl, rfl⟩
set_option maxRecDepth 100000 in
theorem jf_269_630 : jG m_L_law 630 (.iadd) [] (.null) 631 := ⟨rfl, rfl⟩
set_option maxRecDepth 100000 in
theorem jf_269_631 : jG m_L_law 631 (.iaload) [] (.null) 632 := ⟨rfl, rfl⟩
set_option maxRecDepth 100000 in
theorem jf_269_632 : jG m_L_law 632 (.invokevirtual 63) [6, 3, 9, m_R_run] (.null) 635 := ⟨rfl, rfl⟩
set_option maxRecDepth 100000 in
theorem jf_269_635 : jG m_L_law 635 (.if_icmp .eq 444) [1079] (.null) 638 := ⟨rfl, rfl⟩
set_option maxRecDepth 100000 in
theorem jf_269_638 : jG m_L_law 638 (.iconst 0) [] (.null) 639 := ⟨rfl, rfl⟩
set_option maxRecDepth 100000 in
theorem jf_269_639 : jG m_L_law 639 (.ireturn) [] (.null) 640 := ⟨rfl, rfl⟩
set_option maxRecDepth 100000 in
theorem jf_269_640 : jG m_L_law 640 (.aload_n 1) [] (.null) 641 := ⟨rfl, rfl⟩
set_option maxRecDepth 100000 in
theorem jf_269_641 : jG m_L_law 641 (.aload_n 0) [] (.null) 642 := ⟨rfl, rfl⟩
set_option maxRecDepth 100000 in
theorem jf_269_642 : jG m_L_law 642 (.iload_n 3) [] (.null) 643 := ⟨rfl, rfl⟩
set_option maxRecDepth 100000 in
theorem jf_269_643 : jG m_L_law 643 (.iconst 1) [] (.null) 644 := ⟨rfl, rfl⟩
set_option maxRecDepth 100000 in
theorem jf_269_644 : jG m_L_law 644 (.iadd) [] (.null) 645 := ⟨rfl, rfl⟩
set_option maxRecDepth 100000 in
theorem jf_269_645 : jG m_L_law 645 (.iaload) [] (.null) 646 := ⟨rfl, rfl⟩
set_option maxRecDepth 100000 in
theorem jf_269_646 : jG m_L_law 646 (.aload_n 0) [] (.null) 647 := ⟨rfl, rfl⟩
set_option maxRecDepth 100000 in
theorem jf_269_647 : jG m_L_law 647 (.iload_n 3) [] (.null) 648 := ⟨rfl, rfl⟩
set_option maxRecDepth 100000 in
theorem jf_269_648 : jG m_L_law 648 (.iconst 2) [] (.null) 649 := ⟨rfl, rfl⟩
set_option maxRecDepth 100000 in
theorem jf_269_649 : jG m_L_law 649 (.iadd) [] (.null) 650 := ⟨rfl, rfl⟩
set_option maxRecDepth 100000 in
theorem jf_269_650 : jG m_L_law 650 (.iaload) [] (.null) 651 := ⟨rfl, rfl⟩
set_option maxRecDepth 100000 in
theorem jf_269_651 : jG m_L_law 651 (.invokevirtual 64) [6, 2, 0, m_B_output] (.null) 654 := ⟨rfl, rfl⟩
set_option maxRecDepth 100000 in
theorem jf_269_654 : jG m_L_law 654 (.aload_n 2) [] (.null) 655 := ⟨rfl, rfl⟩
set_option maxRecDepth 100000 in
theorem jf_269_655 : jG m_L_law 655 (.aload_n 0) [] (.null) 656 := ⟨rfl, rfl⟩
set_option maxRecDepth 100000 in
theorem jf_269_656 : jG m_L_law 656 (.iload_n 3) [] (.null) 657 := ⟨rfl, rfl⟩
set_option maxRecDepth 100000 in
theorem jf_269_657 : jG m_L_law 657 (.iconst 1) [] (.null) 658 := ⟨rfl, rfl⟩
set_option maxRecDepth 100000 in
theorem jf_269_658 : jG m_L_law 658 (.iadd) [] (.null) 659 := ⟨rfl, rfl⟩
set_option maxRecDepth 100000 in
theorem jf_269_659 : jG m_L_law 659 (.iaload) [] (.null) 660 := ⟨rfl, rfl⟩
set_option maxRecDepth 100000 in
theorem jf_269_660 : jG m_L_law 660 (.aload_n 0) [] (.null) 661 := ⟨rfl, rfl⟩
set_option maxRecDepth 100000 in
theorem jf_269_661 : jG m_L_law 661 (.iload_n 3) [] (.null) 662 := ⟨rfl, rfl⟩
set_option maxRecDepth 100000 in
theorem jf_269_662 : jG m_L_law 662 (.iconst 2) [] (.null) 663 := ⟨rfl, rfl⟩
set_option maxRecDepth 100000 in
theorem jf_269_663 : jG m_L_law 663 (.iadd) [] (.null) 664 := ⟨rfl, rfl⟩
set_option maxRecDepth 100000 in
theorem jf_269_664 : jG m_L_law 664 (.iaload) [] (.null) 665 := ⟨rfl, rfl⟩
set_option maxRecDepth 100000 in
theorem jf_269_665 : jG m_L_law 665 (.invokevirtual 68) [6, 2, 9, m_R_output] (.null) 668 := ⟨rfl, rfl⟩
set_option maxRecDepth 100000 in
theorem jf_269_668 : jG m_L_law 668 (.lcmp) [] (.null) 669 := ⟨rfl, rfl⟩
set_option maxRecDepth 100000 in
theorem jf_269_669 : jG m_L_law 669 (.ifCond .eq 410) [1079] (.null) 672 := ⟨rfl, rfl⟩
set_option maxRecDepth 100000 in
theorem jf_269_672 : jG m_L_law 672 (.iconst 0) [] (.null) 673 := ⟨rfl, rfl⟩
set_option maxRecDepth 100000 in
theorem jf_269_673 : jG m_L_law 673 (.ireturn) [] (.null) 674 := ⟨rfl, rfl⟩
set_option maxRecDepth 100000 in
theorem jf_269_674 : jG m_L_law 674 (.aload_n 1) [] (.null) 675 := ⟨rfl, rfl⟩
set_option maxRecDepth 100000 in
theorem jf_269_675 : jG m_L_law 675 (.aload_n 0) [] (.null) 676 := ⟨rfl, rfl⟩
set_option maxRecDepth 100000 in
theorem jf_269_676 : jG m_L_law 676 (.iload_n 3) [] (.null) 677 := ⟨rfl, rfl⟩
set_option maxRecDepth 100000 in
theorem jf_269_677 : jG m_L_law 677 (.iconst 1) [] (.null) 678 := ⟨rfl, rfl⟩
set_option maxRecDepth 100000 in
theorem jf_269_678 : jG m_L_law 678 (.iadd) [] (.null) 679 := ⟨rfl, rfl⟩
set_option maxRecDepth 100000 in
theorem jf_269_679 : jG m_L_law 679 (.iaload) [] (.null) 680 := ⟨rfl, rfl⟩
set_option maxRecDepth 100000 in
theorem jf_269_680 : jG m_L_law 680 (.aload_n 0) [] (.null) 681 := ⟨rfl, rfl⟩
set_option maxRecDepth 100000 in
theorem jf_269_681 : jG m_L_law 681 (.iload_n 3) [] (.null) 682 := ⟨rfl, rfl⟩
set_option maxRecDepth 100000 in
theorem jf_269_682 : jG m_L_law 682 (.iconst 2) [] (.null) 683 := ⟨rfl, rfl⟩
set_option maxRecDepth 100000 in
theorem jf_269_683 : jG m_L_law 683 (.iadd) [] (.null) 684 := ⟨rfl, rfl⟩
set_option maxRecDepth 100000 in
theorem jf_269_684 : jG m_L_law 684 (.iaload) [] (.null) 685 := ⟨rfl, rfl⟩
set_option maxRecDepth 100000 in
theorem jf_269_685 : jG m_L_law 685 (.invokevirtual 69) [6, 2, 0, m_B_state] (.null) 688 := ⟨rfl, rfl⟩
set_option maxRecDepth 100000 in
theorem jf_269_688 : jG m_L_law 688 (.aload_n 2) [] (.null) 689 := ⟨rfl, rfl⟩
set_option maxRecDepth 100000 in
theorem jf_269_689 : jG m_L_law 689 (.aload_n 0) [] (.null) 690 := ⟨rfl, rfl⟩
set_option maxRecDepth 100000 in
theorem jf_269_690 : jG m_L_law 690 (.iload_n 3) [] (.null) 691 := ⟨rfl, rfl⟩
set_option maxRecDepth 100000 in
theorem jf_269_691 : jG m_L_law 691 (.iconst 1) [] (.null) 692 := ⟨rfl, rfl⟩
set_option maxRecDepth 100000 in
theorem jf_269_692 : jG m_L_law 692 (.iadd) [] (.null) 693 := ⟨rfl, rfl⟩
set_option maxRecDepth 100000 in
theorem jf_269_693 : jG m_L_law 693 (.iaload) [] (.null) 694 := ⟨rfl, rfl⟩
set_option maxRecDepth 100000 in
theorem jf_269_694 : jG m_L_law 694 (.aload_n 0) [] (.null) 695 := ⟨rfl, rfl⟩
set_option maxRecDepth 100000 in
theorem jf_269_695 : jG m_L_law 695 (.iload_n 3) [] (.null) 696 := ⟨rfl, rfl⟩
set_option maxRecDepth 100000 in
theorem jf_269_696 : jG m_L_law 696 (.iconst 2) [] (.null) 697 := ⟨rfl, rfl⟩
set_option maxRecDepth 100000 in
theorem jf_269_697 : jG m_L_law 697 (.iadd) [] (.null) 698 := ⟨rfl, rfl⟩
set_option maxRecDepth 100000 in
theorem jf_269_698 : jG m_L_law 698 (.iaload) [] (.null) 699 := ⟨rfl, rfl⟩
set_option maxRecDepth 100000 in
theorem jf_269_699 : jG m_L_law 699 (.invokevirtual 72) [6, 2, 9, m_R_state] (.null) 702 := ⟨rfl, rfl⟩
set_option maxRecDepth 100000 in
theorem jf_269_702 : jG m_L_law 702 (.lcmp) [] (.null) 703 := ⟨rfl, rfl⟩
set_option maxRecDepth 100000 in
theorem jf_269_703 : jG m_L_law 703 (.ifCond .eq 376) [1079] (.null) 706 := ⟨rfl, rfl⟩
set_option maxRecDepth 100000 in
theorem jf_269_706 : jG m_L_law 706 (.iconst 0) [] (.null) 707 := ⟨rfl, rfl⟩
set_option maxRecDepth 100000 in
theorem jf_269_707 : jG m_L_law 707 (.ireturn) [] (.null) 708 := ⟨rfl, rfl⟩
set_option maxRecDepth 100000 in
theorem jf_269_708 : jG m_L_law 708 (.aload_n 1) [] (.null) 709 := ⟨rfl, rfl⟩
set_option maxRecDepth 100000 in
theorem jf_269_709 : jG m_L_law 709 (.aload_n 0) [] (.null) 710 := ⟨rfl, rfl⟩
set_option maxRecDepth 100000 in
theorem jf_269_710 : jG m_L_law 710 (.iload_n 3) [] (.null) 711 := ⟨rfl, rfl⟩
set_option maxRecDepth 100000 in
theorem jf_269_711 : jG m_L_law 711 (.iconst 1) [] (.null) 712 := ⟨rfl, rfl⟩
set_option maxRecDepth 100000 in
theorem jf_269_712 : jG m_L_law 712 (.iadd) [] (.null) 713 := ⟨rfl, rfl⟩
set_option maxRecDepth 100000 in
theorem jf_269_713 : jG m_L_law 713 (.iaload) [] (.null) 714 := ⟨rfl, rfl⟩
set_option maxRecDepth 100000 in
theorem jf_269_714 : jG m_L_law 714 (.aload_n 0) [] (.null) 715 := ⟨rfl, rfl⟩
set_option maxRecDepth 100000 in
theorem jf_269_715 : jG m_L_law 715 (.iload_n 3) [] (.null) 716 := ⟨rfl, rfl⟩
set_option maxRecDepth 100000 in
theorem jf_269_716 : jG m_L_law 716 (.iconst 2) [] (.null) 717 := ⟨rfl, rfl⟩
set_option maxRecDepth 100000 in
theorem jf_269_717 : jG m_L_law 717 (.iadd) [] (.null) 718 := ⟨rfl, rfl⟩
set_option maxRecDepth 100000 in
theorem jf_269_718 : jG m_L_law 718 (.iaload) [] (.null) 719 := ⟨rfl, rfl⟩
set_option maxRecDepth 100000 in
theorem jf_269_719 : jG m_L_law 719 (.invokevirtual 73) [6, 2, 0, m_B_about] (.null) 722 := ⟨rfl, rfl⟩
set_option maxRecDepth 100000 in
theorem jf_269_722 : jG m_L_law 722 (.aload_n 2) [] (.null) 723 := ⟨rfl, rfl⟩
set_option maxRecDepth 100000 in
theorem jf_269_723 : jG m_L_law 723 (.aload_n 0) [] (.null) 724 := ⟨rfl, rfl⟩
set_option maxRecDepth 100000 in
theorem jf_269_724 : jG m_L_law 724 (.iload_n 3) [] (.null) 725 := ⟨rfl, rfl⟩
set_option maxRecDepth 100000 in
theorem jf_269_725 : jG m_L_law 725 (.iconst 1) [] (.null) 726 := ⟨rfl, rfl⟩
set_option maxRecDepth 100000 in
theorem jf_269_726 : jG m_L_law 726 (.iadd) [] (.null) 727 := ⟨rfl, rfl⟩
set_option maxRecDepth 100000 in
theorem jf_269_727 : jG m_L_law 727 (.iaload) [] (.null) 728 := ⟨rfl, rfl⟩
set_option maxRecDepth 100000 in
theorem jf_269_728 : jG m_L_law 728 (.aload_n 0) [] (.null) 729 := ⟨rfl, rfl⟩
set_option maxRecDepth 100000 in
theorem jf_269_729 : jG m_L_law 729 (.iload_n 3) [] (.null) 730 := ⟨rfl, rfl⟩
set_option maxRecDepth 100000 in
theorem jf_269_730 : jG m_L_law 730 (.iconst 2) [] (.null) 731 := ⟨rfl, rfl⟩
set_option maxRecDepth 100000 in
theorem jf_269_731 : jG m_L_law 731 (.iadd) [] (.null) 732 := ⟨rfl, rfl⟩
set_option maxRecDepth 100000 in
theorem jf_269_732 : jG m_L_law 732 (.iaload) [] (.null) 733 := ⟨rfl, rfl⟩
set_option maxRecDepth 100000 in
theorem jf_269_733 : jG m_L_law 733 (.invokevirtual 76) [6, 2, 9, m_R_about] (.null) 736 := ⟨rfl, rfl⟩
set_option maxRecDepth 100000 in
theorem jf_269_736 : jG m_L_law 736 (.if_icmp .eq 343) [1079] (.null) 739 := ⟨rfl, rfl⟩
set_option maxRecDepth 100000 in
theorem jf_269_739 : jG m_L_law 739 (.iconst 0) [] (.null) 740 := ⟨rfl, rfl⟩
set_option maxRecDepth 100000 in
theorem jf_269_740 : jG m_L_law 740 (.ireturn) [] (.null) 741 := ⟨rfl, rfl⟩
set_option maxRecDepth 100000 in
theorem jf_269_741 : jG m_L_law 741 (.aload_n 1) [] (.null) 742 := ⟨rfl, rfl⟩
set_option maxRecDepth 100000 in
theorem jf_269_742 : jG m_L_law 742 (.aload_n 0) [] (.null) 743 := ⟨rfl, rfl⟩
set_option maxRecDepth 100000 in
theorem jf_269_743 : jG m_L_law 743 (.iload_n 3) [] (.null) 744 := ⟨rfl, rfl⟩
set_option maxRecDepth 100000 in
theorem jf_269_744 : jG m_L_law 744 (.iconst 1) [] (.null) 745 := ⟨rfl, rfl⟩
set_option maxRecDepth 100000 in
theorem jf_269_745 : jG m_L_law 745 (.iadd) [] (.null) 746 := ⟨rfl, rfl⟩
set_option maxRecDepth 100000 in
theorem jf_269_746 : jG m_L_law 746 (.iaload) [] (.null) 747 := ⟨rfl, rfl⟩
set_option maxRecDepth 100000 in
theorem jf_269_747 : jG m_L_law 747 (.aload_n 0) [] (.null) 748 := ⟨rfl, rfl⟩
set_option maxRecDepth 100000 in
theorem jf_269_748 : jG m_L_law 748 (.iload_n 3) [] (.null) 749 := ⟨rfl, rfl⟩
set_option maxRecDepth 100000 in
theorem jf_269_749 : jG m_L_law 749 (.iconst 2) [] (.null) 750 := ⟨rfl, rfl⟩
set_option maxRecDepth 100000 in
theorem jf_269_750 : jG m_L_law 750 (.iadd) [] (.null) 751 := ⟨rfl, rfl⟩
set_option maxRecDepth 100000 in
theorem jf_269_751 : jG m_L_law 751 (.iaload) [] (.null) 752 := ⟨rfl, rfl⟩
set_option maxRecDepth 100000 in
theorem jf_269_752 : jG m_L_law 752 (.invokevirtual 77) [6, 2, 0, m_B_told] (.null) 755 := ⟨rfl, rfl⟩
set_option maxRecDepth 100000 in
theorem jf_269_755 : jG m_L_law 755 (.aload_n 2) [] (.null) 756 := ⟨rfl, rfl⟩
set_option maxRecDepth 100000 in
theorem jf_269_756 : jG m_L_law 756 (.aload_n 0) [] (.null) 757 := ⟨rfl, rfl⟩
set_option maxRecDepth 100000 in
theorem jf_269_757 : jG m_L_law 757 (.iload_n 3) [] (.null) 758 := ⟨rfl, rfl⟩
set_option maxRecDepth 100000 in
theorem jf_269_758 : jG m_L_law 758 (.iconst 1) [] (.null) 759 := ⟨rfl, rfl⟩
set_option maxRecDepth 100000 in
theorem jf_269_759 : jG m_L_law 759 (.iadd) [] (.null) 760 := ⟨rfl, rfl⟩
set_option maxRecDepth 100000 in
theorem jf_269_760 : jG m_L_law 760 (.iaload) [] (.null) 761 := ⟨rfl, rfl⟩
set_option maxRecDepth 100000 in
theorem jf_269_761 : jG m_L_law 761 (.aload_n 0) [] (.null) 762 := ⟨rfl, rfl⟩
set_option maxRecDepth 100000 in
theorem jf_269_762 : jG m_L_law 762 (.iload_n 3) [] (.null) 763 := ⟨rfl, rfl⟩
set_option maxRecDepth 100000 in
theorem jf_269_763 : jG m_L_law 763 (.iconst 2) [] (.null) 764 := ⟨rfl, rfl⟩
set_option maxRecDepth 100000 in
theorem jf_269_764 : jG m_L_law 764 (.iadd) [] (.null) 765 := ⟨rfl, rfl⟩
set_option maxRecDepth 100000 in
theorem jf_269_765 : jG m_L_law 765 (.iaload) [] (.null) 766 := ⟨rfl, rfl⟩
set_option maxRecDepth 100000 in
theorem jf_269_766 : jG m_L_law 766 (.invokevirtual 80) [6, 2, 9, m_R_told] (.null) 769 := ⟨rfl, rfl⟩
set_option maxRecDepth 100000 in
theorem jf_269_769 : jG m_L_law 769 (.lcmp) [] (.null) 770 := ⟨rfl, rfl⟩
set_option maxRecDepth 100000 in
theorem jf_269_770 : jG m_L_law 770 (.ifCond .eq 309) [1079] (.null) 773 := ⟨rfl, rfl⟩
set_option maxRecDepth 100000 in
theorem jf_269_773 : jG m_L_law 773 (.iconst 0) [] (.null) 774 := ⟨rfl, rfl⟩
set_option maxRecDepth 100000 in
theorem jf_269_774 : jG m_L_law 774 (.ireturn) [] (.null) 775 := ⟨rfl, rfl⟩
set_option maxRecDepth 100000 in
theorem jf_269_775 : jG m_L_law 775 (.aload_n 1) [] (.null) 776 := ⟨rfl, rfl⟩
set_option maxRecDepth 100000 in
theorem jf_269_776 : jG m_L_law 776 (.aload_n 0) [] (.null) 777 := ⟨rfl, rfl⟩
set_option maxRecDepth 100000 in
theorem jf_269_777 : jG m_L_law 777 (.iload_n 3) [] (.null) 778 := ⟨rfl, rfl⟩
set_option maxRecDepth 100000 in
theorem jf_269_778 : jG m_L_law 778 (.iconst 1) [] (.null) 779 := ⟨rfl, rfl⟩
set_option maxRecDepth 100000 in
theorem jf_269_779 : jG m_L_law 779 (.iadd) [] (.null) 780 := ⟨rfl, rfl⟩
set_option maxRecDepth 100000 in
theorem jf_269_780 : jG m_L_law 780 (.iaload) [] (.null) 781 := ⟨rfl, rfl⟩
set_option maxRecDepth 100000 in
theorem jf_269_781 : jG m_L_law 781 (.invokevirtual 81) [6, 1, 0, m_B_reset] (.null) 784 := ⟨rfl, rfl⟩
set_option maxRecDepth 100000 in
theorem jf_269_784 : jG m_L_law 784 (.aload_n 2) [] (.null) 785 := ⟨rfl, rfl⟩
set_option maxRecDepth 100000 in
theorem jf_269_785 : jG m_L_law 785 (.aload_n 0) [] (.null) 786 := ⟨rfl, rfl⟩
set_option maxRecDepth 100000 in
theorem jf_269_786 : jG m_L_law 786 (.iload_n 3) [] (.null) 787 := ⟨rfl, rfl⟩
set_option maxRecDepth 100000 in
theorem jf_269_787 : jG m_L_law 787 (.iconst 1) [] (.null) 788 := ⟨rfl, rfl⟩
set_option maxRecDepth 100000 in
theorem jf_269_788 : jG m_L_law 788 (.iadd) [] (.null) 789 := ⟨rfl, rfl⟩
set_option maxRecDepth 100000 in
theorem jf_269_789 : jG m_L_law 789 (.iaload) [] (.null) 790 := ⟨rfl, rfl⟩
set_option maxRecDepth 100000 in
theorem jf_269_790 : jG m_L_law 790 (.invokevirtual 85) [6, 1, 9, m_R_reset] (.null) 793 := ⟨rfl, rfl⟩
set_option maxRecDepth 100000 in
theorem jf_269_793 : jG m_L_law 793 (.if_icmp .eq 286) [1079] (.null) 796 := ⟨rfl, rfl⟩
set_option maxRecDepth 100000 in
theorem jf_269_796 : jG m_L_law 796 (.iconst 0) [] (.null) 797 := ⟨rfl, rfl⟩
set_option maxRecDepth 100000 in
theorem jf_269_797 : jG m_L_law 797 (.ireturn) [] (.null) 798 := ⟨rfl, rfl⟩
set_option maxRecDepth 100000 in
theorem jf_269_798 : jG m_L_law 798 (.aload_n 1) [] (.null) 799 := ⟨rfl, rfl⟩
set_option maxRecDepth 100000 in
theorem jf_269_799 : jG m_L_law 799 (.aload_n 0) [] (.null) 800 := ⟨rfl, rfl⟩
set_option maxRecDepth 100000 in
theorem jf_269_800 : jG m_L_law 800 (.iload_n 3) [] (.null) 801 := ⟨rfl, rfl⟩
set_option maxRecDepth 100000 in
theorem jf_269_801 : jG m_L_law 801 (.iconst 1) [] (.null) 802 := ⟨rfl, rfl⟩
set_option maxRecDepth 100000 in
theorem jf_269_802 : jG m_L_law 802 (.iadd) [] (.null) 803 := ⟨rfl, rfl⟩
set_option maxRecDepth 100000 in
theorem jf_269_803 : jG m_L_law 803 (.iaload) [] (.null) 804 := ⟨rfl, rfl⟩
set_option maxRecDepth 100000 in
theorem jf_269_804 : jG m_L_law 804 (.invokevirtual 86) [6, 1, 0, m_B_keep] (.null) 807 := ⟨rfl, rfl⟩
set_option maxRecDepth 100000 in
theorem jf_269_807 : jG m_L_law 807 (.aload_n 2) [] (.null) 808 := ⟨rfl, rfl⟩
set_option maxRecDepth 100000 in
theorem jf_269_808 : jG m_L_law 808 (.aload_n 0) [] (.null) 809 := ⟨rfl, rfl⟩
set_option maxRecDepth 100000 in
theorem jf_269_809 : jG m_L_law 809 (.iload_n 3) [] (.null) 810 := ⟨rfl, rfl⟩
set_option maxRecDepth 100000 in
theorem jf_269_810 : jG m_L_law 810 (.iconst 1) [] (.null) 811 := ⟨rfl, rfl⟩
set_option maxRecDepth 100000 in
theorem jf_269_811 : jG m_L_law 811 (.iadd) [] (.null) 812 := ⟨rfl, rfl⟩
set_option maxRecDepth 100000 in
theorem jf_269_812 : jG m_L_law 812 (.iaload) [] (.null) 813 := ⟨rfl, rfl⟩
set_option maxRecDepth 100000 in
theorem jf_269_813 : jG m_L_law 813 (.invokevirtual 90) [6, 1, 9, m_R_keep] (.null) 816 := ⟨rfl, rfl⟩
set_option maxRecDepth 100000 in
theorem jf_269_816 : jG m_L_law 816 (.if_icmp .eq 263) [1079] (.null) 819 := ⟨rfl, rfl⟩
set_option maxRecDepth 100000 in
theorem jf_269_819 : jG m_L_law 819 (.iconst 0) [] (.null) 820 := ⟨rfl, rfl⟩
set_option maxRecDepth 100000 in
theorem jf_269_820 : jG m_L_law 820 (.ireturn) [] (.null) 821 := ⟨rfl, rfl⟩
set_option maxRecDepth 100000 in
theorem jf_269_821 : jG m_L_law 821 (.aload_n 1) [] (.null) 822 := ⟨rfl, rfl⟩
set_option maxRecDepth 100000 in
theorem jf_269_822 : jG m_L_law 822 (.aload_n 0) [] (.null) 823 := ⟨rfl, rfl⟩
set_option maxRecDepth 100000 in
theorem jf_269_823 : jG m_L_law 823 (.iload_n 3) [] (.null) 824 := ⟨rfl, rfl⟩
set_option maxRecDepth 100000 in
theorem jf_269_824 : jG m_L_law 824 (.iconst 1) [] (.null) 825 := ⟨rfl, rfl⟩
set_option maxRecDepth 100000 in
theorem jf_269_825 : jG m_L_law 825 (.iadd) [] (.null) 826 := ⟨rfl, rfl⟩
set_option maxRecDepth 100000 in
theorem jf_269_826 : jG m_L_law 826 (.iaload) [] (.null) 827 := ⟨rfl, rfl⟩
set_option maxRecDepth 100000 in
theorem jf_269_827 : jG m_L_law 827 (.invokevirtual 91) [6, 1, 0, m_B_back] (.null) 830 := ⟨rfl, rfl⟩
set_option maxRecDepth 100000 in
theorem jf_269_830 : jG m_L_law 830 (.aload_n 2) [] (.null) 831 := ⟨rfl, rfl⟩
set_option maxRecDepth 100000 in
theorem jf_269_831 : jG m_L_law 831 (.aload_n 0) [] (.null) 832 := ⟨rfl, rfl⟩
set_option maxRecDepth 100000 in
theorem jf_269_832 : jG m_L_law 832 (.iload_n 3) [] (.null) 833 := ⟨rfl, rfl⟩
set_option maxRecDepth 100000 in
theorem jf_269_833 : jG m_L_law 833 (.iconst 1) [] (.null) 834 := ⟨rfl, rfl⟩
set_option maxRecDepth 100000 in
theorem jf_269_834 : jG m_L_law 834 (.iadd) [] (.null) 835 := ⟨rfl, rfl⟩
set_option maxRecDepth 100000 in
theorem jf_269_835 : jG m_L_law 835 (.iaload) [] (.null) 836 := ⟨rfl, rfl⟩
set_option maxRecDepth 100000 in
theorem jf_269_836 : jG m_L_law 836 (.invokevirtual 94) [6, 1, 9, m_R_back] (.null) 839 := ⟨rfl, rfl⟩
set_option maxRecDepth 100000 in
theorem jf_269_839 : jG m_L_law 839 (.if_icmp .eq 240) [1079] (.null) 842 := ⟨rfl, rfl⟩
set_option maxRecDepth 100000 in
theorem jf_269_842 : jG m_L_law 842 (.iconst 0) [] (.null) 843 := ⟨rfl, rfl⟩
set_option maxRecDepth 100000 in
theorem jf_269_843 : jG m_L_law 843 (.ireturn) [] (.null) 844 := ⟨rfl, rfl⟩
set_option maxRecDepth 100000 in
theorem jf_269_844 : jG m_L_law 844 (.aload_n 1) [] (.null) 845 := ⟨rfl, rfl⟩
set_option maxRecDepth 100000 in
theorem jf_269_845 : jG m_L_law 845 (.aload_n 0) [] (.null) 846 := ⟨rfl, rfl⟩
set_option maxRecDepth 100000 in
theorem jf_269_846 : jG m_L_law 846 (.iload_n 3) [] (.null) 847 := ⟨rfl, rfl⟩
set_option maxRecDepth 100000 in
theorem jf_269_847 : jG m_L_law 847 (.iconst 1) [] (.null) 848 := ⟨rfl, rfl⟩
set_option maxRecDepth 100000 in
theorem jf_269_848 : jG m_L_law 848 (.iadd) [] (.null) 849 := ⟨rfl, rfl⟩
set_option maxRecDepth 100000 in
theorem jf_269_849 : jG m_L_law 849 (.iaload) [] (.null) 850 := ⟨rfl, rfl⟩
set_option maxRecDepth 100000 in
theorem jf_269_850 : jG m_L_law 850 (.invokevirtual 95) [6, 1, 0, m_B_same] (.null) 853 := ⟨rfl, rfl⟩
set_option maxRecDepth 100000 in
theorem jf_269_853 : jG m_L_law 853 (.aload_n 2) [] (.null) 854 := ⟨rfl, rfl⟩
set_option maxRecDepth 100000 in
theorem jf_269_854 : jG m_L_law 854 (.aload_n 0) [] (.null) 855 := ⟨rfl, rfl⟩
set_option maxRecDepth 100000 in
theorem jf_269_855 : jG m_L_law 855 (.iload_n 3) [] (.null) 856 := ⟨rfl, rfl⟩
set_option maxRecDepth 100000 in
theorem jf_269_856 : jG m_L_law 856 (.iconst 1) [] (.null) 857 := ⟨rfl, rfl⟩
set_option maxRecDepth 100000 in
theorem jf_269_857 : jG m_L_law 857 (.iadd) [] (.null) 858 := ⟨rfl, rfl⟩
set_option maxRecDepth 100000 in
theorem jf_269_858 : jG m_L_law 858 (.iaload) [] (.null) 859 := ⟨rfl, rfl⟩
set_option maxRecDepth 100000 in
theorem jf_269_859 : jG m_L_law 859 (.invokevirtual 98) [6, 1, 9, m_R_same] (.null) 862 := ⟨rfl, rfl⟩
set_option maxRecDepth 100000 in
theorem jf_269_862 : jG m_L_law 862 (.if_icmp .eq 217) [1079] (.null) 865 := ⟨rfl, rfl⟩
set_option maxRecDepth 100000 in
theorem jf_269_865 : jG m_L_law 865 (.iconst 0) [] (.null) 866 := ⟨rfl, rfl⟩
set_option maxRecDepth 100000 in
theorem jf_269_866 : jG m_L_law 866 (.ireturn) [] (.null) 867 := ⟨rfl, rfl⟩
set_option maxRecDepth 100000 in
theorem jf_269_867 : jG m_L_law 867 (.aload_n 1) [] (.null) 868 := ⟨rfl, rfl⟩
set_option maxRecDepth 100000 in
theorem jf_269_868 : jG m_L_law 868 (.aload_n 0) [] (.null) 869 := ⟨rfl, rfl⟩
set_option maxRecDepth 100000 in
theorem jf_269_869 : jG m_L_law 869 (.iload_n 3) [] (.null) 870 := ⟨rfl, rfl⟩
set_option maxRecDepth 100000 in
theorem jf_269_870 : jG m_L_law 870 (.iconst 1) [] (.null) 871 := ⟨rfl, rfl⟩
set_option maxRecDepth 100000 in
theorem jf_269_871 : jG m_L_law 871 (.iadd) [] (.null) 872 := ⟨rfl, rfl⟩
set_option maxRecDepth 100000 in
theorem jf_269_872 : jG m_L_law 872 (.iaload) [] (.null) 873 := ⟨rfl, rfl⟩
set_option maxRecDepth 100000 in
theorem jf_269_873 : jG m_L_law 873 (.invokevirtual 99) [6, 1, 0, m_B_poles] (.null) 876 := ⟨rfl, rfl⟩
set_option maxRecDepth 100000 in
theorem jf_269_876 : jG m_L_law 876 (.aload_n 2) [] (.null) 877 := ⟨rfl, rfl⟩
set_option maxRecDepth 100000 in
theorem jf_269_877 : jG m_L_law 877 (.aload_n 0) [] (.null) 878 := ⟨rfl, rfl⟩
set_option maxRecDepth 100000 in
theorem jf_269_878 : jG m_L_law 878 (.iload_n 3) [] (.null) 879 := ⟨rfl, rfl⟩
set_option maxRecDepth 100000 in
theorem jf_269_879 : jG m_L_law 879 (.iconst 1) [] (.null) 880 := ⟨rfl, rfl⟩
set_option maxRecDepth 100000 in
theorem jf_269_880 : jG m_L_law 880 (.iadd) [] (.null) 881 := ⟨rfl, rfl⟩
set_option maxRecDepth 100000 in
theorem jf_269_881 : jG m_L_law 881 (.iaload) [] (.null) 882 := ⟨rfl, rfl⟩
set_option maxRecDepth 100000 in
theorem jf_269_882 : jG m_L_law 882 (.invokevirtual 102) [6, 1, 9, m_R_poles] (.null) 885 := ⟨rfl, rfl⟩
set_option maxRecDepth 100000 in
theorem jf_269_885 : jG m_L_law 885 (.if_icmp .eq 194) [1079] (.null) 888 := ⟨rfl, rfl⟩
set_option maxRecDepth 100000 in
theorem jf_269_888 : jG m_L_law 888 (.iconst 0) [] (.null) 889 := ⟨rfl, rfl⟩
set_option maxRecDepth 100000 in
theorem jf_269_889 : jG m_L_law 889 (.ireturn) [] (.null) 890 := ⟨rfl, rfl⟩
set_option maxRecDepth 100000 in
theorem jf_269_890 : jG m_L_law 890 (.aload_n 1) [] (.null) 891 := ⟨rfl, rfl⟩
set_option maxRecDepth 100000 in
theorem jf_269_891 : jG m_L_law 891 (.aload_n 0) [] (.null) 892 := ⟨rfl, rfl⟩
set_option maxRecDepth 100000 in
theorem jf_269_892 : jG m_L_law 892 (.iload_n 3) [] (.null) 893 := ⟨rfl, rfl⟩
set_option maxRecDepth 100000 in
theorem jf_269_893 : jG m_L_law 893 (.iconst 1) [] (.null) 894 := ⟨rfl, rfl⟩
set_option maxRecDepth 100000 in
theorem jf_269_894 : jG m_L_law 894 (.iadd) [] (.null) 895 := ⟨rfl, rfl⟩
set_option maxRecDepth 100000 in
theorem jf_269_895 : jG m_L_law 895 (.iaload) [] (.null) 896 := ⟨rfl, rfl⟩
set_option maxRecDepth 100000 in
theorem jf_269_896 : jG m_L_law 896 (.invokevirtual 103) [6, 1, 0, m_B_cycles] (.null) 899 := ⟨rfl, rfl⟩
set_option maxRecDepth 100000 in
theorem jf_269_899 : jG m_L_law 899 (.aload_n 2) [] (.null) 900 := ⟨rfl, rfl⟩
set_option maxRecDepth 100000 in
theorem jf_269_900 : jG m_L_law 900 (.aload_n 0) [] (.null) 901 := ⟨rfl, rfl⟩
set_option maxRecDepth 100000 in
theorem jf_269_901 : jG m_L_law 901 (.iload_n 3) [] (.null) 902 := ⟨rfl, rfl⟩
set_option maxRecDepth 100000 in
theorem jf_269_902 : jG m_L_law 902 (.iconst 1) [] (.null) 903 := ⟨rfl, rfl⟩
set_option maxRecDepth 100000 in
theorem jf_269_903 : jG m_L_law 903 (.iadd) [] (.null) 904 := ⟨rfl, rfl⟩
set_option maxRecDepth 100000 in
theorem jf_269_904 : jG m_L_law 904 (.iaload) [] (.null) 905 := ⟨rfl, rfl⟩
set_option maxRecDepth 100000 in
theorem jf_269_905 : jG m_L_law 905 (.invokevirtual 106) [6, 1, 9, m_R_cycles] (.null) 908 := ⟨rfl, rfl⟩
set_option maxRecDepth 100000 in
theorem jf_269_908 : jG m_L_law 908 (.if_icmp .eq 171) [1079] (.null) 911 := ⟨rfl, rfl⟩
set_option maxRecDepth 100000 in
theorem jf_269_911 : jG m_L_law 911 (.iconst 0) [] (.null) 912 := ⟨rfl, rfl⟩
set_option maxRecDepth 100000 in
theorem jf_269_912 : jG m_L_law 912 (.ireturn) [] (.null) 913 := ⟨rfl, rfl⟩
set_option maxRecDepth 100000 in
theorem jf_269_913 : jG m_L_law 913 (.aload_n 1) [] (.null) 914 := ⟨rfl, rfl⟩
set_option maxRecDepth 100000 in
theorem jf_269_914 : jG m_L_law 914 (.aload_n 0) [] (.null) 915 := ⟨rfl, rfl⟩
set_option maxRecDepth 100000 in
theorem jf_269_915 : jG m_L_law 915 (.iload_n 3) [] (.null) 916 := ⟨rfl, rfl⟩
set_option maxRecDepth 100000 in
theorem jf_269_916 : jG m_L_law 916 (.iconst 1) [] (.null) 917 := ⟨rfl, rfl⟩
set_option maxRecDepth 100000 in
theorem jf_269_917 : jG m_L_law 917 (.iadd) [] (.null) 918 := ⟨rfl, rfl⟩
set_option maxRecDepth 100000 in
theorem jf_269_918 : jG m_L_law 918 (.iaload) [] (.null) 919 := ⟨rfl, rfl⟩
set_option maxRecDepth 100000 in
theorem jf_269_919 : jG m_L_law 919 (.aload_n 0) [] (.null) 920 := ⟨rfl, rfl⟩
set_option maxRecDepth 100000 in
theorem jf_269_920 : jG m_L_law 920 (.iload_n 3) [] (.null) 921 := ⟨rfl, rfl⟩
set_option maxRecDepth 100000 in
theorem jf_269_921 : jG m_L_law 921 (.iconst 2) [] (.null) 922 := ⟨rfl, rfl⟩
set_option maxRecDepth 100000 in
theorem jf_269_922 : jG m_L_law 922 (.iadd) [] (.null) 923 := ⟨rfl, rfl⟩
set_option maxRecDepth 100000 in
theorem jf_269_923 : jG m_L_law 923 (.iaload) [] (.null) 924 := ⟨rfl, rfl⟩
set_option maxRecDepth 100000 in
theorem jf_269_924 : jG m_L_law 924 (.aload_n 0) [] (.null) 925 := ⟨rfl, rfl⟩
set_option maxRecDepth 100000 in
theorem jf_269_925 : jG m_L_law 925 (.iload_n 3) [] (.null) 926 := ⟨rfl, rfl⟩
set_option maxRecDepth 100000 in
theorem jf_269_926 : jG m_L_law 926 (.iconst 3) [] (.null) 927 := ⟨rfl, rfl⟩
set_option maxRecDepth 100000 in
theorem jf_269_927 : jG m_L_law 927 (.iadd) [] (.null) 928 := ⟨rfl, rfl⟩
set_option maxRecDepth 100000 in
theorem jf_269_928 : jG m_L_law 928 (.iaload) [] (.null) 929 := ⟨rfl, rfl⟩
set_option maxRecDepth 100000 in
theorem jf_269_929 : jG m_L_law 929 (.invokevirtual 107) [6, 3, 0, m_B_cycle] (.null) 932 := ⟨rfl, rfl⟩
set_option maxRecDepth 100000 in
theorem jf_269_932 : jG m_L_law 932 (.aload_n 2) [] (.null) 933 := ⟨rfl, rfl⟩
set_option maxRecDepth 100000 in
theorem jf_269_933 : jG m_L_law 933 (.aload_n 0) [] (.null) 934 := ⟨rfl, rfl⟩
set_option maxRecDepth 100000 in
theorem jf_269_934 : jG m_L_law 934 (.iload_n 3) [] (.null) 935 := ⟨rfl, rfl⟩
set_option maxRecDepth 100000 in
theorem jf_269_935 : jG m_L_law 935 (.iconst 1) [] (.null) 936 := ⟨rfl, rfl⟩
set_option maxRecDepth 100000 in
theorem jf_269_936 : jG m_L_law 936 (.iadd) [] (.null) 937 := ⟨rfl, rfl⟩
set_option maxRecDepth 100000 in
theorem jf_269_937 : jG m_L_law 937 (.iaload) [] (.null) 938 := ⟨rfl, rfl⟩
set_option maxRecDepth 100000 in
theorem jf_269_938 : jG m_L_law 938 (.aload_n 0) [] (.null) 939 := ⟨rfl, rfl⟩
set_option maxRecDepth 100000 in
theorem jf_269_939 : jG m_L_law 939 (.iload_n 3) [] (.null) 940 := ⟨rfl, rfl⟩
set_option maxRecDepth 100000 in
theorem jf_269_940 : jG m_L_law 940 (.iconst 2) [] (.null) 941 := ⟨rfl, rfl⟩
set_option maxRecDepth 100000 in
theorem jf_269_941 : jG m_L_law 941 (.iadd) [] (.null) 942 := ⟨rfl, rfl⟩
set_option maxRecDepth 100000 in
theorem jf_269_942 : jG m_L_law 942 (.iaload) [] (.null) 943 := ⟨rfl, rfl⟩
set_option maxRecDepth 100000 in
theorem jf_269_943 : jG m_L_law 943 (.aload_n 0) [] (.null) 944 := ⟨rfl, rfl⟩
set_option maxRecDepth 100000 in
theorem jf_269_944 : jG m_L_law 944 (.iload_n 3) [] (.null) 945 := ⟨rfl, rfl⟩
set_option maxRecDepth 100000 in
theorem jf_269_945 : jG m_L_law 945 (.iconst 3) [] (.null) 946 := ⟨rfl, rfl⟩
set_option maxRecDepth 100000 in
theorem jf_269_946 : jG m_L_law 946 (.iadd) [] (.null) 947 := ⟨rfl, rfl⟩
set_option maxRecDepth 100000 in
theorem jf_269_947 : jG m_L_law 947 (.iaload) [] (.null) 948 := ⟨rfl, rfl⟩
set_option maxRecDepth 100000 in
theorem jf_269_948 : jG m_L_law 948 (.invokevirtual 110) [6, 3, 9, m_R_cycle] (.null) 951 := ⟨rfl, rfl⟩
set_option maxRecDepth 100000 in
theorem jf_269_951 : jG m_L_law 951 (.if_icmp .eq 128) [1079] (.null) 954 := ⟨rfl, rfl⟩
set_option maxRecDepth 100000 in
theorem jf_269_954 : jG m_L_law 954 (.iconst 0) [] (.null) 955 := ⟨rfl, rfl⟩
set_option maxRecDepth 100000 in
theorem jf_269_955 : jG m_L_law 955 (.ireturn) [] (.null) 956 := ⟨rfl, rfl⟩
set_option maxRecDepth 100000 in
theorem jf_269_956 : jG m_L_law 956 (.aload_n 1) [] (.null) 957 := ⟨rfl, rfl⟩
set_option maxRecDepth 100000 in
theorem jf_269_957 : jG m_L_law 957 (.aload_n 0) [] (.null) 958 := ⟨rfl, rfl⟩
set_option maxRecDepth 100000 in
theorem jf_269_958 : jG m_L_law 958 (.iload_n 3) [] (.null) 959 := ⟨rfl, rfl⟩
set_option maxRecDepth 100000 in
theorem jf_269_959 : jG m_L_law 959 (.iconst 1) [] (.null) 960 := ⟨rfl, rfl⟩
set_option maxRecDepth 100000 in
theorem jf_269_960 : jG m_L_law 960 (.iadd) [] (.null) 961 := ⟨rfl, rfl⟩
set_option maxRecDepth 100000 in
theorem jf_269_961 : jG m_L_law 961 (.iaload) [] (.null) 962 := ⟨rfl, rfl⟩
set_option maxRecDepth 100000 in
theorem jf_269_962 : jG m_L_law 962 (.aload_n 0) [] (.null) 963 := ⟨rfl, rfl⟩
set_option maxRecDepth 100000 in
theorem jf_269_963 : jG m_L_law 963 (.iload_n 3) [] (.null) 964 := ⟨rfl, rfl⟩
set_option maxRecDepth 100000 in
theorem jf_269_964 : jG m_L_law 964 (.iconst 2) [] (.null) 965 := ⟨rfl, rfl⟩
set_option maxRecDepth 100000 in
theorem jf_269_965 : jG m_L_law 965 (.iadd) [] (.null) 966 := ⟨rfl, rfl⟩
set_option maxRecDepth 100000 in
theorem jf_269_966 : jG m_L_law 966 (.iaload) [] (.null) 967 := ⟨rfl, rfl⟩
set_option maxRecDepth 100000 in
theorem jf_269_967 : jG m_L_law 967 (.invokevirtual 111) [6, 2, 0, m_B_convert] (.null) 970 := ⟨rfl, rfl⟩
set_option maxRecDepth 100000 in
theorem jf_269_970 : jG m_L_law 970 (.aload_n 2) [] (.null) 971 := ⟨rfl, rfl⟩
set_option maxRecDepth 100000 in
theorem jf_269_971 : jG m_L_law 971 (.aload_n 0) [] (.null) 972 := ⟨rfl, rfl⟩
set_option maxRecDepth 100000 in
theorem jf_269_972 : jG m_L_law 972 (.iload_n 3) [] (.null) 973 := ⟨rfl, rfl⟩
set_option maxRecDepth 100000 in
theorem jf_269_973 : jG m_L_law 973 (.iconst 1) [] (.null) 974 := ⟨rfl, rfl⟩
set_option maxRecDepth 100000 in
theorem jf_269_974 : jG m_L_law 974 (.iadd) [] (.null) 975 := ⟨rfl, rfl⟩
set_option maxRecDepth 100000 in
theorem jf_269_975 : jG m_L_law 975 (.iaload) [] (.null) 976 := ⟨rfl, rfl⟩
set_option maxRecDepth 100000 in
theorem jf_269_976 : jG m_L_law 976 (.aload_n 0) [] (.null) 977 := ⟨rfl, rfl⟩
set_option maxRecDepth 100000 in
theorem jf_269_977 : jG m_L_law 977 (.iload_n 3) [] (.null) 978 := ⟨rfl, rfl⟩
set_option maxRecDepth 100000 in
theorem jf_269_978 : jG m_L_law 978 (.iconst 2) [] (.null) 979 := ⟨rfl, rfl⟩
set_option maxRecDepth 100000 in
theorem jf_269_979 : jG m_L_law 979 (.iadd) [] (.null) 980 := ⟨rfl, rfl⟩
set_option maxRecDepth 100000 in
theorem jf_269_980 : jG m_L_law 980 (.iaload) [] (.null) 981 := ⟨rfl, rfl⟩
set_option maxRecDepth 100000 in
theorem jf_269_981 : jG m_L_law 981 (.invokevirtual 114) [6, 2, 9, m_R_convert] (.null) 984 := ⟨rfl, rfl⟩
set_option maxRecDepth 100000 in
theorem jf_269_984 : jG m_L_law 984 (.if_icmp .eq 95) [1079] (.null) 987 := ⟨rfl, rfl⟩
set_option maxRecDepth 100000 in
theorem jf_269_987 : jG m_L_law 987 (.iconst 0) [] (.null) 988 := ⟨rfl, rfl⟩
set_option maxRecDepth 100000 in
theorem jf_269_988 : jG m_L_law 988 (.ireturn) [] (.null) 989 := ⟨rfl, rfl⟩
set_option maxRecDepth 100000 in
theorem jf_269_989 : jG m_L_law 989 (.aload_n 1) [] (.null) 990 := ⟨rfl, rfl⟩
set_option maxRecDepth 100000 in
theorem jf_269_990 : jG m_L_law 990 (.aload_n 0) [] (.null) 991 := ⟨rfl, rfl⟩
set_option maxRecDepth 100000 in
theorem jf_269_991 : jG m_L_law 991 (.iload_n 3) [] (.null) 992 := ⟨rfl, rfl⟩
set_option maxRecDepth 100000 in
theorem jf_269_992 : jG m_L_law 992 (.iconst 1) [] (.null) 993 := ⟨rfl, rfl⟩
set_option maxRecDepth 100000 in
theorem jf_269_993 : jG m_L_law 993 (.iadd) [] (.null) 994 := ⟨rfl, rfl⟩
set_option maxRecDepth 100000 in
theorem jf_269_994 : jG m_L_law 994 (.iaload) [] (.null) 995 := ⟨rfl, rfl⟩
set_option maxRecDepth 100000 in
theorem jf_269_995 : jG m_L_law 995 (.aload_n 0) [] (.null) 996 := ⟨rfl, rfl⟩
set_option maxRecDepth 100000 in
theorem jf_269_996 : jG m_L_law 996 (.iload_n 3) [] (.null) 997 := ⟨rfl, rfl⟩
set_option maxRecDepth 100000 in
theorem jf_269_997 : jG m_L_law 997 (.iconst 2) [] (.null) 998 := ⟨rfl, rfl⟩
set_option maxRecDepth 100000 in
theorem jf_269_998 : jG m_L_law 998 (.iadd) [] (.null) 999 := ⟨rfl, rfl⟩
set_option maxRecDepth 100000 in
theorem jf_269_999 : jG m_L_law 999 (.iaload) [] (.null) 1000 := ⟨rfl, rfl⟩
set_option maxRecDepth 100000 in
theorem jf_269_1000 : jG m_L_law 1000 (.invokevirtual 115) [6, 2, 0, m_B_measure] (.null) 1003 := ⟨rfl, rfl⟩
set_option maxRecDepth 100000 in
theorem jf_269_1003 : jG m_L_law 1003 (.aload_n 2) [] (.null) 1004 := ⟨rfl, rfl⟩
set_option maxRecDepth 100000 in
theorem jf_269_1004 : jG m_L_law 1004 (.aload_n 0) [] (.null) 1005 := ⟨rfl, rfl⟩
set_option maxRecDepth 100000 in
theorem jf_269_1005 : jG m_L_law 1005 (.iload_n 3) [] (.null) 1006 := ⟨rfl, rfl⟩
set_option maxRecDepth 100000 in
theorem jf_269_1006 : jG m_L_law 1006 (.iconst 1) [] (.null) 1007 := ⟨rfl, rfl⟩
set_option maxRecDepth 100000 in
theorem jf_269_1007 : jG m_L_law 1007 (.iadd) [] (.null) 1008 := ⟨rfl, rfl⟩
set_option maxRecDepth 100000 in
theorem jf_269_1008 : jG m_L_law 1008 (.iaload) [] (.null) 1009 := ⟨rfl, rfl⟩
set_option maxRecDepth 100000 in
theorem jf_269_1009 : jG m_L_law 1009 (.aload_n 0) [] (.null) 1010 := ⟨rfl, rfl⟩
set_option maxRecDepth 100000 in
theorem jf_269_1010 : jG m_L_law 1010 (.iload_n 3) [] (.null) 1011 := ⟨rfl, rfl⟩
set_option maxRecDepth 100000 in
theorem jf_269_1011 : jG m_L_law 1011 (.iconst 2) [] (.null) 1012 := ⟨rfl, rfl⟩
set_option maxRecDepth 100000 in
theorem jf_269_1012 : jG m_L_law 1012 (.iadd) [] (.null) 1013 := ⟨rfl, rfl⟩
set_option maxRecDepth 100000 in
theorem jf_269_1013 : jG m_L_law 1013 (.iaload) [] (.null) 1014 := ⟨rfl, rfl⟩
set_option maxRecDepth 100000 in
theorem jf_269_1014 : jG m_L_law 1014 (.invokevirtual 118) [6, 2, 9, m_R_measure] (.null) 1017 := ⟨rfl, rfl⟩
set_option maxRecDepth 100000 in
theorem jf_269_1017 : jG m_L_law 1017 (.lcmp) [] (.null) 1018 := ⟨rfl, rfl⟩
set_option maxRecDepth 100000 in
theorem jf_269_1018 : jG m_L_law 1018 (.ifCond .eq 61) [1079] (.null) 1021 := ⟨rfl, rfl⟩
set_option maxRecDepth 100000 in
theorem jf_269_1021 : jG m_L_law 1021 (.iconst 0) [] (.null) 1022 := ⟨rfl, rfl⟩
set_option maxRecDepth 100000 in
theorem jf_269_1022 : jG m_L_law 1022 (.ireturn) [] (.null) 1023 := ⟨rfl, rfl⟩
set_option maxRecDepth 100000 in
theorem jf_269_1023 : jG m_L_law 1023 (.aload_n 1) [] (.null) 1024 := ⟨rfl, rfl⟩
set_option maxRecDepth 100000 in
theorem jf_269_1024 : jG m_L_law 1024 (.aload_n 0) [] (.null) 1025 := ⟨rfl, rfl⟩
set_option maxRecDepth 100000 in
theorem jf_269_1025 : jG m_L_law 1025 (.iload_n 3) [] (.null) 1026 := ⟨rfl, rfl⟩
set_option maxRecDepth 100000 in
theorem jf_269_1026 : jG m_L_law 1026 (.iconst 1) [] (.null) 1027 := ⟨rfl, rfl⟩
set_option maxRecDepth 100000 in
theorem jf_269_1027 : jG m_L_law 1027 (.iadd) [] (.null) 1028 := ⟨rfl, rfl⟩
set_option maxRecDepth 100000 in
theorem jf_269_1028 : jG m_L_law 1028 (.iaload) [] (.null) 1029 := ⟨rfl, rfl⟩
set_option maxRecDepth 100000 in
theorem jf_269_1029 : jG m_L_law 1029 (.invokevirtual 119) [6, 1, 0, m_B_count] (.null) 1032 := ⟨rfl, rfl⟩
set_option maxRecDepth 100000 in
theorem jf_269_1032 : jG m_L_law 1032 (.aload_n 2) [] (.null) 1033 := ⟨rfl, rfl⟩
set_option maxRecDepth 100000 in
theorem jf_269_1033 : jG m_L_law 1033 (.aload_n 0) [] (.null) 1034 := ⟨rfl, rfl⟩
set_option maxRecDepth 100000 in
theorem jf_269_1034 : jG m_L_law 1034 (.iload_n 3) [] (.null) 1035 := ⟨rfl, rfl⟩
set_option maxRecDepth 100000 in
theorem jf_269_1035 : jG m_L_law 1035 (.iconst 1) [] (.null) 1036 := ⟨rfl, rfl⟩
set_option maxRecDepth 100000 in
theorem jf_269_1036 : jG m_L_law 1036 (.iadd) [] (.null) 1037 := ⟨rfl, rfl⟩
set_option maxRecDepth 100000 in
theorem jf_269_1037 : jG m_L_law 1037 (.iaload) [] (.null) 1038 := ⟨rfl, rfl⟩
set_option maxRecDepth 100000 in
theorem jf_269_1038 : jG m_L_law 1038 (.invokevirtual 122) [6, 1, 9, m_R_count] (.null) 1041 := ⟨rfl, rfl⟩
set_option maxRecDepth 100000 in
theorem jf_269_1041 : jG m_L_law 1041 (.if_icmp .eq 38) [1079] (.null) 1044 := ⟨rfl, rfl⟩
set_option maxRecDepth 100000 in
theorem jf_269_1044 : jG m_L_law 1044 (.iconst 0) [] (.null) 1045 := ⟨rfl, rfl⟩
set_option maxRecDepth 100000 in
theorem jf_269_1045 : jG m_L_law 1045 (.ireturn) [] (.null) 1046 := ⟨rfl, rfl⟩
set_option maxRecDepth 100000 in
theorem jf_269_1046 : jG m_L_law 1046 (.aload_n 1) [] (.null) 1047 := ⟨rfl, rfl⟩
set_option maxRecDepth 100000 in
theorem jf_269_1047 : jG m_L_law 1047 (.aload_n 0) [] (.null) 1048 := ⟨rfl, rfl⟩
set_option maxRecDepth 100000 in
theorem jf_269_1048 : jG m_L_law 1048 (.iload_n 3) [] (.null) 1049 := ⟨rfl, rfl⟩
set_option maxRecDepth 100000 in
theorem jf_269_1049 : jG m_L_law 1049 (.iconst 1) [] (.null) 1050 := ⟨rfl, rfl⟩
set_option maxRecDepth 100000 in
theorem jf_269_1050 : jG m_L_law 1050 (.iadd) [] (.null) 1051 := ⟨rfl, rfl⟩
set_option maxRecDepth 100000 in
theorem jf_269_1051 : jG m_L_law 1051 (.iaload) [] (.null) 1052 := ⟨rfl, rfl⟩
set_option maxRecDepth 100000 in
theorem jf_269_1052 : jG m_L_law 1052 (.aload_n 0) [] (.null) 1053 := ⟨rfl, rfl⟩
set_option maxRecDepth 100000 in
theorem jf_269_1053 : jG m_L_law 1053 (.iload_n 3) [] (.null) 1054 := ⟨rfl, rfl⟩
set_option maxRecDepth 100000 in
theorem jf_269_1054 : jG m_L_law 1054 (.iconst 2) [] (.null) 1055 := ⟨rfl, rfl⟩
set_option maxRecDepth 100000 in
theorem jf_269_1055 : jG m_L_law 1055 (.iadd) [] (.null) 1056 := ⟨rfl, rfl⟩
set_option maxRecDepth 100000 in
theorem jf_269_1056 : jG m_L_law 1056 (.iaload) [] (.null) 1057 := ⟨rfl, rfl⟩
set_option maxRecDepth 100000 in
theorem jf_269_1057 : jG m_L_law 1057 (.invokevirtual 123) [6, 2, 0, m_B_chain_2] (.null) 1060 := ⟨rfl, rfl⟩
set_option maxRecDepth 100000 in
theorem jf_269_1060 : jG m_L_law 1060 (.aload_n 2) [] (.null) 1061 := ⟨rfl, rfl⟩
set_option maxRecDepth 100000 in
theorem jf_269_1061 : jG m_L_law 1061 (.aload_n 0) [] (.null) 1062 := ⟨rfl, rfl⟩
set_option maxRecDepth 100000 in
theorem jf_269_1062 : jG m_L_law 1062 (.iload_n 3) [] (.null) 1063 := ⟨rfl, rfl⟩
set_option maxRecDepth 100000 in
theorem jf_269_1063 : jG m_L_law 1063 (.iconst 1) [] (.null) 1064 := ⟨rfl, rfl⟩
set_option maxRecDepth 100000 in
theorem jf_269_1064 : jG m_L_law 1064 (.iadd) [] (.null) 1065 := ⟨rfl, rfl⟩
set_option maxRecDepth 100000 in
theorem jf_269_1065 : jG m_L_law 1065 (.iaload) [] (.null) 1066 := ⟨rfl, rfl⟩
set_option maxRecDepth 100000 in
theorem jf_269_1066 : jG m_L_law 1066 (.aload_n 0) [] (.null) 1067 := ⟨rfl, rfl⟩
set_option maxRecDepth 100000 in
theorem jf_269_1067 : jG m_L_law 1067 (.iload_n 3) [] (.null) 1068 := ⟨rfl, rfl⟩
set_option maxRecDepth 100000 in
theorem jf_269_1068 : jG m_L_law 1068 (.iconst 2) [] (.null) 1069 := ⟨rfl, rfl⟩
set_option maxRecDepth 100000 in
theorem jf_269_1069 : jG m_L_law 1069 (.iadd) [] (.null) 1070 := ⟨rfl, rfl⟩
set_option maxRecDepth 100000 in
theorem jf_269_1070 : jG m_L_law 1070 (.iaload) [] (.null) 1071 := ⟨rfl, rfl⟩
set_option maxRecDepth 100000 in
theorem jf_269_1071 : jG m_L_law 1071 (.invokevirtual 125) [6, 2, 9, m_R_chain_2] (.null) 1074 := ⟨rfl, rfl⟩
set_option maxRecDepth 100000 in
theorem jf_269_1074 : jG m_L_law 1074 (.if_icmp .eq 5) [1079] (.null) 1077 := ⟨rfl, rfl⟩
set_option maxRecDepth 100000 in
theorem jf_269_1077 : jG m_L_law 1077 (.iconst 0) [] (.null) 1078 := ⟨rfl, rfl⟩
set_option maxRecDepth 100000 in
theorem jf_269_1078 : jG m_L_law 1078 (.ireturn) [] (.null) 1079 := ⟨rfl, rfl⟩
set_option maxRecDepth 100000 in
theorem jf_269_1079 : jG m_L_law 1079 (.iinc 3 7) [] (.null) 1082 := ⟨rfl, rfl⟩
set_option maxRecDepth 100000 in
theorem jf_269_1082 : jG m_L_law 1082 (.goto (-1064)) [18] (.null) 1085 := ⟨rfl, rfl⟩
set_option maxRecDepth 100000 in
theorem jf_269_1085 : jG m_L_law 1085 (.iconst 1) [] (.null) 1086 := ⟨rfl, rfl⟩
set_option maxRecDepth 100000 in
theorem jf_269_1086 : jG m_L_law 1086 (.ireturn) [] (.null) 1087 := ⟨rfl, rfl⟩
