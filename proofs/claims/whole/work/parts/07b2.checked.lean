/-! the checks, method by method (printed by wip/whole/gen2.py) -/
theorem jal_187 : jall ⟨"FilterBenchModel", "in", "(III)Z"⟩ prog_12_method_3_code jT_187 jH_187 = true := by decide +kernel
theorem jok_187 : jokM 187 = true := jal_187
set_option maxRecDepth 100000 in
theorem jmo_187 : jmOK 187 := ⟨List.mem_of_getElem? (i := 1389) rfl, by decide +kernel⟩
theorem jal_188 : jall ⟨"FilterBenchModel", "isLength", "(II)Z"⟩ prog_12_method_9_code jT_188 jH_188 = true := by decide +kernel
theorem jok_188 : jokM 188 = true := jal_188
set_option maxRecDepth 100000 in
theorem jmo_188 : jmOK 188 := ⟨List.mem_of_getElem? (i := 1392) rfl, by decide +kernel⟩
theorem jal_189 : jall ⟨"FilterBenchModel", "newSection", "(III)I"⟩ prog_12_method_11_code jT_189 jH_189 = true := by decide +kernel
theorem jok_189 : jokM 189 = true := jal_189
set_option maxRecDepth 100000 in
theorem jmo_189 : jmOK 189 := ⟨List.mem_of_getElem? (i := 1396) rfl, by decide +kernel⟩
theorem jal_190 : jall ⟨"FilterBenchModel", "clears", "(I)V"⟩ prog_12_method_12_code jT_190 jH_190 = true := by decide +kernel
theorem jok_190 : jokM 190 = true := jal_190
set_option maxRecDepth 100000 in
theorem jmo_190 : jmOK 190 := ⟨List.mem_of_getElem? (i := 1400) rfl, by decide +kernel⟩
theorem jal_191 : jall ⟨"FilterBenchModel", "coefficient", "(IIJ)Z"⟩ prog_12_method_16_code jT_191 jH_191 = true := by decide +kernel
theorem jok_191 : jokM 191 = true := jal_191
set_option maxRecDepth 100000 in
theorem jmo_191 : jmOK 191 := ⟨List.mem_of_getElem? (i := 1404) rfl, by decide +kernel⟩
theorem jal_192 : jall ⟨"FilterBenchModel", "isCoefficient", "(II)Z"⟩ prog_12_method_14_code jT_192 jH_192 = true := by decide +kernel
theorem jok_192 : jokM 192 = true := jal_192
set_option maxRecDepth 100000 in
theorem jmo_192 : jmOK 192 := ⟨List.mem_of_getElem? (i := 1408) rfl, by decide +kernel⟩
theorem jal_193 : jall ⟨"FilterBenchModel", "isSection", "(I)Z"⟩ prog_12_method_4_code jT_193 jH_193 = true := by decide +kernel
theorem jok_193 : jokM 193 = true := jal_193
set_option maxRecDepth 100000 in
theorem jmo_193 : jmOK 193 := ⟨List.mem_of_getElem? (i := 1412) rfl, by decide +kernel⟩
theorem jal_194 : jall ⟨"FilterBenchModel", "coefficientsOf", "(I)I"⟩ prog_12_method_13_code jT_194 jH_194 = true := by decide +kernel
theorem jok_194 : jokM 194 = true := jal_194
set_option maxRecDepth 100000 in
theorem jmo_194 : jmOK 194 := ⟨List.mem_of_getElem? (i := 1415) rfl, by decide +kernel⟩
theorem jal_195 : jall ⟨"FilterBenchModel", "isValue", "(IJ)Z"⟩ prog_12_method_6_code jT_195 jH_195 = true := by decide +kernel
theorem jok_195 : jokM 195 = true := jal_195
set_option maxRecDepth 100000 in
theorem jmo_195 : jmOK 195 := ⟨List.mem_of_getElem? (i := 1418) rfl, by decide +kernel⟩
theorem jal_196 : jall ⟨"FilterBenchModel", "valueOf", "(IJ)D"⟩ prog_12_method_7_code jT_196 jH_196 = true := by decide +kernel
theorem jok_196 : jokM 196 = true := jal_196
set_option maxRecDepth 100000 in
theorem jmo_196 : jmOK 196 := ⟨List.mem_of_getElem? (i := 1425) rfl, by decide +kernel⟩
theorem jal_197 : jall ⟨"FilterBenchModel", "ratio", "(IIII)Z"⟩ prog_12_method_17_code jT_197 jH_197 = true := by decide +kernel
theorem jok_197 : jokM 197 = true := jal_197
set_option maxRecDepth 100000 in
theorem jmo_197 : jmOK 197 := ⟨List.mem_of_getElem? (i := 1440) rfl, by decide +kernel⟩
theorem jal_198 : jall ⟨"FilterBenchModel", "isPlain", "(I)Z"⟩ prog_12_method_15_code jT_198 jH_198 = true := by decide +kernel
theorem jok_198 : jokM 198 = true := jal_198
set_option maxRecDepth 100000 in
theorem jmo_198 : jmOK 198 := ⟨List.mem_of_getElem? (i := 1443) rfl, by decide +kernel⟩
theorem jal_199 : jall ⟨"FilterBenchModel", "floor", "(JJ)J"⟩ prog_12_method_18_code jT_199 jH_199 = true := by decide +kernel
theorem jok_199 : jokM 199 = true := jal_199
set_option maxRecDepth 100000 in
theorem jmo_199 : jmOK 199 := ⟨List.mem_of_getElem? (i := 1447) rfl, by decide +kernel⟩
theorem jal_200 : jall ⟨"FilterBenchModel", "rule", "(III)Z"⟩ prog_12_method_19_code jT_200 jH_200 = true := by decide +kernel
theorem jok_200 : jokM 200 = true := jal_200
set_option maxRecDepth 100000 in
theorem jmo_200 : jmOK 200 := ⟨List.mem_of_getElem? (i := 1452) rfl, by decide +kernel⟩
theorem jal_201 : jall ⟨"FilterBenchModel", "chain", "()I"⟩ prog_12_method_20_code jT_201 jH_201 = true := by decide +kernel
theorem jok_201 : jokM 201 = true := jal_201
set_option maxRecDepth 100000 in
theorem jmo_201 : jmOK 201 := ⟨List.mem_of_getElem? (i := 1456) rfl, by decide +kernel⟩
theorem jal_202 : jall ⟨"FilterBenchModel", "newChain", "()I"⟩ prog_12_method_21_code jT_202 jH_202 = true := by decide +kernel
theorem jok_202 : jokM 202 = true := jal_202
set_option maxRecDepth 100000 in
theorem jmo_202 : jmOK 202 := ⟨List.mem_of_getElem? (i := 1460) rfl, by decide +kernel⟩
theorem jal_203 : jall ⟨"FilterBenchModel", "add", "(II)I"⟩ prog_12_method_24_code jT_203 jH_203 = true := by decide +kernel
theorem jok_203 : jokM 203 = true := jal_203
set_option maxRecDepth 100000 in
theorem jmo_203 : jmOK 203 := ⟨List.mem_of_getElem? (i := 1464) rfl, by decide +kernel⟩
theorem jal_204 : jall ⟨"FilterBenchModel", "isChain", "(I)Z"⟩ prog_12_method_5_code jT_204 jH_204 = true := by decide +kernel
theorem jok_204 : jokM 204 = true := jal_204
set_option maxRecDepth 100000 in
theorem jmo_204 : jmOK 204 := ⟨List.mem_of_getElem? (i := 1468) rfl, by decide +kernel⟩
theorem jal_205 : jall ⟨"FilterBenchModel", "sortOf", "(I)I"⟩ prog_12_method_22_code jT_205 jH_205 = true := by decide +kernel
theorem jok_205 : jokM 205 = true := jal_205
set_option maxRecDepth 100000 in
theorem jmo_205 : jmOK 205 := ⟨List.mem_of_getElem? (i := 1472) rfl, by decide +kernel⟩
theorem jal_206 : jall ⟨"FilterBenchModel", "countOf", "(III)I"⟩ prog_12_method_23_code jT_206 jH_206 = true := by decide +kernel
theorem jok_206 : jokM 206 = true := jal_206
set_option maxRecDepth 100000 in
theorem jmo_206 : jmOK 206 := ⟨List.mem_of_getElem? (i := 1476) rfl, by decide +kernel⟩
theorem jal_207 : jall ⟨"FilterBenchModel", "join", "(II)I"⟩ prog_12_method_25_code jT_207 jH_207 = true := by decide +kernel
theorem jok_207 : jokM 207 = true := jal_207
set_option maxRecDepth 100000 in
theorem jmo_207 : jmOK 207 := ⟨List.mem_of_getElem? (i := 1480) rfl, by decide +kernel⟩
theorem jal_208 : jall ⟨"FilterBenchModel", "loop", "(IIIIJ)I"⟩ prog_12_method_26_code jT_208 jH_208 = true := by decide +kernel
theorem jok_208 : jokM 208 = true := jal_208
set_option maxRecDepth 100000 in
theorem jmo_208 : jmOK 208 := ⟨List.mem_of_getElem? (i := 1484) rfl, by decide +kernel⟩
theorem jal_209 : jall ⟨"FilterBenchModel", "newLoop", "(IIIID)I"⟩ prog_12_method_27_code jT_209 jH_209 = true := by decide +kernel
theorem jok_209 : jokM 209 = true := jal_209
set_option maxRecDepth 100000 in
theorem jmo_209 : jmOK 209 := ⟨List.mem_of_getElem? (i := 1488) rfl, by decide +kernel⟩
theorem jal_210 : jall ⟨"FilterBenchModel", "within", "(II)Z"⟩ prog_12_method_28_code jT_210 jH_210 = true := by decide +kernel
theorem jok_210 : jokM 210 = true := jal_210
set_option maxRecDepth 100000 in
theorem jmo_210 : jmOK 210 := ⟨List.mem_of_getElem? (i := 1492) rfl, by decide +kernel⟩
theorem jal_211 : jall ⟨"FilterBenchModel", "feed", "(IJ)I"⟩ prog_12_method_49_code jT_211 jH_211 = true := by decide +kernel
theorem jok_211 : jokM 211 = true := jal_211
set_option maxRecDepth 100000 in
theorem jmo_211 : jmOK 211 := ⟨List.mem_of_getElem? (i := 1496) rfl, by decide +kernel⟩
theorem jal_212 : jall ⟨"FilterBenchModel", "isFed", "(I)Z"⟩ prog_12_method_50_code jT_212 jH_212 = true := by decide +kernel
theorem jok_212 : jokM 212 = true := jal_212
set_option maxRecDepth 100000 in
theorem jmo_212 : jmOK 212 := ⟨List.mem_of_getElem? (i := 1500) rfl, by decide +kernel⟩
theorem jal_213 : jall ⟨"FilterBenchModel", "goes", "(ID)I"⟩ prog_12_method_47_code jT_213 jH_213 = true := by decide +kernel
theorem jok_213 : jokM 213 = true := jal_213
set_option maxRecDepth 100000 in
theorem jmo_213 : jmOK 213 := ⟨List.mem_of_getElem? (i := 1504) rfl, by decide +kernel⟩
theorem jal_214 : jall ⟨"FilterBenchModel", "goesOn", "()Z"⟩ prog_12_method_46_code jT_214 jH_214 = true := by decide +kernel
theorem jok_214 : jokM 214 = true := jal_214
set_option maxRecDepth 100000 in
theorem jmo_214 : jmOK 214 := ⟨List.mem_of_getElem? (i := 1508) rfl, by decide +kernel⟩
theorem jal_215 : jall ⟨"FilterBenchModel", "begins", "(I)V"⟩ prog_12_method_29_code jT_215 jH_215 = true := by decide +kernel
theorem jok_215 : jokM 215 = true := jal_215
set_option maxRecDepth 100000 in
theorem jmo_215 : jmOK 215 := ⟨List.mem_of_getElem? (i := 1512) rfl, by decide +kernel⟩
