/-! the checks, method by method (printed by wip/whole/gen2.py) -/
theorem jal_231 : jall ⟨"FilterBenchModel", "sizeOf", "(ID)D"⟩ prog_12_method_37_code jT_231 jH_231 = true := by decide +kernel
theorem jok_231 : jokM 231 = true := jal_231
set_option maxRecDepth 100000 in
theorem jmo_231 : jmOK 231 := ⟨List.mem_of_getElem? (i := 1579) rfl, by decide +kernel⟩
theorem jal_232 : jall ⟨"FilterBenchModel", "run", "(III)I"⟩ prog_12_method_51_code jT_232 jH_232 = true := by decide +kernel
theorem jok_232 : jokM 232 = true := jal_232
set_option maxRecDepth 100000 in
theorem jmo_232 : jmOK 232 := ⟨List.mem_of_getElem? (i := 1583) rfl, by decide +kernel⟩
theorem jal_233 : jall ⟨"FilterBenchModel", "output", "(II)J"⟩ prog_12_method_53_code jT_233 jH_233 = true := by decide +kernel
theorem jok_233 : jokM 233 = true := jal_233
set_option maxRecDepth 100000 in
theorem jmo_233 : jmOK 233 := ⟨List.mem_of_getElem? (i := 1589) rfl, by decide +kernel⟩
theorem jal_234 : jall ⟨"FilterBenchModel", "isKeptOut", "(II)Z"⟩ prog_12_method_52_code jT_234 jH_234 = true := by decide +kernel
theorem jok_234 : jokM 234 = true := jal_234
set_option maxRecDepth 100000 in
theorem jmo_234 : jmOK 234 := ⟨List.mem_of_getElem? (i := 1593) rfl, by decide +kernel⟩
theorem jal_235 : jall ⟨"FilterBenchModel", "bitsOf", "(ID)J"⟩ prog_12_method_8_code jT_235 jH_235 = true := by decide +kernel
theorem jok_235 : jokM 235 = true := jal_235
set_option maxRecDepth 100000 in
theorem jmo_235 : jmOK 235 := ⟨List.mem_of_getElem? (i := 1596) rfl, by decide +kernel⟩
theorem jal_236 : jall ⟨"java/lang/Double", "doubleToLongBits", "(D)J"⟩ prog_13_method_23_code jT_236 jH_236 = true := by decide +kernel
theorem jok_236 : jokM 236 = true := jal_236
set_option maxRecDepth 100000 in
theorem jmo_236 : jmOK 236 := ⟨List.mem_of_getElem? (i := 1601) rfl, by decide +kernel⟩
theorem jal_237 : jall ⟨"java/lang/Double", "isNaN", "(D)Z"⟩ prog_13_method_6_code jT_237 jH_237 = true := by decide +kernel
theorem jok_237 : jokM 237 = true := jal_237
set_option maxRecDepth 100000 in
theorem jmo_237 : jmOK 237 := ⟨List.mem_of_getElem? (i := 1604) rfl, by decide +kernel⟩
theorem jal_238 : jall ⟨"java/lang/Float", "floatToIntBits", "(F)I"⟩ prog_14_method_24_code jT_238 jH_238 = true := by decide +kernel
theorem jok_238 : jokM 238 = true := jal_238
set_option maxRecDepth 100000 in
theorem jmo_238 : jmOK 238 := ⟨List.mem_of_getElem? (i := 1611) rfl, by decide +kernel⟩
theorem jal_239 : jall ⟨"java/lang/Float", "isNaN", "(F)Z"⟩ prog_14_method_6_code jT_239 jH_239 = true := by decide +kernel
theorem jok_239 : jokM 239 = true := jal_239
set_option maxRecDepth 100000 in
theorem jmo_239 : jmOK 239 := ⟨List.mem_of_getElem? (i := 1614) rfl, by decide +kernel⟩
theorem jal_240 : jall ⟨"FilterBenchModel", "state", "(II)J"⟩ prog_12_method_54_code jT_240 jH_240 = true := by decide +kernel
theorem jok_240 : jokM 240 = true := jal_240
set_option maxRecDepth 100000 in
theorem jmo_240 : jmOK 240 := ⟨List.mem_of_getElem? (i := 1622) rfl, by decide +kernel⟩
theorem jal_241 : jall ⟨"FilterBenchModel", "about", "(II)I"⟩ prog_12_method_55_code jT_241 jH_241 = true := by decide +kernel
theorem jok_241 : jokM 241 = true := jal_241
set_option maxRecDepth 100000 in
theorem jmo_241 : jmOK 241 := ⟨List.mem_of_getElem? (i := 1626) rfl, by decide +kernel⟩
theorem jal_242 : jall ⟨"FilterBenchModel", "told", "(II)J"⟩ prog_12_method_56_code jT_242 jH_242 = true := by decide +kernel
theorem jok_242 : jokM 242 = true := jal_242
set_option maxRecDepth 100000 in
theorem jmo_242 : jmOK 242 := ⟨List.mem_of_getElem? (i := 1630) rfl, by decide +kernel⟩
theorem jal_243 : jall ⟨"FilterBenchModel", "reset", "(I)Z"⟩ prog_12_method_58_code jT_243 jH_243 = true := by decide +kernel
theorem jok_243 : jokM 243 = true := jal_243
set_option maxRecDepth 100000 in
theorem jmo_243 : jmOK 243 := ⟨List.mem_of_getElem? (i := 1634) rfl, by decide +kernel⟩
theorem jal_244 : jall ⟨"FilterBenchModel", "trees", "(I)V"⟩ prog_12_method_48_code jT_244 jH_244 = true := by decide +kernel
theorem jok_244 : jokM 244 = true := jal_244
set_option maxRecDepth 100000 in
theorem jmo_244 : jmOK 244 := ⟨List.mem_of_getElem? (i := 1638) rfl, by decide +kernel⟩
theorem jal_245 : jall ⟨"FilterBenchModel", "empties", "(I)V"⟩ prog_12_method_57_code jT_245 jH_245 = true := by decide +kernel
theorem jok_245 : jokM 245 = true := jal_245
set_option maxRecDepth 100000 in
theorem jmo_245 : jmOK 245 := ⟨List.mem_of_getElem? (i := 1642) rfl, by decide +kernel⟩
theorem jal_246 : jall ⟨"FilterBenchModel", "keep", "(I)I"⟩ prog_12_method_59_code jT_246 jH_246 = true := by decide +kernel
theorem jok_246 : jokM 246 = true := jal_246
set_option maxRecDepth 100000 in
theorem jmo_246 : jmOK 246 := ⟨List.mem_of_getElem? (i := 1646) rfl, by decide +kernel⟩
