/-! the checks, method by method (printed by wip/whole/gen2.py) -/
theorem jal_247 : jall ⟨"FilterBenchModel", "keeps", "(II)V"⟩ prog_12_method_60_code jT_247 jH_247 = true := by decide +kernel
theorem jok_247 : jokM 247 = true := jal_247
set_option maxRecDepth 100000 in
theorem jmo_247 : jmOK 247 := ⟨List.mem_of_getElem? (i := 1650) rfl, by decide +kernel⟩
theorem jal_248 : jall ⟨"FilterBenchModel", "back", "(I)Z"⟩ prog_12_method_63_code jT_248 jH_248 = true := by decide +kernel
theorem jok_248 : jokM 248 = true := jal_248
set_option maxRecDepth 100000 in
theorem jmo_248 : jmOK 248 := ⟨List.mem_of_getElem? (i := 1654) rfl, by decide +kernel⟩
theorem jal_249 : jall ⟨"FilterBenchModel", "isKept", "(I)Z"⟩ prog_12_method_62_code jT_249 jH_249 = true := by decide +kernel
theorem jok_249 : jokM 249 = true := jal_249
set_option maxRecDepth 100000 in
theorem jmo_249 : jmOK 249 := ⟨List.mem_of_getElem? (i := 1658) rfl, by decide +kernel⟩
theorem jal_250 : jall ⟨"FilterBenchModel", "fits", "(II)Z"⟩ prog_12_method_61_code jT_250 jH_250 = true := by decide +kernel
theorem jok_250 : jokM 250 = true := jal_250
set_option maxRecDepth 100000 in
theorem jmo_250 : jmOK 250 := ⟨List.mem_of_getElem? (i := 1662) rfl, by decide +kernel⟩
theorem jal_251 : jall ⟨"FilterBenchModel", "backs", "(II)V"⟩ prog_12_method_64_code jT_251 jH_251 = true := by decide +kernel
theorem jok_251 : jokM 251 = true := jal_251
set_option maxRecDepth 100000 in
theorem jmo_251 : jmOK 251 := ⟨List.mem_of_getElem? (i := 1666) rfl, by decide +kernel⟩
theorem jal_252 : jall ⟨"FilterBenchModel", "same", "(I)Z"⟩ prog_12_method_65_code jT_252 jH_252 = true := by decide +kernel
theorem jok_252 : jokM 252 = true := jal_252
set_option maxRecDepth 100000 in
theorem jmo_252 : jmOK 252 := ⟨List.mem_of_getElem? (i := 1670) rfl, by decide +kernel⟩
theorem jal_253 : jall ⟨"FilterBenchModel", "alike", "(II)Z"⟩ prog_12_method_66_code jT_253 jH_253 = true := by decide +kernel
theorem jok_253 : jokM 253 = true := jal_253
set_option maxRecDepth 100000 in
theorem jmo_253 : jmOK 253 := ⟨List.mem_of_getElem? (i := 1674) rfl, by decide +kernel⟩
theorem jal_254 : jall ⟨"FilterBenchModel", "poles", "(I)I"⟩ prog_12_method_69_code jT_254 jH_254 = true := by decide +kernel
theorem jok_254 : jokM 254 = true := jal_254
set_option maxRecDepth 100000 in
theorem jmo_254 : jmOK 254 := ⟨List.mem_of_getElem? (i := 1678) rfl, by decide +kernel⟩
theorem jal_255 : jall ⟨"FilterBenchModel", "isFinite", "(D)Z"⟩ prog_12_method_67_code jT_255 jH_255 = true := by decide +kernel
theorem jok_255 : jokM 255 = true := jal_255
set_option maxRecDepth 100000 in
theorem jmo_255 : jmOK 255 := ⟨List.mem_of_getElem? (i := 1682) rfl, by decide +kernel⟩
theorem jal_256 : jall ⟨"FilterBenchModel", "against", "(DD)I"⟩ prog_12_method_68_code jT_256 jH_256 = true := by decide +kernel
theorem jok_256 : jokM 256 = true := jal_256
set_option maxRecDepth 100000 in
theorem jmo_256 : jmOK 256 := ⟨List.mem_of_getElem? (i := 1686) rfl, by decide +kernel⟩
theorem jal_257 : jall ⟨"FilterBenchModel", "cycles", "(I)I"⟩ prog_12_method_72_code jT_257 jH_257 = true := by decide +kernel
theorem jok_257 : jokM 257 = true := jal_257
set_option maxRecDepth 100000 in
theorem jmo_257 : jmOK 257 := ⟨List.mem_of_getElem? (i := 1690) rfl, by decide +kernel⟩
theorem jal_258 : jall ⟨"FilterBenchModel", "isDead", "(I)Z"⟩ prog_12_method_70_code jT_258 jH_258 = true := by decide +kernel
theorem jok_258 : jokM 258 = true := jal_258
set_option maxRecDepth 100000 in
theorem jmo_258 : jmOK 258 := ⟨List.mem_of_getElem? (i := 1694) rfl, by decide +kernel⟩
theorem jal_259 : jall ⟨"FilterBenchModel", "finds", "(I)V"⟩ prog_12_method_71_code jT_259 jH_259 = true := by decide +kernel
theorem jok_259 : jokM 259 = true := jal_259
set_option maxRecDepth 100000 in
theorem jmo_259 : jmOK 259 := ⟨List.mem_of_getElem? (i := 1698) rfl, by decide +kernel⟩
theorem jal_260 : jall ⟨"FilterBenchModel", "cycle", "(III)I"⟩ prog_12_method_73_code jT_260 jH_260 = true := by decide +kernel
theorem jok_260 : jokM 260 = true := jal_260
set_option maxRecDepth 100000 in
theorem jmo_260 : jmOK 260 := ⟨List.mem_of_getElem? (i := 1703) rfl, by decide +kernel⟩
theorem jal_261 : jall ⟨"FilterBenchModel", "convert", "(II)I"⟩ prog_12_method_76_code jT_261 jH_261 = true := by decide +kernel
theorem jok_261 : jokM 261 = true := jal_261
set_option maxRecDepth 100000 in
theorem jmo_261 : jmOK 261 := ⟨List.mem_of_getElem? (i := 1707) rfl, by decide +kernel⟩
theorem jal_262 : jall ⟨"FilterBenchModel", "asks", "(II)V"⟩ prog_12_method_75_code jT_262 jH_262 = true := by decide +kernel
theorem jok_262 : jokM 262 = true := jal_262
set_option maxRecDepth 100000 in
theorem jmo_262 : jmOK 262 := ⟨List.mem_of_getElem? (i := 1711) rfl, by decide +kernel⟩
theorem jal_263 : jall ⟨"FilterBenchModel", "turned", "(DIIZ)D"⟩ prog_12_method_74_code jT_263 jH_263 = true := by decide +kernel
theorem jok_263 : jokM 263 = true := jal_263
set_option maxRecDepth 100000 in
theorem jmo_263 : jmOK 263 := ⟨List.mem_of_getElem? (i := 1714) rfl, by decide +kernel⟩
theorem jal_264 : jall ⟨"FilterBenchModel", "anew", "(II)I"⟩ prog_12_method_77_code jT_264 jH_264 = true := by decide +kernel
theorem jok_264 : jokM 264 = true := jal_264
set_option maxRecDepth 100000 in
theorem jmo_264 : jmOK 264 := ⟨List.mem_of_getElem? (i := 1721) rfl, by decide +kernel⟩
theorem jal_265 : jall ⟨"FilterBenchModel", "gathers", "(III)I"⟩ prog_12_method_78_code jT_265 jH_265 = true := by decide +kernel
theorem jok_265 : jokM 265 = true := jal_265
set_option maxRecDepth 100000 in
theorem jmo_265 : jmOK 265 := ⟨List.mem_of_getElem? (i := 1725) rfl, by decide +kernel⟩
theorem jal_266 : jall ⟨"FilterBenchModel", "measure", "(II)J"⟩ prog_12_method_79_code jT_266 jH_266 = true := by decide +kernel
theorem jok_266 : jokM 266 = true := jal_266
set_option maxRecDepth 100000 in
theorem jmo_266 : jmOK 266 := ⟨List.mem_of_getElem? (i := 1729) rfl, by decide +kernel⟩
theorem jal_267 : jall ⟨"FilterBenchModel", "count", "(I)I"⟩ prog_12_method_80_code jT_267 jH_267 = true := by decide +kernel
theorem jok_267 : jokM 267 = true := jal_267
set_option maxRecDepth 100000 in
theorem jmo_267 : jmOK 267 := ⟨List.mem_of_getElem? (i := 1733) rfl, by decide +kernel⟩
theorem jal_268 : jall ⟨"FilterBenchModel", "chain", "(II)I"⟩ prog_12_method_81_code jT_268 jH_268 = true := by decide +kernel
theorem jok_268 : jokM 268 = true := jal_268
set_option maxRecDepth 100000 in
theorem jmo_268 : jmOK 268 := ⟨List.mem_of_getElem? (i := 1737) rfl, by decide +kernel⟩
