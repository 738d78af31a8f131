/-! the checks, method by method (printed by wip/whole/gen2.py) -/
theorem jal_216 : jall ⟨"FilterBenchModel", "c", "(II)D"⟩ prog_12_method_38_code jT_216 jH_216 = true := by decide +kernel
theorem jok_216 : jokM 216 = true := jal_216
set_option maxRecDepth 100000 in
theorem jmo_216 : jmOK 216 := ⟨List.mem_of_getElem? (i := 1516) rfl, by decide +kernel⟩
theorem jal_217 : jall ⟨"FilterBenchModel", "term", "(DDZ)V"⟩ prog_12_method_31_code jT_217 jH_217 = true := by decide +kernel
theorem jok_217 : jokM 217 = true := jal_217
set_option maxRecDepth 100000 in
theorem jmo_217 : jmOK 217 := ⟨List.mem_of_getElem? (i := 1520) rfl, by decide +kernel⟩
theorem jal_218 : jall ⟨"FilterBenchModel", "product", "(DD)D"⟩ prog_12_method_33_code jT_218 jH_218 = true := by decide +kernel
theorem jok_218 : jokM 218 = true := jal_218
set_option maxRecDepth 100000 in
theorem jmo_218 : jmOK 218 := ⟨List.mem_of_getElem? (i := 1524) rfl, by decide +kernel⟩
theorem jal_219 : jall ⟨"FilterBenchModel", "isEndless", "(D)Z"⟩ prog_12_method_32_code jT_219 jH_219 = true := by decide +kernel
theorem jok_219 : jokM 219 = true := jal_219
set_option maxRecDepth 100000 in
theorem jmo_219 : jmOK 219 := ⟨List.mem_of_getElem? (i := 1527) rfl, by decide +kernel⟩
theorem jal_220 : jall ⟨"FilterBenchModel", "joins", "(DZ)V"⟩ prog_12_method_34_code jT_220 jH_220 = true := by decide +kernel
theorem jok_220 : jokM 220 = true := jal_220
set_option maxRecDepth 100000 in
theorem jmo_220 : jmOK 220 := ⟨List.mem_of_getElem? (i := 1533) rfl, by decide +kernel⟩
theorem jal_221 : jall ⟨"FilterBenchModel", "comes", "()D"⟩ prog_12_method_35_code jT_221 jH_221 = true := by decide +kernel
theorem jok_221 : jokM 221 = true := jal_221
set_option maxRecDepth 100000 in
theorem jmo_221 : jmOK 221 := ⟨List.mem_of_getElem? (i := 1537) rfl, by decide +kernel⟩
theorem jal_222 : jall ⟨"FilterBenchModel", "cut", "(JI)D"⟩ prog_12_method_36_code jT_222 jH_222 = true := by decide +kernel
theorem jok_222 : jokM 222 = true := jal_222
set_option maxRecDepth 100000 in
theorem jmo_222 : jmOK 222 := ⟨List.mem_of_getElem? (i := 1541) rfl, by decide +kernel⟩
theorem jal_223 : jall ⟨"FilterBenchModel", "leaves", "()V"⟩ prog_12_method_45_code jT_223 jH_223 = true := by decide +kernel
theorem jok_223 : jokM 223 = true := jal_223
set_option maxRecDepth 100000 in
theorem jmo_223 : jmOK 223 := ⟨List.mem_of_getElem? (i := 1547) rfl, by decide +kernel⟩
theorem jal_224 : jall ⟨"FilterBenchModel", "term", "(DZ)V"⟩ prog_12_method_30_code jT_224 jH_224 = true := by decide +kernel
theorem jok_224 : jokM 224 = true := jal_224
set_option maxRecDepth 100000 in
theorem jmo_224 : jmOK 224 := ⟨List.mem_of_getElem? (i := 1551) rfl, by decide +kernel⟩
theorem jal_225 : jall ⟨"FilterBenchModel", "st", "(II)D"⟩ prog_12_method_39_code jT_225 jH_225 = true := by decide +kernel
theorem jok_225 : jokM 225 = true := jal_225
set_option maxRecDepth 100000 in
theorem jmo_225 : jmOK 225 := ⟨List.mem_of_getElem? (i := 1555) rfl, by decide +kernel⟩
theorem jal_226 : jall ⟨"FilterBenchModel", "st", "(IID)V"⟩ prog_12_method_40_code jT_226 jH_226 = true := by decide +kernel
theorem jok_226 : jokM 226 = true := jal_226
set_option maxRecDepth 100000 in
theorem jmo_226 : jmOK 226 := ⟨List.mem_of_getElem? (i := 1559) rfl, by decide +kernel⟩
theorem jal_227 : jall ⟨"FilterBenchModel", "waits", "(I)V"⟩ prog_12_method_44_code jT_227 jH_227 = true := by decide +kernel
theorem jok_227 : jokM 227 = true := jal_227
set_option maxRecDepth 100000 in
theorem jmo_227 : jmOK 227 := ⟨List.mem_of_getElem? (i := 1563) rfl, by decide +kernel⟩
theorem jal_228 : jall ⟨"FilterBenchModel", "works", "(ID)D"⟩ prog_12_method_42_code jT_228 jH_228 = true := by decide +kernel
theorem jok_228 : jokM 228 = true := jal_228
set_option maxRecDepth 100000 in
theorem jmo_228 : jmOK 228 := ⟨List.mem_of_getElem? (i := 1567) rfl, by decide +kernel⟩
theorem jal_229 : jall ⟨"FilterBenchModel", "rings", "(ID)D"⟩ prog_12_method_41_code jT_229 jH_229 = true := by decide +kernel
theorem jok_229 : jokM 229 = true := jal_229
set_option maxRecDepth 100000 in
theorem jmo_229 : jmOK 229 := ⟨List.mem_of_getElem? (i := 1571) rfl, by decide +kernel⟩
theorem jal_230 : jall ⟨"FilterBenchModel", "shapes", "(ID)D"⟩ prog_12_method_43_code jT_230 jH_230 = true := by decide +kernel
theorem jok_230 : jokM 230 = true := jal_230
set_option maxRecDepth 100000 in
theorem jmo_230 : jmOK 230 := ⟨List.mem_of_getElem? (i := 1575) rfl, by decide +kernel⟩
