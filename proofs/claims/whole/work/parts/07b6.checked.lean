/-! the checks, method by method (printed by wip/whole/gen2.py) -/
theorem jal_271 : jall ⟨"FilterBenchLaw", "law", "([I)Z"⟩ code jT_271 jH_271 = true := by decide +kernel
theorem jok_271 : jokM 271 = true := jal_271
