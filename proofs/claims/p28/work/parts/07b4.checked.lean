/-! the checks of the law's table, in pieces (printed by a program) -/
theorem jall_cut {y : MethodName} {bytes : ByteArray} : ∀ (n : Nat) (t : List (Nat × JI)) (hs : List (List Nat)), jall y bytes (t.take n) (hs.take n) = true → jall y bytes (t.drop n) (hs.drop n) = true → jall y bytes t hs = true
  | 0, t, hs, _, h => by simpa using h
  | n + 1, [], hs, _, _ => rfl
  | n + 1, (pc, i, r, v) :: t, [], h, _ => by simp [jall] at h
  | n + 1, (pc, i, r, v) :: t, h0 :: hs, h, h2 => by
    simp only [List.take_succ_cons, jall, Bool.and_eq_true] at h
    simp only [List.drop_succ_cons] at h2
    simp only [jall, Bool.and_eq_true]
    exact ⟨h.1, jall_cut n t hs h.2 h2⟩
theorem jalL_0 : jall ⟨"FilterBenchLaw", "law", "([I)Z"⟩ code ((jT_145.drop 0).take 40) ((jH_145.drop 0).take 40) = true := by decide +kernel
theorem jalL_40 : jall ⟨"FilterBenchLaw", "law", "([I)Z"⟩ code ((jT_145.drop 40).take 40) ((jH_145.drop 40).take 40) = true := by decide +kernel
theorem jalL_80 : jall ⟨"FilterBenchLaw", "law", "([I)Z"⟩ code ((jT_145.drop 80).take 40) ((jH_145.drop 80).take 40) = true := by decide +kernel
theorem jalL_120 : jall ⟨"FilterBenchLaw", "law", "([I)Z"⟩ code ((jT_145.drop 120).take 40) ((jH_145.drop 120).take 40) = true := by decide +kernel
theorem jalL_160 : jall ⟨"FilterBenchLaw", "law", "([I)Z"⟩ code ((jT_145.drop 160).take 40) ((jH_145.drop 160).take 40) = true := by decide +kernel
theorem jalL_200 : jall ⟨"FilterBenchLaw", "law", "([I)Z"⟩ code ((jT_145.drop 200).take 40) ((jH_145.drop 200).take 40) = true := by decide +kernel
theorem jalL_240 : jall ⟨"FilterBenchLaw", "law", "([I)Z"⟩ code ((jT_145.drop 240).take 40) ((jH_145.drop 240).take 40) = true := by decide +kernel
theorem jalL_280 : jall ⟨"FilterBenchLaw", "law", "([I)Z"⟩ code ((jT_145.drop 280).take 40) ((jH_145.drop 280).take 40) = true := by decide +kernel
theorem jalL_320 : jall ⟨"FilterBenchLaw", "law", "([I)Z"⟩ code ((jT_145.drop 320).take 40) ((jH_145.drop 320).take 40) = true := by decide +kernel
theorem jalL_360 : jall ⟨"FilterBenchLaw", "law", "([I)Z"⟩ code ((jT_145.drop 360).take 40) ((jH_145.drop 360).take 40) = true := by decide +kernel
theorem jalL_400 : jall ⟨"FilterBenchLaw", "law", "([I)Z"⟩ code ((jT_145.drop 400).take 40) ((jH_145.drop 400).take 40) = true := by decide +kernel
theorem jalL_440 : jall ⟨"FilterBenchLaw", "law", "([I)Z"⟩ code ((jT_145.drop 440).take 40) ((jH_145.drop 440).take 40) = true := by decide +kernel
theorem jalL_480 : jall ⟨"FilterBenchLaw", "law", "([I)Z"⟩ code ((jT_145.drop 480).take 40) ((jH_145.drop 480).take 40) = true := by decide +kernel
