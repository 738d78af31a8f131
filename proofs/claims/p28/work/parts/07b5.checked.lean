/-! the checks of the law's table, in pieces, on -/
theorem jalL_520 : jall ⟨"FilterBenchLaw", "law", "([I)Z"⟩ code ((jT_145.drop 520).take 40) ((jH_145.drop 520).take 40) = true := by decide +kernel
theorem jalL_560 : jall ⟨"FilterBenchLaw", "law", "([I)Z"⟩ code ((jT_145.drop 560).take 40) ((jH_145.drop 560).take 40) = true := by decide +kernel
theorem jalL_600 : jall ⟨"FilterBenchLaw", "law", "([I)Z"⟩ code ((jT_145.drop 600).take 40) ((jH_145.drop 600).take 40) = true := by decide +kernel
theorem jalL_640 : jall ⟨"FilterBenchLaw", "law", "([I)Z"⟩ code ((jT_145.drop 640).take 40) ((jH_145.drop 640).take 40) = true := by decide +kernel
theorem jalL_680 : jall ⟨"FilterBenchLaw", "law", "([I)Z"⟩ code ((jT_145.drop 680).take 40) ((jH_145.drop 680).take 40) = true := by decide +kernel
theorem jalL_720 : jall ⟨"FilterBenchLaw", "law", "([I)Z"⟩ code ((jT_145.drop 720).take 40) ((jH_145.drop 720).take 40) = true := by decide +kernel
theorem jalL_760 : jall ⟨"FilterBenchLaw", "law", "([I)Z"⟩ code ((jT_145.drop 760).take 40) ((jH_145.drop 760).take 40) = true := by decide +kernel
theorem jalL_800 : jall ⟨"FilterBenchLaw", "law", "([I)Z"⟩ code ((jT_145.drop 800).take 40) ((jH_145.drop 800).take 40) = true := by decide +kernel
theorem jalL_840 : jall ⟨"FilterBenchLaw", "law", "([I)Z"⟩ code ((jT_145.drop 840).take 40) ((jH_145.drop 840).take 40) = true := by decide +kernel
theorem jalL_880 : jall ⟨"FilterBenchLaw", "law", "([I)Z"⟩ code ((jT_145.drop 880).take 40) ((jH_145.drop 880).take 40) = true := by decide +kernel
theorem jalL_920 : jall ⟨"FilterBenchLaw", "law", "([I)Z"⟩ code ((jT_145.drop 920).take 40) ((jH_145.drop 920).take 40) = true := by decide +kernel
theorem jalL_960 : jall ⟨"FilterBenchLaw", "law", "([I)Z"⟩ code ((jT_145.drop 960).take 40) ((jH_145.drop 960).take 40) = true := by decide +kernel
theorem jalL_1000 : jall ⟨"FilterBenchLaw", "law", "([I)Z"⟩ code ((jT_145.drop 1000).take 40) ((jH_145.drop 1000).take 40) = true := by decide +kernel
theorem jalL_s (n k : Nat) (h : jall ⟨"FilterBenchLaw", "law", "([I)Z"⟩ code ((jT_145.drop k).take n) ((jH_145.drop k).take n) = true) (h2 : jall ⟨"FilterBenchLaw", "law", "([I)Z"⟩ code (jT_145.drop (k + n)) (jH_145.drop (k + n)) = true) : jall ⟨"FilterBenchLaw", "law", "([I)Z"⟩ code (jT_145.drop k) (jH_145.drop k) = true :=
  jall_cut n _ _ h (by rw [List.drop_drop, List.drop_drop]; exact h2)
theorem jal_145 : jall ⟨"FilterBenchLaw", "law", "([I)Z"⟩ code jT_145 jH_145 = true := (jalL_s 40 0 jalL_0 (jalL_s 40 40 jalL_40 (jalL_s 40 80 jalL_80 (jalL_s 40 120 jalL_120 (jalL_s 40 160 jalL_160 (jalL_s 40 200 jalL_200 (jalL_s 40 240 jalL_240 (jalL_s 40 280 jalL_280 (jalL_s 40 320 jalL_320 (jalL_s 40 360 jalL_360 (jalL_s 40 400 jalL_400 (jalL_s 40 440 jalL_440 (jalL_s 40 480 jalL_480 (jalL_s 40 520 jalL_520 (jalL_s 40 560 jalL_560 (jalL_s 40 600 jalL_600 (jalL_s 40 640 jalL_640 (jalL_s 40 680 jalL_680 (jalL_s 40 720 jalL_720 (jalL_s 40 760 jalL_760 (jalL_s 40 800 jalL_800 (jalL_s 40 840 jalL_840 (jalL_s 40 880 jalL_880 (jalL_s 40 920 jalL_920 (jalL_s 40 960 jalL_960 (jalL_s 40 1000 jalL_1000 (show jall ⟨"FilterBenchLaw", "law", "([I)Z"⟩ code (jT_145.drop 1040) (jH_145.drop 1040) = true from by decide +kernel)))))))))))))))))))))))))))
theorem jok_145 : jokM 145 = true := jal_145
