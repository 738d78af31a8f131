/-! the law's run -/
theorem js_law : jsLaw := by
  intro B L scr SA xs h0 hL hscr hX hCS hB
  obtain ⟨μ9, h1, h2, h3⟩ := law_true (xs := xs) hCS (by omega) hL hscr hX
  exact ⟨1000, 20, μ9, by decide, h1, by omega, by omega⟩
