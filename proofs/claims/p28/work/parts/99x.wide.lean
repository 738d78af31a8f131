/-! names a row of the wide library -/
theorem wide_x : True := by
  have := @FP.Core.sum_le
  trivial
