/-! the reference sets a number against one more than another -/
section AGAINST
/-- less than, one, more than: which side a whole number is on -/
def sgI (z : Int) : Int32 := if 0 < z then 1 else if z = 0 then 0 else -1
theorem cmp_sg {a b : Int} : cmpI (compare a b) = sgI (a - b) := by
  unfold sgI
  rcases Int.lt_trichotomy a b with h | h | h
  · rw [(Int.compare_eq_lt).mpr h, if_neg (by omega), if_neg (by omega)]; rfl
  · subst h
    rw [(Int.compare_eq_eq).mpr rfl, if_neg (by omega), if_pos (by omega)]; rfl
  · rw [(Int.compare_eq_gt).mpr h, if_pos (by omega)]; rfl
theorem zval_zero : FP.Core.zval FP.Core.b64 (.fin false 0 (-1074)) = 0 := rfl
theorem zero_fits : FP.Core.fits FP.Core.b64 (.fin false 0 (-1074)) := by
  refine ⟨by decide, by decide, by decide, Or.inl (by decide)⟩
theorem unit_fits (s : Bool) : FP.Core.fits FP.Core.b64 (.fin s 1 (-1074)) := by
  refine ⟨by decide, by decide, by decide, Or.inl (by decide)⟩
/-- a rounded sum has the sign of the sum -/
theorem sum_sign {x y : FP.Core.Datum} (hx : ∃ s c q, x = .fin s c q) (hy : ∃ s c q, y = .fin s c q) (fx : FP.Core.fits FP.Core.b64 x) (fy : FP.Core.fits FP.Core.b64 y) :
    sgI (FP.Core.zval FP.Core.b64 (FP.Core.round FP.Core.b64 (FP.Core.exactSum x y))) = sgI (FP.Core.zval FP.Core.b64 x + FP.Core.zval FP.Core.b64 y) := by
  have u1 : FP.Core.zval FP.Core.b64 (.fin false 1 (-1074)) = 1 := rfl
  have u2 : FP.Core.zval FP.Core.b64 (.fin true 1 (-1074)) = -1 := rfl
  have a1 := FP.Core.sum_ge FP.Core.good_b64 hx hy fx fy (unit_fits false) (fun q => by cases q)
  have a2 := FP.Core.sum_le FP.Core.good_b64 hx hy fx fy (unit_fits true) (fun q => by cases q)
  have a3 := FP.Core.sum_ge FP.Core.good_b64 hx hy fx fy zero_fits (fun q => by cases q)
  have a4 := FP.Core.sum_le FP.Core.good_b64 hx hy fx fy zero_fits (fun q => by cases q)
  rw [u1] at a1
  rw [u2] at a2
  rw [zval_zero] at a3 a4
  generalize FP.Core.zval FP.Core.b64 (FP.Core.round FP.Core.b64 (FP.Core.exactSum x y)) = R at *
  generalize FP.Core.zval FP.Core.b64 x + FP.Core.zval FP.Core.b64 y = Z at *
  unfold sgI
  by_cases h1 : 0 < Z
  · have := a1 (by omega)
    rw [if_pos h1, if_pos (by omega)]
  · by_cases h2 : Z = 0
    · have := a3 (by omega)
      have := a4 (by omega)
      rw [if_neg h1, if_pos h2, if_neg (by omega), if_pos (by omega)]
    · have := a2 (by omega)
      rw [if_neg h1, if_neg h2, if_neg (by omega), if_neg (by omega)]
end AGAINST
