/-! sums that are exact -/
section EXACT
theorem sum_eq {x y V : FP.Core.Datum} (hx : ∃ s c q, x = .fin s c q) (hy : ∃ s c q, y = .fin s c q) (fx : FP.Core.fits FP.Core.b64 x) (fy : FP.Core.fits FP.Core.b64 y) (fV : FP.Core.fits FP.Core.b64 V) (hV : V ≠ .nan) (h : FP.Core.zval FP.Core.b64 x + FP.Core.zval FP.Core.b64 y = FP.Core.zval FP.Core.b64 V) :
    FP.Core.zval FP.Core.b64 (FP.Core.round FP.Core.b64 (FP.Core.exactSum x y)) = FP.Core.zval FP.Core.b64 V :=
  Int.le_antisymm (FP.Core.sum_le FP.Core.good_b64 hx hy fx fy fV hV (Int.le_of_eq h)) (FP.Core.sum_ge FP.Core.good_b64 hx hy fx fy fV hV (Int.le_of_eq h.symm))
/-- a number of at most 53 digits is one of the format -/
theorem rep {s : Bool} {c j : Nat} (hc : c < 2 ^ 53) (hj : j ≤ 2045) : ∃ V, FP.Core.fits FP.Core.b64 V ∧ (∃ t d r, V = .fin t d r) ∧ FP.Core.zval FP.Core.b64 V = FP.Core.signed s (c * 2 ^ j) := by
  obtain ⟨c', q', h1, h2⟩ := FP.Core.round_exact FP.Core.good_b64 s (c := c) (q := (j : Int) - 1074) hc (show (-1074 : Int) ≤ _ by omega) (show _ ≤ (971 : Int) by omega)
  refine ⟨FP.Core.round FP.Core.b64 (.fin s c ((j : Int) - 1074)), FP.Core.round_fits FP.Core.good_b64 _, ⟨s, c', q', h1⟩, ?_⟩
  rw [h1]
  show FP.Core.signed s (FP.Core.inUnits c' q' FP.Core.b64.qmin) = _
  rw [h2]
  unfold FP.Core.inUnits
  rw [show ((j : Int) - 1074 - FP.Core.b64.qmin).toNat = j from by
    have : FP.Core.b64.qmin = -1074 := rfl
    omega]
/-- what is not small is coarse -/
theorem coarse {c j : Nat} (hc : c < 2 ^ 53) (h : 2 ^ 1073 ≤ c * 2 ^ j) : ∃ a, c * 2 ^ j = a * 2 ^ 1021 := by
  have hj : 1021 ≤ j := by
    apply Classical.byContradiction
    intro z
    have h1 : 2 ^ j ≤ 2 ^ 1020 := Nat.pow_le_pow_right (by decide) (by omega)
    have h2 : c * 2 ^ j < 2 ^ 53 * 2 ^ 1020 := Nat.lt_of_le_of_lt (Nat.mul_le_mul_left _ h1) (Nat.mul_lt_mul_of_pos_right hc (Nat.two_pow_pos _))
    rw [← Nat.pow_add] at h2
    exact absurd h (Nat.not_le.mpr h2)
  refine ⟨c * 2 ^ (j - 1021), ?_⟩
  rw [Nat.mul_assoc, ← Nat.pow_add, show j - 1021 + 1021 = j by omega]
end EXACT
