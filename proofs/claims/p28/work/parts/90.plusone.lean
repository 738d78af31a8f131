/-! one more -/
section PLUSONE
def dOne : FP.Core.Datum := .fin false (2 ^ 52) (-52)
def dHalf : FP.Core.Datum := .fin false (2 ^ 52) (-53)
def dTwo : FP.Core.Datum := .fin false (2 ^ 52) (-51)
theorem one_fits : FP.Core.fits FP.Core.b64 dOne := by
  refine ⟨by decide, by decide, by decide, Or.inr (by decide)⟩
theorem half_fits : FP.Core.fits FP.Core.b64 dHalf := by
  refine ⟨by decide, by decide, by decide, Or.inr (by decide)⟩
theorem two_fits : FP.Core.fits FP.Core.b64 dTwo := by
  refine ⟨by decide, by decide, by decide, Or.inr (by decide)⟩
theorem one_z {u : Nat} (hu : u = 2 ^ 1021) : FP.Core.zval FP.Core.b64 dOne = ((2 ^ 53 * u : Nat) : Int) := by
  unfold dOne
  rw [zval_fin, hu, ← Nat.pow_add, ← Nat.pow_add]
  rfl
theorem half_z {u : Nat} (hu : u = 2 ^ 1021) : FP.Core.zval FP.Core.b64 dHalf = ((2 ^ 52 * u : Nat) : Int) := by
  unfold dHalf
  rw [zval_fin, hu, ← Nat.pow_add, ← Nat.pow_add]
  rfl
theorem two_z {u : Nat} (hu : u = 2 ^ 1021) : FP.Core.zval FP.Core.b64 dTwo = ((2 ^ 54 * u : Nat) : Int) := by
  unfold dTwo
  rw [zval_fin, hu, ← Nat.pow_add, ← Nat.pow_add]
  rfl
/-- one and a number between minus one and minus a half: exact -/
theorem plus_exact {t : Bool} {d : Nat} {r : Int} (fy : FP.Core.fits FP.Core.b64 (.fin t d r)) {u : Nat} (hu : u = 2 ^ 1021) (h1 : -((2 ^ 54 * u : Nat) : Int) ≤ FP.Core.zval FP.Core.b64 (.fin t d r)) (h2 : FP.Core.zval FP.Core.b64 (.fin t d r) ≤ -((2 ^ 52 * u : Nat) : Int)) :
    FP.Core.zval FP.Core.b64 (FP.Core.round FP.Core.b64 (FP.Core.exactSum dOne (.fin t d r))) = ((2 ^ 53 * u : Nat) : Int) + FP.Core.zval FP.Core.b64 (.fin t d r) := by
  have hn : FP.Core.zval FP.Core.b64 (.fin (!t) d r) = -FP.Core.zval FP.Core.b64 (.fin t d r) := FP.Core.zval_negate _ (.fin t d r)
  obtain ⟨V, v1, ⟨a, b, e, v2⟩, v3⟩ := half_sub (s := !t) (c := d) (q := r) fy hu (by rw [hn]; omega) (by rw [hn]; omega)
  have v4 := FP.Core.zval_negate FP.Core.b64 V
  have vn : FP.Core.negate V ≠ .nan := by rw [v2]; exact fun q => by cases q
  rw [sum_eq (x := dOne) (y := .fin t d r) (V := FP.Core.negate V) ⟨_, _, _, rfl⟩ ⟨_, _, _, rfl⟩ one_fits fy (FP.Core.negate_fits v1) vn (by rw [v4, v3, hn, one_z hu]; omega), v4, v3, hn]
  omega
/-- what comes of one more, less one, is a number of the format -/
theorem plus_rep {t : Bool} {d : Nat} {r : Int} (fy : FP.Core.fits FP.Core.b64 (.fin t d r)) {u : Nat} (hu : u = 2 ^ 1021) (h1 : -((2 ^ 53 * u : Nat) : Int) ≤ FP.Core.zval FP.Core.b64 (.fin t d r)) (h2 : FP.Core.zval FP.Core.b64 (.fin t d r) ≤ ((2 ^ 53 * u : Nat) : Int)) :
    ∃ V, FP.Core.fits FP.Core.b64 V ∧ (∃ t d r, V = .fin t d r) ∧ FP.Core.zval FP.Core.b64 V = FP.Core.zval FP.Core.b64 (FP.Core.round FP.Core.b64 (FP.Core.exactSum dOne (.fin t d r))) - ((2 ^ 53 * u : Nat) : Int) := by
  have hup : 0 < u := by rw [hu]; exact Nat.two_pow_pos _
  by_cases g : FP.Core.zval FP.Core.b64 (.fin t d r) ≤ -((2 ^ 52 * u : Nat) : Int)
  · refine ⟨.fin t d r, fy, ⟨_, _, _, rfl⟩, ?_⟩
    rw [plus_exact fy hu (by omega) g]
    omega
  · have s1 := FP.Core.sum_ge FP.Core.good_b64 (x := dOne) (y := .fin t d r) (V := dHalf) ⟨_, _, _, rfl⟩ ⟨_, _, _, rfl⟩ one_fits fy half_fits (fun q => by cases q) (by rw [half_z hu, one_z hu]; omega)
    have s2 := FP.Core.sum_le FP.Core.good_b64 (x := dOne) (y := .fin t d r) (V := dTwo) ⟨_, _, _, rfl⟩ ⟨_, _, _, rfl⟩ one_fits fy two_fits (fun q => by cases q) (by rw [two_z hu, one_z hu]; omega)
    rw [half_z hu] at s1
    rw [two_z hu] at s2
    have fs := FP.Core.round_fits FP.Core.good_b64 (FP.Core.exactSum dOne (.fin t d r))
    generalize FP.Core.round FP.Core.b64 (FP.Core.exactSum dOne (.fin t d r)) = R at *
    cases R with
    | nan =>
      have : FP.Core.zval FP.Core.b64 .nan = 0 := rfl
      rw [this] at s1
      have := Nat.mul_pos (show 0 < 2 ^ 52 by decide) hup
      omega
    | inf s =>
      have e : FP.Core.zval FP.Core.b64 (.inf s) = FP.Core.signed s (FP.Core.b64.tails * 2 ^ (FP.Core.b64.exps - 2)) := rfl
      have h3 : 2 ^ 54 * u < FP.Core.b64.tails * 2 ^ (FP.Core.b64.exps - 2) := by
        rw [show FP.Core.b64.tails = 2 ^ 52 from by decide, show FP.Core.b64.exps - 2 = 2046 from by decide, hu, ← Nat.pow_add, ← Nat.pow_add]
        exact Nat.pow_lt_pow_right (by decide) (by decide)
      rw [e] at s1 s2
      generalize FP.Core.b64.tails * 2 ^ (FP.Core.b64.exps - 2) = Z at *
      have := Nat.mul_pos (show 0 < 2 ^ 52 by decide) hup
      cases s with
      | true =>
        have ez : FP.Core.signed true Z = -(Z : Int) := rfl
        rw [ez] at s1
        omega
      | false =>
        have ez : FP.Core.signed false Z = (Z : Int) := rfl
        rw [ez] at s2
        omega
    | fin s c q => exact half_sub fs hu s1 s2
end PLUSONE
