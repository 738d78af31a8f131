/-! one taken from what is near to it -/
section HALF
theorem zval_fin {s : Bool} {c : Nat} {q : Int} : FP.Core.zval FP.Core.b64 (.fin s c q) = FP.Core.signed s (c * 2 ^ (q + 1074).toNat) := by
  show FP.Core.signed s (FP.Core.inUnits c q FP.Core.b64.qmin) = _
  unfold FP.Core.inUnits
  rw [show q - FP.Core.b64.qmin = q + 1074 from by
    have : FP.Core.b64.qmin = -1074 := rfl
    omega]
/-- a number between a half and two, less one, is a number of the format -/
theorem half_sub {s : Bool} {c : Nat} {q : Int} (fx : FP.Core.fits FP.Core.b64 (.fin s c q)) {u : Nat} (hu : u = 2 ^ 1021) (h1 : ((2 ^ 52 * u : Nat) : Int) ≤ FP.Core.zval FP.Core.b64 (.fin s c q)) (h2 : FP.Core.zval FP.Core.b64 (.fin s c q) ≤ ((2 ^ 54 * u : Nat) : Int)) :
    ∃ V, FP.Core.fits FP.Core.b64 V ∧ (∃ t d r, V = .fin t d r) ∧ FP.Core.zval FP.Core.b64 V = FP.Core.zval FP.Core.b64 (.fin s c q) - ((2 ^ 53 * u : Nat) : Int) := by
  have hup : 0 < u := by rw [hu]; exact Nat.two_pow_pos _
  have hc : c < 2 ^ 53 := fx.1
  rw [zval_fin] at h1 h2 ⊢
  generalize (q + 1074).toNat = j at *
  have hs : s = false := by
    cases s with
    | false => rfl
    | true =>
      have : FP.Core.signed true (c * 2 ^ j) = -((c * 2 ^ j : Nat) : Int) := rfl
      rw [this] at h1
      have := Nat.mul_pos (show 0 < 2 ^ 52 by decide) hup
      omega
  subst hs
  have e : FP.Core.signed false (c * 2 ^ j) = ((c * 2 ^ j : Nat) : Int) := rfl
  rw [e] at h1 h2 ⊢
  have e73 : 2 ^ 1073 = 2 ^ 52 * u := by rw [hu, ← Nat.pow_add]
  obtain ⟨a, ha⟩ := coarse hc (j := j) (by rw [e73]; omega)
  rw [← hu] at ha
  rw [ha] at h1 h2 ⊢
  have a1 : 2 ^ 52 ≤ a := Nat.le_of_mul_le_mul_right (by omega) hup
  have a2 : a ≤ 2 ^ 54 := Nat.le_of_mul_le_mul_right (by omega) hup
  by_cases g : a = 2 ^ 54
  · obtain ⟨V, v1, v2, v3⟩ := rep (s := false) (c := 2 ^ 52) (j := 1022) (by decide) (by decide)
    refine ⟨V, v1, v2, ?_⟩
    rw [v3, g]
    have e1 : 2 ^ 52 * 2 ^ 1022 = 2 ^ 53 * u := by rw [hu, ← Nat.pow_add, ← Nat.pow_add]
    rw [e1]
    show ((2 ^ 53 * u : Nat) : Int) = _
    omega
  · by_cases g2 : 2 ^ 53 ≤ a
    · obtain ⟨V, v1, v2, v3⟩ := rep (s := false) (c := a - 2 ^ 53) (j := 1021) (by omega) (by decide)
      refine ⟨V, v1, v2, ?_⟩
      rw [v3, ← hu, Nat.sub_mul]
      have := Nat.mul_le_mul_right u g2
      show ((a * u - 2 ^ 53 * u : Nat) : Int) = _
      omega
    · obtain ⟨V, v1, v2, v3⟩ := rep (s := true) (c := 2 ^ 53 - a) (j := 1021) (by omega) (by decide)
      refine ⟨V, v1, v2, ?_⟩
      rw [v3, ← hu, Nat.sub_mul]
      have := Nat.mul_le_mul_right u (show a ≤ 2 ^ 53 by omega)
      show -((2 ^ 53 * u - a * u : Nat) : Int) = _
      omega
end HALF
