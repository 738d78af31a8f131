/-! held values by their unit -/
section UNIT
variable {so : Nat}
def unitB (so : Nat) : UInt64 := if so = 2 then 0x40d0000000000000 else 0x3ff0000000000000
theorem part_16384 {x : Int64} (h1 : -32768 ≤ x.toInt) (h2 : x.toInt ≤ 32767) : FP.Core.val64 (FP.ddiv (FP.l2d x) 0x40d0000000000000) = FP.Core.roundRatio FP.Core.b64 (decide (x.toInt < 0)) x.toInt.natAbs 1 (-14) := by
  rw [FP.Core.val64_ddiv, FP.Core.val64_l2d]
  have e0 : FP.Core.val64 0x40d0000000000000 = .fin false (2 ^ 52) (-38) := by decide +kernel
  rw [e0]
  by_cases hz : x.toInt.natAbs = 0
  · have ev : FP.Core.round FP.Core.b64 (FP.Core.ofInt x.toInt) = .fin (decide (x.toInt < 0)) 0 FP.Core.b64.qmin := by
      show FP.Core.roundRatio FP.Core.b64 (decide (x.toInt < 0)) x.toInt.natAbs 1 0 = _
      rw [hz]
      exact if_pos rfl
    rw [ev, hz]
    show (if (2 ^ 52 : Nat) = 0 then (if (0 : Nat) = 0 then FP.Core.Datum.nan else FP.Core.Datum.inf (decide (x.toInt < 0) != false)) else FP.Core.roundRatio FP.Core.b64 (decide (x.toInt < 0) != false) 0 (2 ^ 52) (FP.Core.b64.qmin - -38)) = _
    rw [if_neg (by decide), Bool.bne_false]
    unfold FP.Core.roundRatio
    rw [if_pos rfl, if_pos rfl]
  · obtain ⟨k, k1, k2⟩ := fit_64 (s := decide (x.toInt < 0)) (M := x.toInt.natAbs) (by omega) (by omega)
    have ev : FP.Core.round FP.Core.b64 (FP.Core.ofInt x.toInt) = .fin (decide (x.toInt < 0)) (x.toInt.natAbs * 2 ^ k) (0 - k) := by rw [← k2]; rfl
    rw [ev]
    show (if (2 ^ 52 : Nat) = 0 then (if x.toInt.natAbs * 2 ^ k = 0 then FP.Core.Datum.nan else FP.Core.Datum.inf (decide (x.toInt < 0) != false)) else FP.Core.roundRatio FP.Core.b64 (decide (x.toInt < 0) != false) (x.toInt.natAbs * 2 ^ k) (2 ^ 52) (0 - (k : Int) - -38)) = _
    rw [if_neg (by decide), Bool.bne_false]
    refine FP.Core.roundRatio_congr (by decide) (by decide) ?_
    rw [show ((0 - (k : Int) - -38) - -14).toNat = 52 - k by omega, show ((-14 : Int) - (0 - (k : Int) - -38)).toNat = 0 by omega, Nat.pow_zero, Nat.mul_one, Nat.mul_one, Nat.mul_assoc, ← Nat.pow_add, show k + (52 - k) = 52 by omega]
theorem dv_val (h2 : so < 2) {x : Int64} (hx : vb so x) : FP.Core.val64 (dv so x) = mnD so false x := by
  obtain ⟨d, hd, rfl⟩ := vb_ev h2 hx
  unfold mnD
  rw [if_pos h2, dt_ev hd, dv_ev h2 hd, val_rv h2 hd]
  match so, h2, hd with
  | 0, _, hd => exact (FP.Core.round_of_fits FP.Core.good_b64 hd).symm
  | 1, _, _ => rfl
/-- what the reference divides by is what the class means -/
theorem unit_div (h3 : so < 3) {x : Int64} (hx : vb so x) (hn : mnD so false x ≠ .nan) : FP.ddiv (dv so x) (unitB so) = FP.Core.of64 (mnD so false x) := by
  have hf := mnD_fits so false x
  unfold unitB
  by_cases h2 : so < 2
  · have hv := dv_val h2 hx
    have hn' : FP.Core.val64 (dv so x) ≠ .nan := by rw [hv]; exact hn
    rw [if_neg (by omega)]
    have e1 : FP.ddiv (dv so x) 0x3ff0000000000000 = dv so x := FP.Core.ddiv_one hn'
    rw [e1]
    apply FP.Core.val64_inj hn'
    rw [FP.Core.val64_of64 hf, hv]
  · have : so = 2 := by omega
    subst this
    have a1 : -32768 ≤ x.toInt := Int64.le_iff_toInt_le.mp hx.1
    have a2 : x.toInt ≤ 32767 := Int64.le_iff_toInt_le.mp hx.2
    have e : mnD 2 false x = FP.Core.roundRatio FP.Core.b64 (decide (x.toInt < 0)) x.toInt.natAbs 1 (-14) := by
      unfold mnD
      rw [if_neg (by decide), if_neg (by decide)]
    rw [if_pos rfl, dv2]
    have hv := part_16384 a1 a2
    apply FP.Core.val64_inj
    · rw [hv, ← e]; exact hn
    · rw [hv, FP.Core.val64_of64 hf, e]
/-- whether a held value is finite is whether what it means is -/
theorem fin_dv (h3 : so < 3) {x : Int64} (hx : vb so x) : isFin (FP.Core.val64 (dv so x)) = isFin (mnD so false x) := by
  by_cases h2 : so < 2
  · rw [dv_val h2 hx]
  · have : so = 2 := by omega
    subst this
    have a1 : -32768 ≤ x.toInt := Int64.le_iff_toInt_le.mp hx.1
    have a2 : x.toInt ≤ 32767 := Int64.le_iff_toInt_le.mp hx.2
    have e : mnD 2 false x = FP.Core.roundRatio FP.Core.b64 (decide (x.toInt < 0)) x.toInt.natAbs 1 (-14) := by
      unfold mnD
      rw [if_neg (by decide), if_neg (by decide)]
    rw [e, dv2, FP.Core.val64_l2d]
    by_cases hz : x.toInt.natAbs = 0
    · have e1 : FP.Core.round FP.Core.b64 (FP.Core.ofInt x.toInt) = .fin (decide (x.toInt < 0)) 0 FP.Core.b64.qmin := by
        show FP.Core.roundRatio FP.Core.b64 (decide (x.toInt < 0)) x.toInt.natAbs 1 0 = _
        rw [hz]
        exact if_pos rfl
      have e2 : FP.Core.roundRatio FP.Core.b64 (decide (x.toInt < 0)) x.toInt.natAbs 1 (-14) = .fin (decide (x.toInt < 0)) 0 FP.Core.b64.qmin := by
        rw [hz]
        exact if_pos rfl
      rw [e1, e2]
    · obtain ⟨k, k1, k2⟩ := fit_64 (s := decide (x.toInt < 0)) (M := x.toInt.natAbs) (by omega) (by omega)
      have ev : FP.Core.round FP.Core.b64 (FP.Core.ofInt x.toInt) = .fin (decide (x.toInt < 0)) (x.toInt.natAbs * 2 ^ k) (0 - k) := by rw [← k2]; rfl
      have l2 : FP.Core.roundRatio FP.Core.b64 (decide (x.toInt < 0)) x.toInt.natAbs 1 (-14) = .fin (decide (x.toInt < 0)) (x.toInt.natAbs * 2 ^ k) (-14 - k) := by
        have l1 := FP.Core.roundRatio_fits FP.Core.good_b64 (decide (x.toInt < 0)) x.toInt.natAbs (B := 1) (by decide) 0
        rw [k2] at l1
        obtain ⟨p1, p2, p3, p4⟩ := l1
        have q1 : FP.Core.b64.qmin = -1074 := rfl
        have q2 : FP.Core.b64.qmax = 971 := rfl
        refine FP.Core.roundRatio_exact FP.Core.good_b64 (by decide) ⟨p1, by omega, by omega, Or.inr ?_⟩ ?_
        · rcases p4 with p4 | p4
          · omega
          · exact p4
        · rw [show ((-14 : Int) - (-14 - (k : Int))).toNat = k by omega, show ((-14 - (k : Int)) - -14).toNat = 0 by omega, Nat.pow_zero, Nat.mul_one, Nat.mul_one]
      rw [ev, l2]
      rfl
end UNIT
