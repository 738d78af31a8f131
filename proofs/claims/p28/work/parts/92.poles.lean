/-! poles: sums of finite numbers, in units -/
section POLESUM
/-- a finite number of the format that has so many units -/
def FN (d : FP.Core.Datum) (P : Int) : Prop := FP.Core.fits FP.Core.b64 d ∧ (∃ s c q, d = .fin s c q) ∧ FP.Core.zval FP.Core.b64 d = P
theorem fin_of {d : FP.Core.Datum} (hf : FP.Core.fits FP.Core.b64 d) (hn : d ≠ .nan) {u : Nat} (hu : u = 2 ^ 1021) (h1 : -((2 ^ 54 * u : Nat) : Int) ≤ FP.Core.zval FP.Core.b64 d) (h2 : FP.Core.zval FP.Core.b64 d ≤ ((2 ^ 54 * u : Nat) : Int)) : FN d (FP.Core.zval FP.Core.b64 d) := by
  cases d with
  | nan => exact absurd rfl hn
  | fin s c q => exact ⟨hf, ⟨_, _, _, rfl⟩, rfl⟩
  | inf s =>
    have e : FP.Core.zval FP.Core.b64 (.inf s) = FP.Core.signed s (FP.Core.b64.tails * 2 ^ (FP.Core.b64.exps - 2)) := rfl
    have h3 : 2 ^ 54 * u < FP.Core.b64.tails * 2 ^ (FP.Core.b64.exps - 2) := by
      rw [show FP.Core.b64.tails = 2 ^ 52 from by decide, show FP.Core.b64.exps - 2 = 2046 from by decide, hu, ← Nat.pow_add, ← Nat.pow_add]
      exact Nat.pow_lt_pow_right (by decide) (by decide)
    rw [e] at h1 h2
    generalize FP.Core.b64.tails * 2 ^ (FP.Core.b64.exps - 2) = Z at *
    cases s with
    | true =>
      have ez : FP.Core.signed true Z = -(Z : Int) := rfl
      rw [ez] at h1
      omega
    | false =>
      have ez : FP.Core.signed false Z = (Z : Int) := rfl
      rw [ez] at h2
      omega
theorem sum_num {x y : FP.Core.Datum} (hx : ∃ s c q, x = .fin s c q) (hy : ∃ s c q, y = .fin s c q) : FP.Core.round FP.Core.b64 (FP.Core.exactSum x y) ≠ .nan := by
  obtain ⟨s, c, q, rfl⟩ := hx
  obtain ⟨t, d, r, rfl⟩ := hy
  exact round_num (fun z => by cases z)
theorem fn_num {d : FP.Core.Datum} {P : Int} (h : FN d P) : d ≠ .nan := by
  obtain ⟨-, ⟨s, c, q, rfl⟩, -⟩ := h
  exact fun z => by cases z
theorem negTwo_fits : FP.Core.fits FP.Core.b64 (FP.Core.negate dTwo) := FP.Core.negate_fits two_fits
/-- the sum of two, rounded: finite, with the sum's sign, and on the same side of every number of the format -/
theorem fn_sum {x y : FP.Core.Datum} {P Q : Int} (hx : FN x P) (hy : FN y Q) {u : Nat} (hu : u = 2 ^ 1021) (h1 : -((2 ^ 54 * u : Nat) : Int) ≤ P + Q) (h2 : P + Q ≤ ((2 ^ 54 * u : Nat) : Int)) :
    ∃ Z, FN (FP.Core.round FP.Core.b64 (FP.Core.exactSum x y)) Z ∧ sgI Z = sgI (P + Q) ∧ (∀ V, FP.Core.fits FP.Core.b64 V → V ≠ .nan → (FP.Core.zval FP.Core.b64 V ≤ P + Q → FP.Core.zval FP.Core.b64 V ≤ Z) ∧ (P + Q ≤ FP.Core.zval FP.Core.b64 V → Z ≤ FP.Core.zval FP.Core.b64 V)) ∧ -((2 ^ 54 * u : Nat) : Int) ≤ Z ∧ Z ≤ ((2 ^ 54 * u : Nat) : Int) := by
  obtain ⟨fx, gx, rfl⟩ := hx
  obtain ⟨fy, gy, rfl⟩ := hy
  have t1 := two_z hu
  have t2 : FP.Core.zval FP.Core.b64 (FP.Core.negate dTwo) = -((2 ^ 54 * u : Nat) : Int) := by rw [FP.Core.zval_negate, t1]
  have a1 := FP.Core.sum_ge FP.Core.good_b64 (V := FP.Core.negate dTwo) gx gy fx fy negTwo_fits (fun q => by cases q) (by rw [t2]; exact h1)
  have a2 := FP.Core.sum_le FP.Core.good_b64 (V := dTwo) gx gy fx fy two_fits (fun q => by cases q) (by rw [t1]; exact h2)
  rw [t2] at a1
  rw [t1] at a2
  exact ⟨_, fin_of (FP.Core.round_fits FP.Core.good_b64 _) (sum_num gx gy) hu a1 a2, sum_sign gx gy fx fy, fun V fV nV => ⟨FP.Core.sum_ge FP.Core.good_b64 gx gy fx fy fV nV, FP.Core.sum_le FP.Core.good_b64 gx gy fx fy fV nV⟩, a1, a2⟩
theorem fn_exact {x y V : FP.Core.Datum} {P Q : Int} (hx : FN x P) (hy : FN y Q) (hV : FN V (P + Q)) {u : Nat} (hu : u = 2 ^ 1021) (h1 : -((2 ^ 54 * u : Nat) : Int) ≤ P + Q) (h2 : P + Q ≤ ((2 ^ 54 * u : Nat) : Int)) :
    FN (FP.Core.round FP.Core.b64 (FP.Core.exactSum x y)) (P + Q) := by
  obtain ⟨Z, z1, z2, z3, z4⟩ := fn_sum hx hy hu h1 h2
  have h3 := z3 V hV.1 (fn_num hV)
  rw [hV.2.2] at h3
  have := h3.1 (Int.le_refl _)
  have := h3.2 (Int.le_refl _)
  have e : Z = P + Q := by omega
  rw [← e]; exact z1
theorem fn_neg {x : FP.Core.Datum} {P : Int} (h : FN x P) : FN (FP.Core.negate x) (-P) := by
  obtain ⟨fx, ⟨s, c, q, rfl⟩, h3⟩ := h
  exact ⟨FP.Core.negate_fits fx, ⟨_, _, _, rfl⟩, by rw [FP.Core.zval_negate, h3]⟩
theorem cmpv_some (o : Ordering) (b : CmpOp) : Op.cmpValue (some o) b = cmpI o := by cases o <;> rfl
theorem dcmp_fn {a b : UInt64} {P Q : Int} (ha : FN (FP.Core.val64 a) P) (hb : FN (FP.Core.val64 b) Q) (i : CmpOp) : Op.cmpValue (FP.dcmp a b) i = sgI (P - Q) := by
  have e : FP.dcmp a b = FP.Core.order (FP.Core.val64 a) (FP.Core.val64 b) := rfl
  rw [e, FP.Core.order_zval FP.Core.good_b64 ha.1 hb.1 (fn_num ha) (fn_num hb), cmpv_some, cmp_sg, ha.2.2, hb.2.2]
theorem jnD_fn {a : UInt64} {P : Int} (ha : FN (FP.Core.val64 a) P) : jnD a = some a := jnD_pos ((n64_iff a).mpr (fn_num ha))
theorem fn_one {u : Nat} (hu : u = 2 ^ 1021) : FN (FP.Core.val64 0x3ff0000000000000) ((2 ^ 53 * u : Nat) : Int) := by
  have e : FP.Core.val64 0x3ff0000000000000 = dOne := by decide +kernel
  rw [e]; exact ⟨one_fits, ⟨_, _, _, rfl⟩, one_z hu⟩
theorem fn_mone {u : Nat} (hu : u = 2 ^ 1021) : FN (FP.Core.val64 0xbff0000000000000) (-((2 ^ 53 * u : Nat) : Int)) := by
  have e : FP.Core.val64 0xbff0000000000000 = FP.Core.negate dOne := by decide +kernel
  rw [e]; exact fn_neg ⟨one_fits, ⟨_, _, _, rfl⟩, one_z hu⟩
theorem fn_zero : FN (FP.Core.val64 0) 0 := by
  have e : FP.Core.val64 0 = .fin false 0 (-1074) := by decide +kernel
  rw [e]; exact ⟨zero_fits, ⟨_, _, _, rfl⟩, rfl⟩
theorem sgI_cases (z : Int) : (0 < z ∧ sgI z = 1) ∨ (z = 0 ∧ sgI z = 0) ∨ (z < 0 ∧ sgI z = -1) := by
  unfold sgI
  rcases Int.lt_trichotomy z 0 with h | h | h
  · exact Or.inr (Or.inr ⟨h, by rw [if_neg (by omega), if_neg (by omega)]⟩)
  · exact Or.inr (Or.inl ⟨h, by rw [if_neg (by omega), if_pos h]⟩)
  · exact Or.inl ⟨h, if_pos h⟩
/-- against: the sign of what is above one and the other -/
theorem against_of {a b : UInt64} {X Y : Int} (ha : FN (FP.Core.val64 a) X) (hb : FN (FP.Core.val64 b) Y) {u : Nat} (hu : u = 2 ^ 1021) (h1 : -((2 ^ 53 * u : Nat) : Int) ≤ Y) (h2 : Y ≤ ((2 ^ 53 * u : Nat) : Int)) : g_R_against a b = some (sgI (X - (((2 ^ 53 * u : Nat) : Int) + Y))) := by
  have one := fn_one hu
  have eU : ((2 ^ 54 * u : Nat) : Int) = 2 * ((2 ^ 53 * u : Nat) : Int) := by omega
  obtain ⟨R, r1, r2, r3, r4⟩ := fn_sum one hb hu (by omega) (by omega)
  have v1 : FP.Core.val64 (FP.dadd 0x3ff0000000000000 b) = FP.Core.round FP.Core.b64 (FP.Core.exactSum (FP.Core.val64 0x3ff0000000000000) (FP.Core.val64 b)) := FP.Core.val64_dadd _ _
  have w1 := r1
  rw [← v1] at r1
  have hp : ∃ V, FP.Core.fits FP.Core.b64 V ∧ (∃ t d r, V = .fin t d r) ∧ FP.Core.zval FP.Core.b64 V = R - ((2 ^ 53 * u : Nat) : Int) := by
    obtain ⟨hb1, ⟨t, d, r, e⟩, hb3⟩ := hb
    have e1 : FP.Core.val64 0x3ff0000000000000 = dOne := by decide +kernel
    rw [e1, e] at w1
    rw [e] at hb1 hb3
    obtain ⟨V, q1, q2, q3⟩ := plus_rep hb1 hu (by rw [hb3]; exact h1) (by rw [hb3]; exact h2)
    rw [w1.2.2] at q3
    exact ⟨V, q1, q2, q3⟩
  obtain ⟨V, q1, q2, q3⟩ := hp
  have hV : FN V (R - ((2 ^ 53 * u : Nat) : Int)) := ⟨q1, q2, q3⟩
  have o1 := fn_num one
  have b0 := r3 _ fn_zero.1 (fn_num fn_zero)
  rw [fn_zero.2.2] at b0
  have b0' := b0.1 (by omega)
  unfold g_R_against
  rw [jnD_fn r1, obd_some, dcmp_fn ha r1, dcmp_fn ha r1]
  have ax := r3 _ ha.1 (fn_num ha)
  rw [ha.2.2] at ax
  by_cases hX : X = R
  · subst hX
    have s0 : sgI (X - X) = 0 := by rw [Int.sub_self]; rfl
    rw [if_pos s0]
    have p2 : FN (FP.Core.val64 (FP.dsub (FP.dadd 0x3ff0000000000000 b) 0x3ff0000000000000)) (X + -((2 ^ 53 * u : Nat) : Int)) := by
      have e : FP.Core.val64 (FP.dsub (FP.dadd 0x3ff0000000000000 b) 0x3ff0000000000000) = FP.Core.round FP.Core.b64 (FP.Core.exactSum (FP.Core.val64 (FP.dadd 0x3ff0000000000000 b)) (FP.Core.negate (FP.Core.val64 0x3ff0000000000000))) := FP.Core.val64_dsub _ _
      rw [e]
      exact fn_exact r1 (fn_neg one) (V := V) (by rw [← Int.sub_eq_add_neg]; exact hV) hu (by omega) (by omega)
    generalize hx2 : FP.dsub (FP.dadd 0x3ff0000000000000 b) 0x3ff0000000000000 = x2 at *
    have p3 : FN (FP.Core.val64 (FP.dsub (FP.dadd 0x3ff0000000000000 b) x2)) ((2 ^ 53 * u : Nat) : Int) := by
      have e : FP.Core.val64 (FP.dsub (FP.dadd 0x3ff0000000000000 b) x2) = FP.Core.round FP.Core.b64 (FP.Core.exactSum (FP.Core.val64 (FP.dadd 0x3ff0000000000000 b)) (FP.Core.negate (FP.Core.val64 x2))) := FP.Core.val64_dsub _ _
      have e2 : X + -(X + -((2 ^ 53 * u : Nat) : Int)) = ((2 ^ 53 * u : Nat) : Int) := by omega
      rw [e]
      have := fn_exact r1 (fn_neg p2) (V := FP.Core.val64 0x3ff0000000000000) (by rw [e2]; exact one) hu (by omega) (by omega)
      rw [e2] at this
      exact this
    generalize hx3 : FP.dsub (FP.dadd 0x3ff0000000000000 b) x2 = x3 at *
    have p4 : FN (FP.Core.val64 (FP.dsub 0x3ff0000000000000 x3)) 0 := by
      have e : FP.Core.val64 (FP.dsub 0x3ff0000000000000 x3) = FP.Core.round FP.Core.b64 (FP.Core.exactSum (FP.Core.val64 0x3ff0000000000000) (FP.Core.negate (FP.Core.val64 x3))) := FP.Core.val64_dsub _ _
      have e2 : ((2 ^ 53 * u : Nat) : Int) + -((2 ^ 53 * u : Nat) : Int) = 0 := by omega
      rw [e]
      have := fn_exact one (fn_neg p3) (V := FP.Core.val64 0) (by rw [e2]; exact fn_zero) hu (by omega) (by omega)
      rw [e2] at this
      exact this
    generalize hx4 : FP.dsub 0x3ff0000000000000 x3 = x4 at *
    obtain ⟨Z, z1, z2, -, z4⟩ := fn_sum hb (fn_neg p2) hu (by omega) (by omega)
    have p5 : FN (FP.Core.val64 (FP.dsub b x2)) Z := by
      have e : FP.Core.val64 (FP.dsub b x2) = FP.Core.round FP.Core.b64 (FP.Core.exactSum (FP.Core.val64 b) (FP.Core.negate (FP.Core.val64 x2))) := FP.Core.val64_dsub _ _
      rw [e]; exact z1
    generalize hx5 : FP.dsub b x2 = x5 at *
    have p6 : FN (FP.Core.val64 (FP.dadd x4 x5)) Z := by
      have e : FP.Core.val64 (FP.dadd x4 x5) = FP.Core.round FP.Core.b64 (FP.Core.exactSum (FP.Core.val64 x4) (FP.Core.val64 x5)) := FP.Core.val64_dadd _ _
      rw [e]
      have := fn_exact p4 p5 (V := FP.Core.val64 x5) (by rw [Int.zero_add]; exact p5) hu (by omega) (by omega)
      rw [Int.zero_add] at this
      exact this
    generalize hx6 : FP.dadd x4 x5 = x6 at *
    rw [jnD_fn p2, obd_some, hx3, jnD_fn p3, obd_some, hx4, jnD_fn p4, obd_some, hx5, jnD_fn p5, obd_some, hx6, jnD_fn p6, obd_some, dcmp_fn p6 fn_zero, dcmp_fn p6 fn_zero, Int.sub_zero, z2]
    rcases sgI_cases (Y + -(X + -((2 ^ 53 * u : Nat) : Int))) with ⟨h, e⟩ | ⟨h, e⟩ | ⟨h, e⟩
    · rw [e, if_neg (by decide)]
      unfold sgI
      rw [if_neg (by omega), if_neg (by omega)]
    · rw [e, if_pos (by decide), if_pos (by decide)]
      unfold sgI
      rw [if_neg (by omega), if_pos (by omega)]
    · rw [e, if_pos (by decide), if_neg (by decide)]
      unfold sgI
      rw [if_pos (by omega)]
  · rcases sgI_cases (X - R) with ⟨h, e⟩ | ⟨h, e⟩ | ⟨h, e⟩
    · rw [e, if_neg (by decide), if_pos (by decide)]
      unfold sgI
      rw [if_pos (by
        apply Classical.byContradiction
        intro z
        have := ax.1 (by omega)
        omega)]
    · exact absurd (by omega) hX
    · rw [e, if_neg (by decide), if_neg (by decide)]
      have hz : ¬ ((2 ^ 53 * u : Nat) : Int) + Y ≤ X := fun z => by
        have := ax.2 z
        omega
      unfold sgI
      rw [if_neg (by omega), if_neg (by omega)]
end POLESUM
