/-! numbers turned into shorts: the reference's way -/
section TURNED
variable {W n F : Int} {P u : Nat}
/-- the whole number nearest to W / P, the even one of two -/
def rnd (F W : Int) (P : Nat) : Int := if (P : Int) < 2 * (W - F * (P : Int)) ∨ ((P : Int) = 2 * (W - F * (P : Int)) ∧ F % 2 = 1) then F + 1 else F
def tS (n : Int) : UInt64 := if -32768 ≤ n ∧ n ≤ 32767 then FP.l2d (Int64.ofInt n) else 0x40e3880000000000
theorem ofI (h : n.natAbs < 2 ^ 62) : (Int64.ofInt n).toInt = n := Int64.toInt_ofInt_of_le (by omega) (by omega)
theorem dI_of (h : n.natAbs < 2 ^ 50) : FP.Core.DInt n (FP.l2d (Int64.ofInt n)) := by
  have e := ofI (n := n) (by omega)
  have := FP.Core.l2d_int (a := Int64.ofInt n) (by rw [e]; omega)
  rw [e] at this
  exact this
theorem whole_lit {a : UInt64} {s : Bool} {c : Nat} {q : Int} (h : FP.Core.val64 a = .fin s c q) (hw : FP.Core.signed s (c * 2 ^ q.toNat) = n * ((2 ^ (-q).toNat : Nat) : Int)) : FP.Core.DInt n a := by
  show FP.Core.Whole n (FP.Core.val64 a)
  rw [h]; exact hw
theorem dI_lo : FP.Core.DInt (-32768) 0xc0e0000000000000 := whole_lit (s := true) (c := 2 ^ 52) (q := -37) (by decide +kernel) (by decide +kernel)
theorem dI_hi : FP.Core.DInt 32767 0x40dfffc000000000 := whole_lit (s := false) (c := 32767 * 2 ^ 38) (q := -38) (by decide +kernel) (by decide +kernel)
theorem dI_40 : FP.Core.DInt 40000 0x40e3880000000000 := whole_lit (s := false) (c := 40000 * 2 ^ 37) (q := -37) (by decide +kernel) (by decide +kernel)
theorem dI_m40 : FP.Core.DInt (-40000) 0xc0e3880000000000 := whole_lit (s := true) (c := 40000 * 2 ^ 37) (q := -37) (by decide +kernel) (by decide +kernel)
theorem dI_1 : FP.Core.DInt 1 0x3ff0000000000000 := whole_lit (s := false) (c := 2 ^ 52) (q := -52) (by decide +kernel) (by decide +kernel)
theorem dI_0 : FP.Core.DInt 0 0 := whole_lit (s := false) (c := 0) (q := -1074) (by decide +kernel) (by decide +kernel)
theorem dI_num {a : UInt64} (h : FP.Core.DInt n a) : jnD a = some a := jnD_pos ((n64_iff a).mpr (FP.Core.DInt_ne_nan h))
theorem dI_cmp {m : Int} {a b : UInt64} (ha : FP.Core.DInt n a) (hb : FP.Core.DInt m b) (i : CmpOp) : Op.cmpValue (FP.dcmp a b) i = sgI (n - m) := by
  have e : FP.dcmp a b = some (compare n m) := FP.Core.dcmp_int ha hb
  rw [e, cmpv_some, cmp_sg]
theorem sg_lt0 {z : Int} : sgI z < 0 ↔ z < 0 := by
  rcases sgI_cases z with ⟨h, e⟩ | ⟨h, e⟩ | ⟨h, e⟩
  · rw [e]; exact ⟨fun q => absurd q (by decide), fun q => by omega⟩
  · rw [e]; exact ⟨fun q => absurd q (by decide), fun q => by omega⟩
  · rw [e]; exact ⟨fun _ => h, fun _ => by decide⟩
theorem sg_gt0 {z : Int} : 0 < sgI z ↔ 0 < z := by
  rcases sgI_cases z with ⟨h, e⟩ | ⟨h, e⟩ | ⟨h, e⟩
  · rw [e]; exact ⟨fun _ => h, fun _ => by decide⟩
  · rw [e]; exact ⟨fun q => absurd q (by decide), fun q => by omega⟩
  · rw [e]; exact ⟨fun q => absurd q (by decide), fun q => by omega⟩
theorem sg_eq0 {z : Int} : sgI z = 0 ↔ z = 0 := by
  rcases sgI_cases z with ⟨h, e⟩ | ⟨h, e⟩ | ⟨h, e⟩
  · rw [e]; exact ⟨fun q => absurd q (by decide), fun q => by omega⟩
  · rw [e]; exact ⟨fun _ => h, fun _ => rfl⟩
  · rw [e]; exact ⟨fun q => absurd q (by decide), fun q => by omega⟩
theorem sg_le0 {z : Int} : sgI z ≤ 0 ↔ z ≤ 0 := by
  rcases sgI_cases z with ⟨h, e⟩ | ⟨h, e⟩ | ⟨h, e⟩
  · rw [e]; exact ⟨fun q => absurd q (by decide), fun q => by omega⟩
  · rw [e]; exact ⟨fun _ => by omega, fun _ => by decide⟩
  · rw [e]; exact ⟨fun _ => by omega, fun _ => by decide⟩
theorem t172 {v : UInt64} (hv : FP.Core.DInt n v) (hn : n.natAbs < 2 ^ 40) : g_R_turned_172 v = some (tS n) := by
  unfold g_R_turned_172 tS
  rw [dI_cmp hv dI_lo, dI_cmp hv dI_hi]
  by_cases h1 : n < -32768
  · rw [if_pos (sg_lt0.mpr (by omega)), if_neg (by omega)]
  · rw [if_neg (fun z => h1 (by have := sg_lt0.mp z; omega))]
    by_cases h2 : 32767 < n
    · rw [if_pos (sg_gt0.mpr (by omega)), if_neg (by omega)]
    · rw [if_neg (fun z => h2 (by have := sg_gt0.mp z; omega)), if_pos (by omega)]
      have ha : FP.Core.DInt n (FP.dadd v 0) := by
        have := FP.Core.dadd_int hv dI_0 (by omega)
        rw [Int.add_zero] at this
        exact this
      rw [dI_num ha, obd_some]
      by_cases h0 : n = 0
      · subst h0
        have hv0 : ∃ s, FP.Core.val64 v = .fin s 0 FP.Core.b64.qmin := by
          have hw : FP.Core.Whole 0 (FP.Core.val64 v) := hv
          have hf := FP.Core.val64_fits v
          cases e : FP.Core.val64 v with
          | nan => rw [e] at hw; exact hw.elim
          | inf s => rw [e] at hw; exact hw.elim
          | fin s c q =>
            rw [e] at hw hf
            have hw : FP.Core.signed s (c * 2 ^ q.toNat) = 0 * ((2 ^ (-q).toNat : Nat) : Int) := hw
            rw [Int.zero_mul] at hw
            have hc : c * 2 ^ q.toNat = 0 := by
              cases s with
              | false => have hw : ((c * 2 ^ q.toNat : Nat) : Int) = 0 := hw; omega
              | true => have hw : -((c * 2 ^ q.toNat : Nat) : Int) = 0 := hw; omega
            have hc : c = 0 := by
              rcases Nat.mul_eq_zero.mp hc with h | h
              · exact h
              · have := Nat.two_pow_pos q.toNat; omega
            subst hc
            obtain ⟨f1, f2, f3, f4⟩ := hf
            rcases f4 with h | h
            · exact ⟨s, by rw [h]⟩
            · exact absurd h (by decide)
        obtain ⟨s, hs⟩ := hv0
        refine congrArg some (FP.Core.val64_inj (FP.Core.DInt_ne_nan ha) ?_)
        have e1 : FP.Core.val64 (FP.dadd v 0) = FP.Core.round FP.Core.b64 (FP.Core.exactSum (FP.Core.val64 v) (FP.Core.val64 0)) := FP.Core.val64_dadd _ _
        have e2 : FP.Core.val64 0 = .fin false 0 FP.Core.b64.qmin := FP.Core.val64_zero
        have e3 : FP.l2d (Int64.ofInt 0) = 0 := by decide +kernel
        rw [e1, e3, hs, e2, sum_zero (Or.inl rfl), Bool.and_false]
      · exact congrArg some (FP.Core.dint_unique h0 ha (dI_of (by omega)))
theorem odd_of (h : F.natAbs < 2 ^ 50) : (Int64.ofInt F &&& (1 : Int64)) = (1 : Int64) ↔ F % 2 = 1 := by
  have e := ofI (n := F) (by omega)
  have e1 := toInt_un (Int64.ofInt F)
  have e2 : un (Int64.ofInt F &&& 1) = un (Int64.ofInt F) % 2 := by
    rw [un_and, show un (1 : Int64) = 1 from rfl, Nat.and_one_is_mod]
  rw [e] at e1
  constructor
  · intro h1
    have := congrArg un h1
    rw [e2, show un (1 : Int64) = 1 from rfl] at this
    split at e1 <;> omega
  · intro h1
    refine un_inj ?_
    rw [e2, show un (1 : Int64) = 1 from rfl]
    split at e1 <;> omega
theorem fn_int {t : UInt64} (h : FP.Core.DInt F t) : FN (FP.Core.val64 t) (F * (FP.Core.one64 : Int)) := by
  refine ⟨FP.Core.val64_fits t, ?_, FP.Core.DInt_zval h⟩
  have hw : FP.Core.Whole F (FP.Core.val64 t) := h
  cases e : FP.Core.val64 t with
  | nan => rw [e] at hw; exact hw.elim
  | inf s => rw [e] at hw; exact hw.elim
  | fin s c q => exact ⟨_, _, _, rfl⟩
theorem one64_u (hu : u = 2 ^ 1021) : FP.Core.one64 = 2 ^ 53 * u := by
  unfold FP.Core.one64
  rw [hu, ← Nat.pow_add]
theorem fn_half (hu : u = 2 ^ 1021) : FN (FP.Core.val64 0x3fe0000000000000) ((2 ^ 52 * u : Nat) : Int) := by
  have e : FP.Core.val64 0x3fe0000000000000 = dHalf := by decide +kernel
  rw [e]; exact ⟨half_fits, ⟨_, _, _, rfl⟩, half_z hu⟩
/-- what is left above the whole part, as the reference's difference says it -/
theorem rest_of {y t : UInt64} (hu : u = 2 ^ 1021) (hP : P = 2 ^ 53 * u) (hP' : FP.Core.one64 = P) (hy : FN (FP.Core.val64 y) W) (ht : FP.Core.DInt F t) (h1 : F * (P : Int) ≤ W) (h2 : W < F * (P : Int) + P) :
    ∃ Z, FN (FP.Core.val64 (FP.dsub y t)) Z ∧ (Z = W - F * (P : Int) ∨ (F = -1 ∧ (P : Int) < 2 * (W - F * (P : Int)) ∧ ((2 ^ 52 * u : Nat) : Int) ≤ Z)) := by
  have hup : 0 < u := by rw [hu]; exact Nat.two_pow_pos _
  have hf := fn_int ht
  rw [hP'] at hf
  have hd : FP.Core.val64 (FP.dsub y t) = FP.Core.round FP.Core.b64 (FP.Core.exactSum (FP.Core.val64 y) (FP.Core.negate (FP.Core.val64 t))) := FP.Core.val64_dsub _ _
  rw [hd]
  have hn := fn_neg hf
  have key : ∀ V, FN V (W - F * (P : Int)) → ∃ Z, FN (FP.Core.round FP.Core.b64 (FP.Core.exactSum (FP.Core.val64 y) (FP.Core.negate (FP.Core.val64 t)))) Z ∧ (Z = W - F * (P : Int) ∨ (F = -1 ∧ (P : Int) < 2 * (W - F * (P : Int)) ∧ ((2 ^ 52 * u : Nat) : Int) ≤ Z)) := fun V hV => by
    refine ⟨W + -(F * (P : Int)), fn_exact hy hn (V := V) (by rw [← Int.sub_eq_add_neg]; exact hV) hu (by omega) (by omega), Or.inl (by omega)⟩
  by_cases hb : (2 ^ 52 * u : Int) ≤ W ∨ W ≤ -(2 ^ 52 * u : Int)
  · -- coarse
    obtain ⟨fy, ⟨s, c, q, ey⟩, ez⟩ := hy
    rw [ey, zval_fin] at ez
    have hc : c < 2 ^ 53 := by rw [ey] at fy; exact fy.1
    generalize (q + 1074).toNat = j at *
    have e73 : 2 ^ 1073 = 2 ^ 52 * u := by rw [hu, ← Nat.pow_add]
    have hbig : 2 ^ 1073 ≤ c * 2 ^ j := by
      rw [e73]
      cases s with
      | false => have ez : ((c * 2 ^ j : Nat) : Int) = W := ez; omega
      | true => have ez : -((c * 2 ^ j : Nat) : Int) = W := ez; omega
    obtain ⟨a, ha⟩ := coarse hc hbig
    rw [← hu] at ha
    rw [ha] at ez
    -- W is a times u
    obtain ⟨w, hw⟩ : ∃ w : Int, W = w * (u : Int) := by
      cases s with
      | false => exact ⟨a, by have ez : ((a * u : Nat) : Int) = W := ez; rw [← ez, Int.natCast_mul]⟩
      | true => exact ⟨-a, by have ez : -((a * u : Nat) : Int) = W := ez; rw [← ez, Int.natCast_mul, Int.neg_mul]⟩
    have hR : W - F * (P : Int) = (w - F * 2 ^ 53) * (u : Int) := by
      rw [hw, hP, Int.sub_mul, Int.natCast_mul, ← Int.mul_assoc]
      rfl
    have hr0 : 0 ≤ w - F * 2 ^ 53 := by
      have h3 : 0 * (u : Int) ≤ (w - F * 2 ^ 53) * (u : Int) := by rw [← hR]; omega
      exact Int.le_of_mul_le_mul_right h3 (by omega)
    have hr1 : w - F * 2 ^ 53 < 2 ^ 53 := by
      have h3 : (w - F * 2 ^ 53) * (u : Int) < (2 ^ 53) * (u : Int) := by rw [← hR]; omega
      exact Int.lt_of_mul_lt_mul_right h3 (by omega)
    obtain ⟨V, v1, v2, v3⟩ := rep (s := false) (c := (w - F * 2 ^ 53).toNat) (j := 1021) (by omega) (by decide)
    refine key V ⟨v1, v2, ?_⟩
    rw [v3, hR, ← hu]
    show (((w - F * 2 ^ 53).toNat * u : Nat) : Int) = _
    rw [Int.natCast_mul, Int.toNat_of_nonneg hr0]
  · by_cases h0 : 0 ≤ W
    · have hF : F = 0 := by
        by_cases z1 : 1 ≤ F
        · have : 1 * (P : Int) ≤ F * (P : Int) := Int.mul_le_mul_of_nonneg_right z1 (by omega)
          omega
        · by_cases z2 : F ≤ -1
          · have : F * (P : Int) ≤ -1 * (P : Int) := Int.mul_le_mul_of_nonneg_right z2 (by omega)
            omega
          · omega
      refine key (FP.Core.val64 y) ?_
      rw [hF, Int.zero_mul, Int.sub_zero]; exact hy
    · have hF : F = -1 := by
        by_cases z1 : 0 ≤ F
        · have : 0 * (P : Int) ≤ F * (P : Int) := Int.mul_le_mul_of_nonneg_right z1 (by omega)
          omega
        · by_cases z2 : F ≤ -2
          · have : F * (P : Int) ≤ -2 * (P : Int) := Int.mul_le_mul_of_nonneg_right z2 (by omega)
            omega
          · omega
      subst hF
      have hlt : (2 ^ 52 * u : Nat) ≤ W + -(-1 * (P : Int)) := by omega
      obtain ⟨Z, z1, z2, z3, z4⟩ := fn_sum hy hn hu (by omega) (by omega)
      have hh := z3 _ (fn_half hu).1 (fn_num (fn_half hu))
      rw [(fn_half hu).2.2] at hh
      exact ⟨Z, z1, Or.inr ⟨rfl, by omega, hh.1 hlt⟩⟩
theorem t119 {y t : UInt64} (hu : u = 2 ^ 1021) (hP : P = 2 ^ 53 * u) (hP' : FP.Core.one64 = P) (hy : FN (FP.Core.val64 y) W) (ht : FP.Core.DInt F t) (h1 : F * (P : Int) ≤ W) (h2 : W < F * (P : Int) + P) (hF : F.natAbs < 2 ^ 40 - 1) :
    g_R_turned_119 y t = some (tS (rnd F W P)) := by
  have hup : 0 < u := by rw [hu]; exact Nat.two_pow_pos _
  obtain ⟨Z, z1, z2⟩ := rest_of hu hP hP' hy ht h1 h2
  have eF := ofI (n := F) (by omega)
  have e1 : FP.d2l t = Int64.ofInt F := FP.Core.d2l_int (a := Int64.ofInt F) (by rw [eF]; exact ht)
  have hup1 : FP.Core.DInt (F + 1) (FP.dadd t 0x3ff0000000000000) := FP.Core.dadd_int ht dI_1 (by omega)
  have t166 : g_R_turned_166 t = some (tS (F + 1)) := by
    unfold g_R_turned_166
    rw [dI_num hup1, obd_some]
    exact t172 hup1 (by omega)
  have t172' := t172 ht (by omega)
  have hc : ∀ i : CmpOp, Op.cmpValue (FP.dcmp (FP.dsub y t) 0x3fe0000000000000) i = sgI (Z - ((2 ^ 52 * u : Nat) : Int)) := fun i => dcmp_fn z1 (fn_half hu) i
  have key : ∀ b : Bool, (b = true ↔ F % 2 = 1) → g_R_turned_141 t (FP.dsub y t) b = some (tS (rnd F W P)) := fun b hb => by
    unfold g_R_turned_141
    rw [hc]
    have hr : rnd F W P = if (P : Int) < 2 * (W - F * (P : Int)) ∨ ((P : Int) = 2 * (W - F * (P : Int)) ∧ F % 2 = 1) then F + 1 else F := rfl
    by_cases g1 : 0 < Z - ((2 ^ 52 * u : Nat) : Int)
    · rw [if_pos (sg_gt0.mpr g1), t166, hr, if_pos (Or.inl (by rcases z2 with z | ⟨-, z, -⟩ <;> omega))]
    · rw [if_neg (fun z => g1 (sg_gt0.mp z))]
      by_cases g2 : Z - ((2 ^ 52 * u : Nat) : Int) = 0
      · rw [if_pos (sg_eq0.mpr g2)]
        by_cases g3 : b = true
        · rw [if_pos g3, t166, hr, if_pos ?_]
          rcases z2 with z | ⟨-, z, -⟩
          · exact Or.inr ⟨by omega, hb.mp g3⟩
          · exact Or.inl z
        · rw [if_neg g3, t172', hr, if_neg ?_]
          rintro (z | ⟨-, z⟩)
          · rcases z2 with w | ⟨w, -, -⟩
            · omega
            · exact g3 (hb.mpr (by rw [w]; rfl))
          · exact g3 (hb.mpr z)
      · rw [if_neg (fun z => g2 (sg_eq0.mp z)), t172', hr, if_neg ?_]
        rintro (z | ⟨z, -⟩)
        · rcases z2 with w | ⟨-, -, w⟩ <;> omega
        · rcases z2 with w | ⟨-, -, w⟩ <;> omega
  unfold g_R_turned_119
  rw [jnD_fn z1, obd_some, e1]
  by_cases g : (Int64.ofInt F &&& (1 : Int64)) = (1 : Int64)
  · rw [if_pos g]
    exact key true ⟨fun _ => (odd_of (by omega)).mp g, fun _ => rfl⟩
  · rw [if_neg g]
    exact key false ⟨fun z => (by cases z), fun z => absurd ((odd_of (by omega)).mpr z) g⟩
theorem fin_big {d : FP.Core.Datum} (hf : FP.Core.fits FP.Core.b64 d) (hn : d ≠ .nan) (hu : u = 2 ^ 1021) (h1 : -((2 ^ 70 * u : Nat) : Int) ≤ FP.Core.zval FP.Core.b64 d) (h2 : FP.Core.zval FP.Core.b64 d ≤ ((2 ^ 70 * u : Nat) : Int)) : FN d (FP.Core.zval FP.Core.b64 d) := by
  cases d with
  | nan => exact absurd rfl hn
  | fin s c q => exact ⟨hf, ⟨_, _, _, rfl⟩, rfl⟩
  | inf s =>
    have e : FP.Core.zval FP.Core.b64 (.inf s) = FP.Core.signed s (FP.Core.b64.tails * 2 ^ (FP.Core.b64.exps - 2)) := rfl
    have h3 : 2 ^ 70 * u < FP.Core.b64.tails * 2 ^ (FP.Core.b64.exps - 2) := by
      rw [show FP.Core.b64.tails = 2 ^ 52 from by decide, show FP.Core.b64.exps - 2 = 2046 from by decide, hu, ← Nat.pow_add, ← Nat.pow_add]
      exact Nat.pow_lt_pow_right (by decide) (by decide)
    rw [e] at h1 h2
    generalize FP.Core.b64.tails * 2 ^ (FP.Core.b64.exps - 2) = Z at *
    cases s with
    | true =>
      have ez : FP.Core.signed true Z = -(Z : Int) := rfl
      rw [ez] at h1
      omega
    | false =>
      have ez : FP.Core.signed false Z = (Z : Int) := rfl
      rw [ez] at h2
      omega
/-- the whole way -/
theorem t75 {y : UInt64} (hu : u = 2 ^ 1021) (hP : P = 2 ^ 53 * u) (hP' : FP.Core.one64 = P) (hn : FP.Core.val64 y ≠ .nan) (hW : FP.Core.zval FP.Core.b64 (FP.Core.val64 y) = W) :
    ((W ≤ -40000 * (P : Int) ∨ 40000 * (P : Int) ≤ W) → g_R_turned_75 y = some 0x40e3880000000000) ∧
    (∀ F : Int, F * (P : Int) ≤ W → W < F * (P : Int) + P → -40000 * (P : Int) < W → W < 40000 * (P : Int) → g_R_turned_75 y = some (tS (rnd F W P))) := by
  have hup : 0 < u := by rw [hu]; exact Nat.two_pow_pos _
  have n1 := FP.Core.DInt_ne_nan dI_40
  have n2 := FP.Core.DInt_ne_nan dI_m40
  have w1 := FP.Core.DInt_zval dI_40
  have w2 := FP.Core.DInt_zval dI_m40
  rw [hP'] at w1 w2
  have c1 : ∀ i : CmpOp, Op.cmpValue (FP.dcmp y 0xc0e3880000000000) i = sgI (W - -40000 * (P : Int)) := fun i => by
    have e : FP.dcmp y 0xc0e3880000000000 = some (compare W (-40000 * (P : Int))) := by rw [← hW, ← w2]; exact FP.Core.dcmp_zval hn n2
    rw [e, cmpv_some, cmp_sg]
  have c2 : ∀ i : CmpOp, Op.cmpValue (FP.dcmp y 0x40e3880000000000) i = sgI (W - 40000 * (P : Int)) := fun i => by
    have e : FP.dcmp y 0x40e3880000000000 = some (compare W (40000 * (P : Int))) := by rw [← hW, ← w1]; exact FP.Core.dcmp_zval hn n1
    rw [e, cmpv_some, cmp_sg]
  have pre : g_R_turned_75 y = if W - -40000 * (P : Int) ≤ 0 then some 0x40e3880000000000 else if W - 40000 * (P : Int) < 0 then (if (Op.cmpValue (FP.dcmp (FP.l2d (FP.d2l y)) y) .l) ≤ 0 then g_R_turned_119 y (FP.l2d (FP.d2l y)) else obd (jnD (FP.dsub (FP.l2d (FP.d2l y)) 0x3ff0000000000000)) fun x1 => g_R_turned_119 y x1) else some 0x40e3880000000000 := by
    unfold g_R_turned_75
    rw [c1, c2]
    by_cases g1 : W - -40000 * (P : Int) ≤ 0
    · rw [if_pos (sg_le0.mpr g1), if_pos g1]
    · rw [if_neg (fun z => g1 (sg_le0.mp z)), if_neg g1]
      by_cases g2 : W - 40000 * (P : Int) < 0
      · rw [if_pos (sg_lt0.mpr g2), if_pos g2]
      · rw [if_neg (fun z => g2 (sg_lt0.mp z)), if_neg g2]
  refine ⟨fun h => ?_, fun F h1 h2 h3 h4 => ?_⟩
  · rw [pre]
    rcases h with h | h
    · rw [if_pos (by omega)]
    · rw [if_neg (by omega), if_neg (by omega)]
  · rw [pre, if_neg (by omega), if_pos (by omega)]
    have hy : FN (FP.Core.val64 y) W := by
      have := fin_big (FP.Core.val64_fits y) hn hu (by rw [hW]; omega) (by rw [hW]; omega)
      rw [hW] at this
      exact this
    -- the whole part
    have hdv := FP.Core.d2l_val hn
    have hz : FP.Core.zval FP.Core.b64 (FP.Core.val64 y) = FP.Core.signed (FP.Core.sgn (FP.Core.val64 y)) (FP.Core.zmag FP.Core.b64 (FP.Core.val64 y)) := rfl
    rw [hW] at hz
    have hFb : F.natAbs < 2 ^ 20 := by
      by_cases z1 : 40000 ≤ F
      · have : 40000 * (P : Int) ≤ F * (P : Int) := Int.mul_le_mul_of_nonneg_right z1 (by omega)
        omega
      · by_cases z2 : F ≤ -40002
        · have : F * (P : Int) ≤ -40002 * (P : Int) := Int.mul_le_mul_of_nonneg_right z2 (by omega)
          omega
        · omega
    have uniq : ∀ G : Int, G * (P : Int) ≤ W → W < G * (P : Int) + P → G = F := fun G g1 g2 => by
      rcases Int.lt_trichotomy G F with z | z | z
      · have : (G + 1) * (P : Int) ≤ F * (P : Int) := Int.mul_le_mul_of_nonneg_right (by omega) (by omega)
        rw [Int.add_mul, Int.one_mul] at this
        omega
      · exact z
      · have : (F + 1) * (P : Int) ≤ G * (P : Int) := Int.mul_le_mul_of_nonneg_right (by omega) (by omega)
        rw [Int.add_mul, Int.one_mul] at this
        omega
    have hPp : 0 < P := by rw [hP]; omega
    rw [hP'] at hdv
    generalize FP.Core.sgn (FP.Core.val64 y) = s at *
    generalize FP.Core.zmag FP.Core.b64 (FP.Core.val64 y) = mg at *
    by_cases h0 : 0 ≤ W
    · obtain ⟨i, i1, i2, i3, i4⟩ := FP.Core.cut_pos (s := s) (m := mg) (P := P) (k := 40000) hPp (by rw [← hz]; exact h0) (by rw [← hz]; omega)
      rw [← hz] at i3 i4
      rw [Int.add_mul, Int.one_mul] at i4
      have eF : (i : Int) = F := uniq _ i3 i4
      rw [i1] at hdv
      have ed : (FP.d2l y).toInt = F := by
        have : (FP.d2l y).toInt = (FP.Core.d2l y).toInt := rfl
        rw [this, hdv]; omega
      have hl : FP.Core.DInt F (FP.l2d (FP.d2l y)) := by
        have := FP.Core.l2d_int (a := FP.d2l y) (by rw [ed]; omega)
        rw [ed] at this
        exact this
      have hc : Op.cmpValue (FP.dcmp (FP.l2d (FP.d2l y)) y) .l = sgI (F * (P : Int) - W) := by
        have := dcmp_fn (fn_int hl) hy .l
        rw [hP'] at this
        exact this
      rw [hc, if_pos (sg_le0.mpr (by omega))]
      exact t119 hu hP hP' hy hl h1 h2 (by omega)
    · obtain ⟨i, i1, i2, i3, i4⟩ := FP.Core.cut_neg (s := s) (m := mg) (P := P) (k := 40000) hPp (by rw [← hz]; omega) (by rw [← hz]; omega)
      rw [← hz] at i3 i4
      rw [Int.sub_mul, Int.one_mul] at i4
      rw [i1] at hdv
      have ed : (FP.d2l y).toInt = -(i : Int) := by
        have : (FP.d2l y).toInt = (FP.Core.d2l y).toInt := rfl
        rw [this, hdv]; omega
      have hl : FP.Core.DInt (-(i : Int)) (FP.l2d (FP.d2l y)) := by
        have := FP.Core.l2d_int (a := FP.d2l y) (by rw [ed]; omega)
        rw [ed] at this
        exact this
      have hc : Op.cmpValue (FP.dcmp (FP.l2d (FP.d2l y)) y) .l = sgI (-(i : Int) * (P : Int) - W) := by
        have := dcmp_fn (fn_int hl) hy .l
        rw [hP'] at this
        exact this
      rw [hc]
      by_cases g : -(i : Int) * (P : Int) ≤ W
      · have eF : -(i : Int) = F := uniq _ g (by omega)
        rw [if_pos (sg_le0.mpr (by omega))]
        rw [eF] at hl
        exact t119 hu hP hP' hy hl h1 h2 (by omega)
      · have hs : FP.Core.DInt (-(i : Int) - 1) (FP.dsub (FP.l2d (FP.d2l y)) 0x3ff0000000000000) := FP.Core.dsub_int hl dI_1 (by omega)
        have eF : -(i : Int) - 1 = F := uniq _ (by rw [Int.sub_mul, Int.one_mul]; omega) (by rw [Int.sub_mul, Int.one_mul]; omega)
        rw [if_neg (fun z => g (by have := sg_le0.mp z; omega)), dI_num hs, obd_some]
        rw [eF] at hs
        exact t119 hu hP hP' hy hs h1 h2 (by omega)
end TURNED
