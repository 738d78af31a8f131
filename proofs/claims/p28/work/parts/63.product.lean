/-! products -/
section PRODUCT
variable {S : ST} {A : AT} {C : CT} {bx a : Nat} {f : FP.Core.Fmt} {s t : Bool}
theorem sg_un (hf : Fq f) {m : Nat} (hm : m < es f) : un (sg f s m) = if s = true then 2 ^ 64 - es f + m else m := by
  have := (fq_n hf).2.2.2.2
  unfold sg
  cases s with
  | false => rw [if_neg (by decide), if_neg (by decide), un_j' (by omega)]
  | true => rw [if_pos rfl, if_pos rfl, un_j' (by omega)]
theorem sg_size (hf : Fq f) (hp : RP f C a) {m : Nat} (hm : m < es f) : c_Real_sizeOf a (sg f s m) C = some (j64 m) := by
  have hn := (fq_n hf).2.2.2.2
  obtain ⟨k, hk, h1, h2⟩ := fq_es hf
  have e1 : j64 (2 ^ 64 - es f) ^^^ (-1 : Int64) = j64 (2 ^ k - 1) := by
    rw [← h1]
    rcases hf with rfl | rfl <;> decide
  unfold c_Real_sizeOf
  rw [hp.2.2.2.2.2.1, obd_some, e1]
  congr 1
  apply un_inj
  rw [un_and, sg_un hf hm, un_j' (n := 2 ^ k - 1) (by omega), un_j' (by omega), Nat.and_two_pow_sub_one_eq_mod]
  cases s with
  | false => rw [if_neg (by decide), Nat.mod_eq_of_lt (by omega)]
  | true => rw [if_pos rfl, h2, Nat.mul_add_mod, Nat.mod_eq_of_lt (by omega)]
theorem sg_nonneg (hf : Fq f) {m : Nat} (hm : m < es f) : (0 : Int64) ≤ sg f s m ↔ s = false := by
  have hn := (fq_n hf).2.2.2.2
  rw [Int64.le_iff_toInt_le, toInt_un, toInt_un (sg f s m), sg_un hf hm]
  have : un 0 = 0 := rfl
  rw [this]
  cases s with
  | false =>
    rw [if_neg (show ¬ (false = true) by decide), if_pos (by omega), if_pos (by omega)]
    exact ⟨fun _ => rfl, fun _ => by omega⟩
  | true =>
    rw [if_pos (rfl : true = true), if_pos (by decide), if_neg (by omega)]
    exact ⟨fun h => by omega, fun h => absurd h (by decide)⟩
theorem sg_cases (hf : Fq f) {x : FP.Core.Datum} (hx : FP.Core.fits f x) : ∃ s m, m < es f ∧ ev f x = sg f s m ∧ x = FP.Core.decode f (s.toNat * es f + m) := by
  have h1 := FP.Core.encode_lt (fq_good hf) x hx
  have h2 := FP.Core.decode_encode (fq_good hf) x hx
  rw [Nat.mul_assoc] at h1
  have h1 : FP.Core.encode f x < 2 * es f := h1
  by_cases h : FP.Core.encode f x < es f
  · refine ⟨false, FP.Core.encode f x, h, ?_, ?_⟩
    · unfold ev sg
      rw [if_pos h, if_neg (by decide)]
    · show x = FP.Core.decode f (0 * es f + _)
      rw [Nat.zero_mul, Nat.zero_add, h2]
  · have hn := (fq_n hf).2.2.2.2
    refine ⟨true, FP.Core.encode f x - es f, by omega, ?_, ?_⟩
    · unfold ev sg
      rw [if_neg h, if_pos rfl]
      congr 1
      omega
    · show x = FP.Core.decode f (1 * es f + _)
      rw [Nat.one_mul, show es f + (FP.Core.encode f x - es f) = FP.Core.encode f x by omega, h2]
theorem ev_nan (hf : Fq f) : ev f .nan = j64 (FP.Core.encode f .nan) := by
  rcases hf with rfl | rfl <;> decide
theorem ev_inf (hf : Fq f) : ev f (.inf s) = sg f s ((f.exps - 1) * f.tails) := ev_sg hf (by
  show FP.Core.assemble f s (f.exps - 1) 0 = _
  unfold FP.Core.assemble
  rw [Nat.add_mul, Nat.add_zero]) (by obtain ⟨k, k1, k2, k3, k4, k5, k6⟩ := fq_t hf; exact k5)
theorem ev_zero (hf : Fq f) : ev f (.fin s 0 f.qmin) = sg f s 0 := ev_sg hf (by
  have : 0 < f.tails := by obtain ⟨k, k1, k2, k3, k4, k5, k6⟩ := fq_t hf; exact k6
  show (if 0 < f.tails then FP.Core.assemble f s 0 0 else _) = _
  rw [if_pos this]
  unfold FP.Core.assemble
  simp only [Nat.add_zero]) (by have := (fq_n hf).2.2.2.2.2.1; omega)
theorem mant_pos (hf : Fq f) {m : Nat} (h : m ≠ 0) : 1 ≤ mant f m ∧ mant f m < 2 ^ 53 := by
  have hn := fq_n hf
  obtain ⟨k, k1, k2, k3, k4, k5, k6⟩ := fq_t hf
  have := Nat.mod_lt m k6
  unfold mant
  split <;> constructor <;> omega
theorem mant_zero (hf : Fq f) : mant f 0 = 0 ∧ expo f 0 = f.qmin := by
  obtain ⟨k, k1, k2, k3, k4, k5, k6⟩ := fq_t hf
  refine ⟨if_pos k6, if_pos (Nat.zero_div _)⟩
theorem high_of {x y : Nat} (hx : x < 2 ^ 53) (hy : y < 2 ^ 53) : g_Real_highProduct (j64 x) (j64 y) = j64 (stk (x * y) (2 ^ 44)) := by
  have x1 := Nat.div_add_mod x (2 ^ 27)
  have y1 := Nat.div_add_mod y (2 ^ 27)
  have x2 := Nat.mod_lt x (show 0 < 2 ^ 27 by decide)
  have y2 := Nat.mod_lt y (show 0 < 2 ^ 27 by decide)
  have x3 : x / 2 ^ 27 < 2 ^ 26 := (Nat.div_lt_iff_lt_mul (by decide)).mpr (by omega)
  have y3 : y / 2 ^ 27 < 2 ^ 26 := (Nat.div_lt_iff_lt_mul (by decide)).mpr (by omega)
  have m27 : (134217727 : Int64) = j64 (2 ^ 27 - 1) := by decide
  have m44 : (17592186044415 : Int64) = j64 (2 ^ 44 - 1) := by decide
  have s27 : (27 : Int32) = i32 27 := rfl
  have s44 : (44 : Int32) = i32 44 := rfl
  have s10 : (10 : Int32) = i32 10 := rfl
  have exy : x * y = 2 ^ 54 * (x / 2 ^ 27 * (y / 2 ^ 27)) + 2 ^ 27 * (x / 2 ^ 27 * (y % 2 ^ 27) + x % 2 ^ 27 * (y / 2 ^ 27)) + x % 2 ^ 27 * (y % 2 ^ 27) := by
    conv => lhs; rw [← x1, ← y1]
    rw [Nat.add_mul, Nat.mul_add, Nat.mul_add, Nat.mul_add, show (2 : Nat) ^ 54 = 2 ^ 27 * 2 ^ 27 by decide]
    have g1 : 2 ^ 27 * (x / 2 ^ 27) * (2 ^ 27 * (y / 2 ^ 27)) = 2 ^ 27 * 2 ^ 27 * (x / 2 ^ 27 * (y / 2 ^ 27)) := by ac_rfl
    have g2 : 2 ^ 27 * (x / 2 ^ 27) * (y % 2 ^ 27) = 2 ^ 27 * (x / 2 ^ 27 * (y % 2 ^ 27)) := by ac_rfl
    have g3 : x % 2 ^ 27 * (2 ^ 27 * (y / 2 ^ 27)) = 2 ^ 27 * (x % 2 ^ 27 * (y / 2 ^ 27)) := by ac_rfl
    rw [g1, g2, g3]
    omega
  have q1 : ((j64 x).toUInt64 >>> ((i32 27).toInt64.toUInt64 &&& Int64.toUInt64 63)).toInt64 = j64 (x / 2 ^ 27) := j_shr (by decide) (by omega)
  have q2 : ((j64 y).toUInt64 >>> ((i32 27).toInt64.toUInt64 &&& Int64.toUInt64 63)).toInt64 = j64 (y / 2 ^ 27) := j_shr (by decide) (by omega)
  have q3 : j64 x &&& j64 (2 ^ 27 - 1) = j64 (x % 2 ^ 27) := j_mask (by decide) (by omega)
  have q4 : j64 y &&& j64 (2 ^ 27 - 1) = j64 (y % 2 ^ 27) := j_mask (by decide) (by omega)
  have hL : x % 2 ^ 27 * (y % 2 ^ 27) < 2 ^ 27 * 2 ^ 27 := Nat.mul_lt_mul'' x2 y2
  have hP : x / 2 ^ 27 * (y % 2 ^ 27) < 2 ^ 26 * 2 ^ 27 := Nat.mul_lt_mul'' x3 y2
  have hQ : x % 2 ^ 27 * (y / 2 ^ 27) < 2 ^ 27 * 2 ^ 26 := Nat.mul_lt_mul'' x2 y3
  have hH : x / 2 ^ 27 * (y / 2 ^ 27) < 2 ^ 26 * 2 ^ 26 := Nat.mul_lt_mul'' x3 y3
  unfold g_Real_highProduct
  simp only [jlet, m27, m44, s27, s44, s10]
  rw [q1, q2, q3, q4, j64_mul, j64_mul, j64_mul, j64_mul]
  generalize x % 2 ^ 27 * (y % 2 ^ 27) = L at *
  generalize x / 2 ^ 27 * (y % 2 ^ 27) = P at *
  generalize x % 2 ^ 27 * (y / 2 ^ 27) = Q at *
  generalize x / 2 ^ 27 * (y / 2 ^ 27) = H at *
  generalize x * y = Z at *
  obtain ⟨Mi, hMi⟩ : ∃ Mi, Mi = P + Q + L / 2 ^ 27 := ⟨_, rfl⟩
  obtain ⟨R, hR⟩ : ∃ R, R = 2 ^ 27 * (Mi % 2 ^ 27) + L % 2 ^ 27 := ⟨_, rfl⟩
  obtain ⟨K, hK⟩ : ∃ K, K = H + Mi / 2 ^ 27 := ⟨_, rfl⟩
  obtain ⟨U, hU⟩ : ∃ U, U = 2 ^ 10 * K + R / 2 ^ 44 := ⟨_, rfl⟩
  have r1 : ((j64 L).toUInt64 >>> ((i32 27).toInt64.toUInt64 &&& Int64.toUInt64 63)).toInt64 = j64 (L / 2 ^ 27) := j_shr (by decide) (by omega)
  have r2 : ((j64 Mi).toUInt64 >>> ((i32 27).toInt64.toUInt64 &&& Int64.toUInt64 63)).toInt64 = j64 (Mi / 2 ^ 27) := j_shr (by decide) (by omega)
  have r3 : j64 Mi &&& j64 (2 ^ 27 - 1) = j64 (Mi % 2 ^ 27) := j_mask (by decide) (by omega)
  have r4 : j64 L &&& j64 (2 ^ 27 - 1) = j64 (L % 2 ^ 27) := j_mask (by decide) (by omega)
  have r5 : j64 (Mi % 2 ^ 27) <<< (Int32.toInt64 (i32 27) &&& 63) = j64 (2 ^ 27 * (Mi % 2 ^ 27)) := by rw [Nat.mul_comm]; exact j_shl (by decide) (by omega)
  have r6 : j64 (2 ^ 27 * (Mi % 2 ^ 27)) ||| j64 (L % 2 ^ 27) = j64 R := by rw [hR]; exact j_or (by omega) (by omega)
  have r7 : j64 K <<< (Int32.toInt64 (i32 10) &&& 63) = j64 (2 ^ 10 * K) := by rw [Nat.mul_comm]; exact j_shl (by decide) (by omega)
  have r8 : ((j64 R).toUInt64 >>> ((i32 44).toInt64.toUInt64 &&& Int64.toUInt64 63)).toInt64 = j64 (R / 2 ^ 44) := j_shr (by decide) (by omega)
  have r9 : j64 (2 ^ 10 * K) ||| j64 (R / 2 ^ 44) = j64 U := by rw [hU]; exact j_or (by omega) (by omega)
  have rA : j64 R &&& j64 (2 ^ 44 - 1) = j64 (R % 2 ^ 44) := j_mask (by decide) (by omega)
  rw [r1, j64_add P Q, j64_add (P + Q), ← hMi, r2, r3, r4, r5, r6, j64_add H, ← hK, r7, r8, r9, rA]
  have z1 : Z / 2 ^ 44 = U := by omega
  have z2 : Z % 2 ^ 44 = R % 2 ^ 44 := by omega
  unfold stk
  rw [z1, z2]
  by_cases h : R % 2 ^ 44 = 0
  · rw [if_pos (by rw [h]; rfl), if_pos h]
  · rw [if_neg (by rw [show (0 : Int64) = j64 0 from rfl, j64_inj (by omega) (by decide)]; exact h), if_neg h, j_or1 (by omega)]
theorem prod44_of (hf : Fq f) (hp : RP f C a) {m n : Nat} (hm : m < es f) (hn : n < es f) : c_Real_product_44 a (j64 m) (j64 n) s C = some (ev f (FP.Core.round f (match (if m = (f.exps - 1) * f.tails then FP.Core.Datum.inf s else if (f.exps - 1) * f.tails < m then .nan else .fin s (mant f m) (expo f m)), (if n = (f.exps - 1) * f.tails then FP.Core.Datum.inf false else if (f.exps - 1) * f.tails < n then .nan else .fin false (mant f n) (expo f n)) with | x, y => FP.Core.exactProduct x y))) := by
  have hq := fq_n hf
  obtain ⟨k, k1, k2, k3, k4, k5, k6⟩ := fq_t hf
  obtain ⟨I, hI⟩ : ∃ I, I = (f.exps - 1) * f.tails := ⟨_, rfl⟩
  have hI0 : 0 < I := by rw [hI]; exact Nat.mul_pos (by omega) k6
  rw [← hI] at k5
  have hpi : cgJ C a 5 5 = some (j64 I) := by rw [hI]; exact hp.2.2.2.2.2.2.1
  have enan : cgJ C a 5 6 = some (ev f .nan) := by rw [ev_nan hf]; exact hp.2.2.2.2.2.2.2
  have einf : c_Real_signed a s (j64 I) C = some (ev f (.inf s)) := by rw [ev_inf hf, ← hI]; exact signed_of hf hp k5
  have hbs : (s != false) = s := by cases s <;> rfl
  have jl : ∀ {u v : Nat}, u < es f → v < es f → (j64 u ≤ j64 v ↔ u ≤ v) := fun hu hv => j64_le (by omega) (by omega)
  have jt : ∀ {u v : Nat}, u < es f → v < es f → (j64 u < j64 v ↔ u < v) := fun hu hv => j64_lt (by omega) (by omega)
  have j0 : ∀ {u : Nat}, u < es f → (j64 u = 0 ↔ u = 0) := fun hu => j64_inj (a := _) (b := 0) (by omega) (by decide)
  have p66 : ∀ d, (I < m → d = .nan) → (I < n → d = .nan) → (m ≤ I → n ≤ I → m = 0 → d = .nan) → (m ≤ I → n ≤ I → n = 0 → d = .nan) → (m ≤ I → n ≤ I → m ≠ 0 → n ≠ 0 → d = .inf s) → c_Real_product_66 a (j64 m) (j64 n) s C = some (ev f d) := by
    intro d d1 d2 d3 d4 d5
    unfold c_Real_product_66 c_Real_product_100
    rw [hpi, obd_some]
    by_cases c1 : I < m
    · rw [if_pos ((jt k5 hm).mpr c1), d1 c1, enan, obd_some]
    · rw [if_neg (fun z => c1 ((jt k5 hm).mp z)), obd_some]
      by_cases c2 : I < n
      · rw [if_pos ((jt k5 hn).mpr c2), d2 c2, enan, obd_some]
      · rw [if_neg (fun z => c2 ((jt k5 hn).mp z))]
        by_cases c3 : m = 0
        · rw [if_pos ((j0 hm).mpr c3), d3 (by omega) (by omega) c3, enan, obd_some]
        · rw [if_neg (fun z => c3 ((j0 hm).mp z))]
          by_cases c4 : n = 0
          · rw [if_pos ((j0 hn).mpr c4), d4 (by omega) (by omega) c4, enan, obd_some]
          · rw [if_neg (fun z => c4 ((j0 hn).mp z)), obd_some, cob_of (ci := 5) hp.1, jgd_true, einf, obd_some, d5 (by omega) (by omega) c3 c4]
  have mz : ∀ {u : Nat}, mant f u = 0 ↔ u = 0 := fun {u} => ⟨fun h => by
    by_cases q : u = 0
    · exact q
    · have := (mant_pos hf q).1; omega, fun h => by rw [h]; exact (mant_zero hf).1⟩
  rw [← hI]
  unfold c_Real_product_44
  rw [hpi, obd_some]
  by_cases c1 : I ≤ m
  · rw [if_pos ((jl k5 hm).mpr c1)]
    refine p66 _ (fun q => ?_) (fun q => ?_) (fun _ _ q => absurd q (by omega)) (fun _ q1 q => ?_) (fun q1 q2 _ q3 => ?_)
    · rw [if_neg (by omega), if_pos q]; rfl
    · rw [if_neg (show ¬ n = I by omega), if_pos q]
      by_cases z : m = I
      · rw [if_pos z]; rfl
      · rw [if_neg z, if_pos (by omega)]; rfl
    · rw [if_pos (show m = I by omega), if_neg (show ¬ n = I by omega), if_neg (show ¬ I < n by omega)]
      show FP.Core.round f (if mant f n = 0 then _ else _) = _
      rw [if_pos (mz.mpr q)]; rfl
    · rw [if_pos (show m = I by omega)]
      by_cases z : n = I
      · rw [if_pos z]
        show FP.Core.Datum.inf (s != false) = _
        rw [hbs]
      · rw [if_neg z, if_neg (show ¬ I < n by omega)]
        show FP.Core.round f (if mant f n = 0 then _ else FP.Core.Datum.inf (s != false)) = _
        rw [if_neg (fun w => q3 (mz.mp w)), hbs]; rfl
  · rw [if_neg (fun z => c1 ((jl k5 hm).mp z)), obd_some, if_neg (show ¬ m = I by omega), if_neg (show ¬ I < m by omega)]
    by_cases c2 : n < I
    · rw [if_pos ((jt hn k5).mpr c2), if_neg (show ¬ n = I by omega), if_neg (show ¬ I < n by omega)]
      show _ = some (ev f (FP.Core.roundRatio f (s != false) (mant f m * mant f n) 1 (expo f m + expo f n)))
      rw [hbs]
      have zer : mant f m * mant f n = 0 → c_Real_product_132 a s C = some (ev f (FP.Core.roundRatio f s (mant f m * mant f n) 1 (expo f m + expo f n))) := fun q => by
        rw [q]
        show _ = some (ev f (.fin s 0 f.qmin))
        unfold c_Real_product_132
        rw [cob_of (ci := 5) hp.1, jgd_true, show (0 : Int64) = j64 0 from rfl, signed_of hf hp (by omega), obd_some, ev_zero hf]
      by_cases c3 : m = 0
      · rw [if_pos ((j0 hm).mpr c3)]
        exact zer (by rw [mz.mpr c3, Nat.zero_mul])
      · rw [if_neg (fun z => c3 ((j0 hm).mp z))]
        by_cases c4 : n = 0
        · rw [if_pos ((j0 hn).mpr c4)]
          exact zer (by rw [mz.mpr c4, Nat.mul_zero])
        · rw [if_neg (fun z => c4 ((j0 hn).mp z))]
          obtain ⟨u1, u2⟩ := mant_pos hf c3
          obtain ⟨v1, v2⟩ := mant_pos hf c4
          obtain ⟨X, x1, x2, x3, x4⟩ := exponent_of hf hp hm
          obtain ⟨Y, y1, y2, y3, y4⟩ := exponent_of hf hp hn
          rw [cob_of (ci := 5) hp.1, jgd_true, mantissa_of hf hp hm, obd_some, jgd_true, mantissa_of hf hp hn, obd_some]
          generalize mant f m = x at *
          generalize mant f n = y at *
          obtain ⟨l, l1, l2, l3, l4⟩ := lead_of u1 (show x < 2 ^ 63 by omega)
          obtain ⟨r, r1, r2, r3, r4⟩ := lead_of v1 (show y < 2 ^ 63 by omega)
          have hsm : ∀ {z w : Nat}, z < 2 ^ 53 → 2 ^ 62 ≤ z * 2 ^ w → z * 2 ^ w < 2 ^ 63 → 10 ≤ w ∧ 2 ^ 52 ≤ z * 2 ^ (w - 10) ∧ z * 2 ^ (w - 10) < 2 ^ 53 := fun {z w} h1 h2 h3 => by
            have h10 : 10 ≤ w := by
              by_cases q : 10 ≤ w
              · exact q
              · have : 2 ^ w ≤ 2 ^ 9 := Nat.pow_le_pow_right (by decide) (by omega)
                have : z * 2 ^ w ≤ z * 2 ^ 9 := Nat.mul_le_mul_left z this
                omega
            have e : z * 2 ^ w = z * 2 ^ (w - 10) * 2 ^ 10 := by rw [Nat.mul_assoc, ← Nat.pow_add]; congr 2; omega
            rw [e] at h2 h3
            exact ⟨h10, by omega, by omega⟩
          obtain ⟨a1, a2, a3⟩ := hsm u2 l3 l4
          obtain ⟨b1, b2, b3⟩ := hsm v2 r3 r4
          have el : ∀ w : Nat, 10 ≤ w → w ≤ 62 → i32 w - (62 : Int32) + (52 : Int32) = i32 (w - 10) := fun w h1 h2 => tI_eq ((tI_add (tI_sub (i32_toInt (by omega)) (show (62 : Int32).toInt = 62 from rfl) (by omega) (by omega)) (show (52 : Int32).toInt = 52 from rfl) (by omega) (by omega)).trans (by omega)) (by omega)
          have hAB : 2 ^ 104 ≤ x * 2 ^ (l - 10) * (y * 2 ^ (r - 10)) ∧ x * 2 ^ (l - 10) * (y * 2 ^ (r - 10)) < 2 ^ 106 := ⟨Nat.le_trans (by decide : 2 ^ 104 ≤ 2 ^ 52 * 2 ^ 52) (Nat.mul_le_mul a2 b2), Nat.lt_of_lt_of_le (Nat.mul_lt_mul'' a3 b3) (by decide)⟩
          have hdiv : 2 ^ 60 ≤ x * 2 ^ (l - 10) * (y * 2 ^ (r - 10)) / 2 ^ 44 ∧ x * 2 ^ (l - 10) * (y * 2 ^ (r - 10)) / 2 ^ 44 < 2 ^ 62 := ⟨by omega, by omega⟩
          have hst : stk (x * 2 ^ (l - 10) * (y * 2 ^ (r - 10))) (2 ^ 44) < 2 ^ 63 := by unfold stk; split <;> omega
          have hst1 := stk_ge (x * 2 ^ (l - 10) * (y * 2 ^ (r - 10))) (2 ^ 44)
          show (jlet (g_Real_lead (j64 x) - 62 + 52) fun v14_5 => jlet (g_Real_lead (j64 y) - 62 + 52) fun v15_6 => jgd true _) = _
          simp only [jlet, l2, r2, el l a1 l1, el r b1 r1, jgd_true, x1, y1, obd_some]
          rw [j_shl (by omega) (by omega), j_shl (by omega) (by omega), high_of a3 b3, packed_of hf hp (by omega) hst (x := expo f m - (l - 10 : Nat) + expo f n - (r - 10 : Nat) + 44) (tI_add (tI_sub (tI_add (tI_sub x2 (i32_toInt (by omega)) (by omega) (by omega)) y2 (by omega) (by omega)) (i32_toInt (by omega)) (by omega) (by omega)) (show (44 : Int32).toInt = 44 from rfl) (by omega) (by omega)) (by omega), obd_some]
          congr 2
          have hpp : 2 ^ (f.p + 1) ≤ 2 ^ 60 := Nat.pow_le_pow_right (by decide) (by omega)
          rw [← round_stk (by decide) (by omega) (by omega)]
          refine FP.Core.roundRatio_congr (by decide) (by decide) ?_
          have e1 : x * 2 ^ (l - 10) * (y * 2 ^ (r - 10)) * 1 * 2 ^ (expo f m - ((l - 10 : Nat) : Int) + expo f n - ((r - 10 : Nat) : Int) + 44 - (expo f m + expo f n)).toNat = x * y * (2 ^ (l - 10) * 2 ^ (r - 10) * 2 ^ (expo f m - ((l - 10 : Nat) : Int) + expo f n - ((r - 10 : Nat) : Int) + 44 - (expo f m + expo f n)).toNat) := by rw [Nat.mul_one]; ac_rfl
          have e2 : x * y * 2 ^ 44 * 2 ^ (expo f m + expo f n - (expo f m - ((l - 10 : Nat) : Int) + expo f n - ((r - 10 : Nat) : Int) + 44)).toNat = x * y * (2 ^ 44 * 2 ^ (expo f m + expo f n - (expo f m - ((l - 10 : Nat) : Int) + expo f n - ((r - 10 : Nat) : Int) + 44)).toNat) := Nat.mul_assoc _ _ _
          rw [e1, e2, ← Nat.pow_add, ← Nat.pow_add, ← Nat.pow_add]
          congr 2
          omega
    · rw [if_neg (fun z => c2 ((jt hn k5).mp z))]
      refine p66 _ (fun q => absurd q (by omega)) (fun q => ?_) (fun _ q1 q => ?_) (fun _ _ q => absurd q (by omega)) (fun _ q2 q3 _ => ?_)
      · rw [if_neg (show ¬ n = I by omega), if_pos q]; rfl
      · rw [if_pos (show n = I by omega)]
        show FP.Core.round f (if mant f m = 0 then _ else _) = _
        rw [if_pos (mz.mpr q)]; rfl
      · rw [if_pos (show n = I by omega)]
        show FP.Core.round f (if mant f m = 0 then _ else FP.Core.Datum.inf (s != false)) = _
        rw [if_neg (fun w => q3 (mz.mp w)), hbs]; rfl
/-- the sign of a product -/
theorem prod_sign (x : FP.Core.Datum) (s t : Bool) (m n : Nat) (hf : Fq f) (hm : m < es f) (hn : n < es f) : FP.Core.exactProduct (FP.Core.decode f (s.toNat * es f + m)) (FP.Core.decode f (t.toNat * es f + n)) = FP.Core.exactProduct (FP.Core.decode f ((s != t).toNat * es f + m)) (FP.Core.decode f (false.toNat * es f + n)) := by
  rw [dec_sg hf hm, dec_sg hf hn, dec_sg hf hm, dec_sg hf hn]
  have hb : ((s != t) != false) = (s != t) := by cases s <;> cases t <;> rfl
  split
  · split
    · show FP.Core.Datum.inf _ = FP.Core.Datum.inf _; rw [hb]
    · split
      · rfl
      · show (if mant f n = 0 then FP.Core.Datum.nan else FP.Core.Datum.inf _) = (if mant f n = 0 then FP.Core.Datum.nan else FP.Core.Datum.inf _); rw [hb]
  · split
    · rfl
    · split
      · show (if mant f m = 0 then FP.Core.Datum.nan else FP.Core.Datum.inf _) = (if mant f m = 0 then FP.Core.Datum.nan else FP.Core.Datum.inf _); rw [hb]
      · split
        · rfl
        · show FP.Core.Datum.fin _ _ _ = FP.Core.Datum.fin _ _ _; rw [hb]
theorem product_of (hf : Fq f) (hp : RP f C a) {x y : FP.Core.Datum} (hx : FP.Core.fits f x) (hy : FP.Core.fits f y) : c_Real_product a (ev f x) (ev f y) C = some (ev f (FP.Core.round f (FP.Core.exactProduct x y))) := by
  obtain ⟨s, m, hm, e1, e2⟩ := sg_cases hf hx
  obtain ⟨t, n, hn, e3, e4⟩ := sg_cases hf hy
  have e5 : c_Real_product a (sg f s m) (sg f t n) C = c_Real_product_44 a (j64 m) (j64 n) (s != t) C := by
    unfold c_Real_product c_Real_product_25 c_Real_product_36
    rw [cob_of (ci := 5) hp.1, jgd_true, sg_size hf hp hm, obd_some, jgd_true, sg_size hf hp hn, obd_some]
    cases s with
    | false =>
      rw [if_pos ((sg_nonneg hf hm).mpr rfl)]
      cases t with
      | false => rw [if_pos ((sg_nonneg hf hn).mpr rfl)]; rfl
      | true => rw [if_neg (fun z => absurd ((sg_nonneg hf hn).mp z) (by decide))]; rfl
    | true =>
      rw [if_neg (fun z => absurd ((sg_nonneg hf hm).mp z) (by decide))]
      cases t with
      | false => rw [if_pos ((sg_nonneg hf hn).mpr rfl)]; rfl
      | true => rw [if_neg (fun z => absurd ((sg_nonneg hf hn).mp z) (by decide))]; rfl
  rw [e1, e3, e5, prod44_of hf hp hm hn, e2, e4, prod_sign x s t m n hf hm hn, dec_sg hf hm, dec_sg hf hn]
end PRODUCT
