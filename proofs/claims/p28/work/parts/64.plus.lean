/-! sums -/
section PLUS
variable {S : ST} {A : AT} {C : CT} {bx a : Nat} {f : FP.Core.Fmt} {s t : Bool}
theorem shifted_of {v k : Nat} (h0 : 0 < v) (hv : v ≤ 2 ^ 62) (hk : k < 2 ^ 31) : g_Real_shifted (j64 v) (i32 k) = j64 (stk v (2 ^ k)) := by
  unfold g_Real_shifted
  by_cases k0 : k = 0
  · subst k0
    rw [if_neg (by decide)]
    unfold stk
    rw [Nat.pow_zero, Nat.mod_one, if_pos rfl, Nat.div_one]
  · rw [if_pos (by rw [show (0 : Int32) = i32 0 from rfl, i32_lt (by decide) hk]; omega)]
    by_cases k1 : k ≤ 62
    · rw [if_pos (by rw [show (62 : Int32) = i32 62 from rfl, i32_le hk (by decide)]; exact k1)]
      have hd : v / 2 ^ k ≤ v := Nat.div_le_self _ _
      have hm := Nat.div_mul_le_self v (2 ^ k)
      have hdm := Nat.div_add_mod v (2 ^ k)
      rw [Nat.mul_comm] at hdm
      show (if (((j64 v).toUInt64 >>> ((i32 k).toInt64.toUInt64 &&& Int64.toUInt64 63)).toInt64 <<< (Int32.toInt64 (i32 k) &&& 63)) = j64 v then ((j64 v).toUInt64 >>> ((i32 k).toInt64.toUInt64 &&& Int64.toUInt64 63)).toInt64 else ((j64 v).toUInt64 >>> ((i32 k).toInt64.toUInt64 &&& Int64.toUInt64 63)).toInt64 ||| 1) = _
      rw [j_shr (by omega) (by omega), j_shl (by omega) (by omega)]
      unfold stk
      by_cases c : v % 2 ^ k = 0
      · rw [if_pos (by rw [j64_inj (by omega) (by omega)]; omega), if_pos c]
      · rw [if_neg (by rw [j64_inj (by omega) (by omega)]; omega), if_neg c, j_or1 (by omega)]
    · rw [if_neg (by rw [show (62 : Int32) = i32 62 from rfl, i32_le hk (by decide)]; exact k1)]
      have hp : 2 ^ 63 ≤ 2 ^ k := Nat.pow_le_pow_right (by decide) (by omega)
      unfold stk
      rw [Nat.mod_eq_of_lt (by omega), Nat.div_eq_of_lt (by omega), if_neg (by omega)]
      rfl
theorem stk_add {u v B : Nat} (hu : u % 2 = 0) (hB : 0 < B) : stk (u * B + v) B = u + stk v B := by
  unfold stk
  rw [Nat.add_comm (u * B), Nat.add_mul_mod_self_right, Nat.add_mul_div_right _ _ hB]
  split <;> omega
theorem stk_sub {u v B : Nat} (hu : u % 2 = 0) (hB : 0 < B) (h : v ≤ u * B) : stk v B ≤ u ∧ stk (u * B - v) B = u - stk v B := by
  have hdm := Nat.div_add_mod v B
  have hm := Nat.mod_lt v hB
  by_cases c : v % B = 0
  · have hv : v = B * (v / B) := by omega
    have hw : v / B ≤ u := Nat.div_le_of_le_mul (by rw [Nat.mul_comm]; exact h)
    have e : u * B - v = (u - v / B) * B := by rw [Nat.sub_mul, Nat.mul_comm (v / B)]; omega
    unfold stk
    rw [if_pos c, e, Nat.mul_mod_left, if_pos rfl, Nat.mul_div_cancel _ hB]
    exact ⟨hw, rfl⟩
  · have hw : v / B < u := (Nat.div_lt_iff_lt_mul hB).mpr (by
      by_cases q : v = u * B
      · rw [q, Nat.mul_mod_left] at c; exact absurd rfl c
      · omega)
    have e : u * B - v = (B - v % B) + B * (u - v / B - 1) := by
      have e1 : B * u = B * (v / B) + B * (u - v / B - 1) + B := by
        rw [← Nat.mul_add, ← Nat.mul_succ]; congr 1; omega
      rw [Nat.mul_comm u]
      omega
    unfold stk
    rw [if_neg c, e, Nat.add_mul_mod_self_left, Nat.add_mul_div_left _ _ hB, Nat.mod_eq_of_lt (show B - v % B < B by omega), Nat.div_eq_of_lt (show B - v % B < B by omega), if_neg (by omega), Nat.zero_add]
    omega
theorem expo_mono (hf : Fq f) {m n : Nat} (h : n ≤ m) : expo f n ≤ expo f m := by
  have := Nat.div_le_div_right (c := f.tails) h
  unfold expo
  split <;> split <;> omega
/-- a size that is greater is a number that is greater -/
theorem mant_le (hf : Fq f) {m n : Nat} (h : n ≤ m) : mant f n ≤ mant f m * 2 ^ (expo f m - expo f n).toNat ∧ (1 ≤ (expo f m - expo f n).toNat → f.tails ≤ mant f m) ∧ mant f n < 2 * f.tails := by
  obtain ⟨k, k1, k2, k3, k4, k5, k6⟩ := fq_t hf
  have m1 := Nat.mod_lt m k6
  have n1 := Nat.mod_lt n k6
  have m2 := Nat.div_add_mod m f.tails
  have n2 := Nat.div_add_mod n f.tails
  have d := Nat.div_le_div_right (c := f.tails) h
  have zm : m / f.tails = 0 ↔ m < f.tails := by rw [Nat.div_eq_zero_iff]; omega
  have zn : n / f.tails = 0 ↔ n < f.tails := by rw [Nat.div_eq_zero_iff]; omega
  have b : mant f n < 2 * f.tails := by unfold mant; split <;> omega
  have g : 1 ≤ (expo f m - expo f n).toNat → f.tails ≤ mant f m := fun q => by
    unfold expo at q
    unfold mant
    by_cases c : m / f.tails = 0
    · rw [if_pos c, if_pos (by omega)] at q
      omega
    · rw [if_neg (fun z => c (zm.mpr z))]; omega
  refine ⟨?_, g, b⟩
  by_cases k0 : (expo f m - expo f n).toNat = 0
  · rw [k0, Nat.pow_zero, Nat.mul_one]
    unfold expo at k0
    unfold mant
    by_cases cm : m / f.tails = 0
    · rw [if_pos (zm.mp cm), if_pos (by omega)]; exact h
    · by_cases cn : n / f.tails = 0
      · rw [if_pos (zn.mp cn), if_neg (fun z => cm (zm.mpr z))]
        have := zn.mp cn
        omega
      · rw [if_neg cm, if_neg cn] at k0
        have e : m / f.tails = n / f.tails := by omega
        rw [if_neg (fun z => cm (zm.mpr z)), if_neg (fun z => cn (zn.mpr z))]
        rw [e] at m2
        omega
  · have := g (by omega)
    have p : 2 ^ 1 ≤ 2 ^ (expo f m - expo f n).toNat := Nat.pow_le_pow_right (by decide) (by omega)
    have q : mant f m * 2 ^ 1 ≤ mant f m * 2 ^ (expo f m - expo f n).toNat := Nat.mul_le_mul_left _ p
    omega
theorem round_ex {s : Bool} {A B : Nat} {X : Int} (hB : 0 < B) (h : A % B = 0) : FP.Core.roundRatio f s A B X = FP.Core.roundRatio f s (stk A B) 1 X := by
  refine FP.Core.roundRatio_congr hB (by decide) ?_
  unfold stk
  rw [if_pos h, Int.sub_self, Nat.mul_one, Nat.div_mul_cancel (Nat.dvd_of_mod_eq_zero h)]
theorem added_of (hf : Fq f) (hp : RP f C a) {m n : Nat} (hm : m < es f) (hn : n < es f) (m0 : m ≠ 0) (n0 : n ≠ 0) (h : n ≤ m) : c_Real_added a s (j64 m) (s == t) (j64 n) C = some (ev f (FP.Core.round f (FP.Core.exactSum (.fin s (mant f m) (expo f m)) (.fin t (mant f n) (expo f n))))) := by
  have hq := fq_n hf
  have hg := fq_good hf
  obtain ⟨tk, k1, k2, k3, k4, k5, k6⟩ := fq_t hf
  obtain ⟨X, x1, x2, x3, x4⟩ := exponent_of hf hp hm
  obtain ⟨Y, y1, y2, y3, y4⟩ := exponent_of hf hp hn
  obtain ⟨u1, u2⟩ := mant_pos hf m0
  obtain ⟨v1, v2⟩ := mant_pos hf n0
  obtain ⟨w1, w2, w3⟩ := mant_le hf h
  have hmo := expo_mono hf h
  obtain ⟨k, hk⟩ : ∃ k, k = (expo f m - expo f n).toNat := ⟨_, rfl⟩
  rw [← hk] at w1 w2
  have hk' : expo f m - expo f n = k := by omega
  have hkb : k < 4000 := by omega
  have tt : 2 ^ f.p = 2 * f.tails := FP.Core.two_tails hg
  have hXY : X - Y = i32 k := tI_eq ((tI_sub x2 y2 (by omega) (by omega)).trans hk') (by omega)
  have hmin : min (expo f m) (expo f n) = expo f n := by omega
  have ex : FP.Core.exactSum (.fin s (mant f m) (expo f m)) (.fin t (mant f n) (expo f n)) = .fin (FP.Core.sumSign s t (FP.Core.signed s (mant f m * 2 ^ k) + FP.Core.signed t (mant f n))) (FP.Core.signed s (mant f m * 2 ^ k) + FP.Core.signed t (mant f n)).natAbs (expo f n) := by
    show FP.Core.Datum.fin (FP.Core.sumSign s t (FP.Core.sumUnits s (mant f m) (expo f m) t (mant f n) (expo f n) (min (expo f m) (expo f n)))) (FP.Core.sumUnits s (mant f m) (expo f m) t (mant f n) (expo f n) (min (expo f m) (expo f n))).natAbs (min (expo f m) (expo f n)) = _
    rw [hmin]
    unfold FP.Core.sumUnits FP.Core.inUnits
    rw [Int.sub_self, ← hk, show ((0 : Int)).toNat = 0 from rfl, Nat.pow_zero, Nat.mul_one]
  rw [ex]
  unfold c_Real_added
  rw [cob_of (ci := 5) hp.1]
  simp only [jgd_true, x1, y1, obd_some, mantissa_of hf hp hm, mantissa_of hf hp hn, jlet, hXY]
  rw [show (9 : Int32) = i32 9 from rfl]
  generalize mant f m = x at *
  generalize mant f n = y at *
  have hpk := Nat.two_pow_pos k
  rw [j_shl (by decide) (by omega), j_shl (by decide) (by omega), shifted_of (by omega) (by omega) (by omega)]
  have pk : ∀ {M D : Nat} {s' : Bool}, M = stk (D * 2 ^ 9) (2 ^ k) → M < 2 ^ 63 → (10 ≤ k → x * 2 ^ k ≤ D + y) → (M = 0 → D = 0 ∧ s' = false) → (M ≠ 0 → s' = s) → c_Real_added_62 a s X (j64 M) C = some (ev f (FP.Core.round f (.fin s' D (expo f n)))) := by
    intro M D s' hM hM63 hD hz hs
    unfold c_Real_added_62
    by_cases M0 : M = 0
    · obtain ⟨D0, hs'⟩ := hz M0
      rw [M0, D0, hs', if_pos (show j64 0 = 0 from rfl)]
      show _ = some (ev f (.fin false 0 f.qmin))
      rw [ev_zero hf]; rfl
    · rw [if_neg (by rw [show (0 : Int64) = j64 0 from rfl, j64_inj (by omega) (by decide)]; exact M0), cob_of (ci := 5) hp.1, jgd_true, packed_of hf hp (by omega) hM63 (x := expo f m - 9) (tI_sub x2 (show (9 : Int32).toInt = 9 from rfl) (by omega) (by omega)) (by omega), obd_some, hs M0]
      show _ = some (ev f (FP.Core.roundRatio f s D 1 (expo f n)))
      have ec : FP.Core.roundRatio f s D 1 (expo f n) = FP.Core.roundRatio f s (D * 2 ^ 9) (2 ^ k) (expo f m - 9) := FP.Core.roundRatio_congr (by decide) hpk (by
        rw [Nat.mul_one, Nat.mul_assoc, Nat.mul_assoc, ← Nat.pow_add, ← Nat.pow_add]
        congr 2
        omega)
      rw [ec, hM]
      by_cases hr : D * 2 ^ 9 % 2 ^ k = 0
      · rw [round_ex hpk hr]
      · have k10 : 10 ≤ k := by
          by_cases q : 10 ≤ k
          · exact q
          · have : D * 2 ^ 9 = D * 2 ^ (9 - k) * 2 ^ k := by rw [Nat.mul_assoc, ← Nat.pow_add]; congr 2; omega
            rw [this, Nat.mul_mod_left] at hr
            exact absurd rfl hr
        have ht := w2 (by omega)
        have hD' := hD k10
        have p10 : 2 ^ 10 ≤ 2 ^ k := Nat.pow_le_pow_right (by decide) k10
        rw [round_stk hpk ?_ (by omega)]
        rw [Nat.le_div_iff_mul_le hpk, Nat.pow_succ, tt]
        have g1 : f.tails * 2 ^ k ≤ x * 2 ^ k := Nat.mul_le_mul_right _ ht
        have g2 : f.tails * 2 ^ 10 ≤ f.tails * 2 ^ k := Nat.mul_le_mul_left _ p10
        have g3 : 2 * f.tails * 2 * 2 ^ k = 4 * (f.tails * 2 ^ k) := by
          rw [show 2 * f.tails * 2 = 4 * f.tails by omega, Nat.mul_assoc]
        omega
  by_cases hst : s = t
  · subst hst
    have e1 : (s == s) = true := by simp
    have e2 : FP.Core.signed s (x * 2 ^ k) + FP.Core.signed s y = FP.Core.signed s (x * 2 ^ k + y) := by
      unfold FP.Core.signed
      split <;> omega
    have hpos : 0 < x * 2 ^ k + y := by omega
    have e3 : FP.Core.sumSign s s (FP.Core.signed s (x * 2 ^ k + y)) = s := by
      unfold FP.Core.sumSign
      rw [if_neg (by rw [FP.Core.signed_eq_zero]; omega), FP.Core.signed_lt_zero s hpos]
    rw [e1, if_pos rfl, e2, e3, FP.Core.natAbs_signed, j64_add]
    have hs2 : stk (y * 2 ^ 9) (2 ^ k) ≤ y * 2 ^ 9 + 1 := by
      have := Nat.div_le_self (y * 2 ^ 9) (2 ^ k)
      unfold stk
      generalize y * 2 ^ 9 / 2 ^ k = dd at *
      generalize y * 2 ^ 9 % 2 ^ k = rr at *
      by_cases c : rr = 0
      · rw [if_pos c]; exact Nat.le_succ_of_le this
      · rw [if_neg c]; exact Nat.add_le_add this (Nat.sub_le 1 _)
    refine pk ?_ (by omega) (fun _ => by omega) (fun z => by omega) (fun _ => rfl)
    rw [← stk_add (by omega) hpk]
    congr 1
    rw [Nat.add_mul, Nat.mul_right_comm]
  · have e1 : (s == t) = false := by simp [hst]
    have hle : y * 2 ^ 9 ≤ x * 2 ^ 9 * 2 ^ k := by
      rw [Nat.mul_right_comm]
      exact Nat.mul_le_mul_right _ w1
    obtain ⟨z1, z2⟩ := stk_sub (u := x * 2 ^ 9) (v := y * 2 ^ 9) (B := 2 ^ k) (by omega) hpk hle
    have e2 : FP.Core.signed s (x * 2 ^ k) + FP.Core.signed t y = FP.Core.signed s (x * 2 ^ k - y) := by
      have g : ∀ z : Nat, y ≤ z → FP.Core.signed s z + FP.Core.signed t y = FP.Core.signed s (z - y) := fun z hz => by
        unfold FP.Core.signed
        cases s <;> cases t <;> first | exact absurd rfl hst | (rw [if_neg (by decide), if_pos rfl, if_neg (by decide)]; omega) | (rw [if_pos rfl, if_neg (by decide), if_pos rfl]; omega)
      exact g _ w1
    rw [e1, if_neg (by decide), e2, FP.Core.natAbs_signed, j64_sub z1]
    have eD : (x * 2 ^ k - y) * 2 ^ 9 = x * 2 ^ 9 * 2 ^ k - y * 2 ^ 9 := by
      rw [Nat.sub_mul, Nat.mul_right_comm]
    have hM : x * 2 ^ 9 - stk (y * 2 ^ 9) (2 ^ k) = stk ((x * 2 ^ k - y) * 2 ^ 9) (2 ^ k) := by rw [eD, z2]
    have hM0 : x * 2 ^ 9 - stk (y * 2 ^ 9) (2 ^ k) = 0 → x * 2 ^ k - y = 0 := fun z => by
      rw [hM] at z
      by_cases q : x * 2 ^ k - y = 0
      · exact q
      · exfalso
        unfold stk at z
        by_cases c : (x * 2 ^ k - y) * 2 ^ 9 % 2 ^ k = 0
        · rw [if_pos c] at z
          have := Nat.div_add_mod ((x * 2 ^ k - y) * 2 ^ 9) (2 ^ k)
          rw [z, c] at this
          omega
        · rw [if_neg c] at z
          omega
    refine pk hM (by omega) (fun _ => by omega) (fun z => ⟨hM0 z, ?_⟩) (fun z => ?_)
    · unfold FP.Core.sumSign
      rw [hM0 z, FP.Core.signed_zero, if_pos rfl]
      cases s <;> cases t <;> first | exact absurd rfl hst | rfl
    · have hpos : 0 < x * 2 ^ k - y := by
        by_cases q : x * 2 ^ k - y = 0
        · exfalso
          rw [q, Nat.zero_mul] at hM
          have : stk 0 (2 ^ k) = 0 := by
            unfold stk
            rw [Nat.zero_mod, if_pos rfl, Nat.zero_div]
          omega
        · omega
      unfold FP.Core.sumSign
      rw [if_neg (by rw [FP.Core.signed_eq_zero]; omega), FP.Core.signed_lt_zero s hpos]
theorem isNumber_of (hf : Fq f) (hp : RP f C a) {m : Nat} (hm : m < es f) : c_Real_isNumber a (sg f s m) C = some (decide (m ≤ (f.exps - 1) * f.tails)) := by
  have hq := fq_n hf
  obtain ⟨tk, k1, k2, k3, k4, k5, k6⟩ := fq_t hf
  have e := sg_size (s := s) hf hp hm
  unfold c_Real_sizeOf at e
  unfold c_Real_isNumber
  rw [hp.2.2.2.2.2.1, obd_some] at e ⊢
  rw [Option.some.inj e, hp.2.2.2.2.2.2.1, obd_some]
  by_cases c : m ≤ (f.exps - 1) * f.tails
  · rw [if_neg (by rw [j64_lt (by omega) (by omega)]; omega), decide_eq_true c]
  · rw [if_pos (by rw [j64_lt (by omega) (by omega)]; omega), decide_eq_false c]
theorem sg_inj (hf : Fq f) {m n : Nat} (hm : m < es f) (hn : n < es f) : sg f s m = sg f t n ↔ s = t ∧ m = n := by
  have hq := fq_n hf
  constructor
  · intro h
    have h1 := congrArg un h
    rw [sg_un hf hm, sg_un hf hn] at h1
    cases s <;> cases t <;> simp at h1 <;> first | exact ⟨rfl, h1⟩ | (exfalso; omega) | exact ⟨rfl, by omega⟩
  · rintro ⟨rfl, rfl⟩; rfl
theorem sum_zero (hf : Fq f) (s t : Bool) : FP.Core.round f (FP.Core.exactSum (.fin s 0 f.qmin) (.fin t 0 f.qmin)) = .fin (s && t) 0 f.qmin := by
  have e : FP.Core.sumUnits s 0 f.qmin t 0 f.qmin f.qmin = 0 := by
    unfold FP.Core.sumUnits FP.Core.inUnits
    rw [Nat.zero_mul, FP.Core.signed_zero, FP.Core.signed_zero]; rfl
  have hmin : min f.qmin f.qmin = f.qmin := by omega
  show FP.Core.round f (FP.Core.Datum.fin (FP.Core.sumSign s t (FP.Core.sumUnits s 0 f.qmin t 0 f.qmin (min f.qmin f.qmin))) (FP.Core.sumUnits s 0 f.qmin t 0 f.qmin (min f.qmin f.qmin)).natAbs (min f.qmin f.qmin)) = _
  rw [hmin, e]
  rfl
theorem plus_of (hf : Fq f) (hp : RP f C a) {x y : FP.Core.Datum} (hx : FP.Core.fits f x) (hy : FP.Core.fits f y) : c_Real_plus a (ev f x) (ev f y) C = some (ev f (FP.Core.round f (FP.Core.exactSum x y))) := by
  have hq := fq_n hf
  have hg := fq_good hf
  obtain ⟨tk, k1, k2, k3, k4, k5, k6⟩ := fq_t hf
  obtain ⟨s, m, hm, e1, e2⟩ := sg_cases hf hx
  obtain ⟨t, n, hn, e3, e4⟩ := sg_cases hf hy
  obtain ⟨I, hI⟩ : ∃ I, I = (f.exps - 1) * f.tails := ⟨_, rfl⟩
  have hI0 : 0 < I := by rw [hI]; exact Nat.mul_pos (by omega) k6
  rw [dec_sg hf hm, ← hI] at e2
  rw [dec_sg hf hn, ← hI] at e4
  rw [← hI] at k5
  have hpi : cgJ C a 5 5 = some (j64 I) := by rw [hI]; exact hp.2.2.2.2.2.2.1
  have enan : cgJ C a 5 6 = some (ev f .nan) := by rw [ev_nan hf]; exact hp.2.2.2.2.2.2.2
  have jl : ∀ {u v : Nat}, u < es f → v < es f → (j64 u ≤ j64 v ↔ u ≤ v) := fun hu hv => j64_le (by omega) (by omega)
  have jt : ∀ {u v : Nat}, u < es f → v < es f → (j64 u < j64 v ↔ u < v) := fun hu hv => j64_lt (by omega) (by omega)
  have j0 : ∀ {u : Nat}, u < es f → (j64 u = 0 ↔ u = 0) := fun hu => j64_inj (a := _) (b := 0) (by omega) (by decide)
  have je : ∀ {u : Nat}, u < es f → (j64 u = j64 I ↔ u = I) := fun hu => j64_inj (by omega) (by omega)
  have rx : FP.Core.round f x = x := FP.Core.round_of_fits hg hx
  have ry : FP.Core.round f y = y := FP.Core.round_of_fits hg hy
  have nn := isNumber_of (s := s) hf hp hm
  have nt := isNumber_of (s := t) hf hp hn
  rw [← hI] at nn nt
  have p34 : I ≤ m ∨ I ≤ n → c_Real_plus_34 a (sg f s m) (sg f t n) C = some (ev f (FP.Core.round f (FP.Core.exactSum x y))) := by
    intro hor
    unfold c_Real_plus_34 c_Real_withInfinity c_Real_withInfinity_16
    rw [cob_of (ci := 5) hp.1]
    simp only [jgd_true, nn, nt, obd_some, sg_size hf hp hm, sg_size hf hp hn, hpi, enan]
    by_cases c1 : I < m
    · rw [if_neg (by simp; omega), obd_some, e2, if_neg (by omega), if_pos c1]; rfl
    · rw [if_pos (by simp; omega)]
      by_cases c2 : I < n
      · rw [if_neg (by simp; omega), obd_some, e2, e4, if_neg (show ¬ n = I by omega), if_pos c2]
        by_cases z : m = I
        · rw [if_pos z]; rfl
        · rw [if_neg z, if_neg c1]; rfl
      · rw [if_pos (by simp; omega)]
        by_cases z : m = I
        · rw [if_pos ((je hm).mpr z)]
          have ex : x = .inf s := by rw [e2, if_pos z]
          by_cases w : n = I
          · rw [if_pos ((je hn).mpr w)]
            have ey : y = .inf t := by rw [e4, if_pos w]
            by_cases st : s = t
            · rw [if_pos ((sg_inj hf hm hn).mpr ⟨st, by omega⟩), obd_some, ← e1, ex, ey, st]
              show _ = some (ev f (FP.Core.round f (if t = t then _ else _)))
              rw [if_pos rfl]; rfl
            · rw [if_neg (fun q => st ((sg_inj hf hm hn).mp q).1), obd_some, ex, ey]
              show _ = some (ev f (FP.Core.round f (if s = t then _ else _)))
              rw [if_neg st]; rfl
          · rw [if_neg (fun q => w ((je hn).mp q)), obd_some, ← e1, ex]
            have ey : y = .fin t (mant f n) (expo f n) := by rw [e4, if_neg w, if_neg c2]
            rw [ey]; rfl
        · rw [if_neg (fun q => z ((je hm).mp q)), obd_some, ← e3]
          have ex : x = .fin s (mant f m) (expo f m) := by rw [e2, if_neg z, if_neg c1]
          have ey : y = .inf t := by rw [e4, if_pos (show n = I by omega)]
          rw [ex, ey]; rfl
  rw [e1, e3]
  unfold c_Real_plus
  rw [cob_of (ci := 5) hp.1, jgd_true, sg_size hf hp hm, obd_some, jgd_true, sg_size hf hp hn, obd_some, hpi, obd_some]
  by_cases c1 : I ≤ m
  · rw [if_pos ((jl k5 hm).mpr c1)]; exact p34 (Or.inl c1)
  · rw [if_neg (fun z => c1 ((jl k5 hm).mp z)), obd_some]
    by_cases c2 : n < I
    · rw [if_pos ((jt hn k5).mpr c2)]
      rw [if_neg (by omega), if_neg (by omega)] at e2 e4
      by_cases m0 : m = 0
      · rw [if_pos ((j0 hm).mpr m0)]
        have ex : x = .fin s 0 f.qmin := by rw [e2, m0, (mant_zero hf).1, (mant_zero hf).2]
        unfold c_Real_plus_55
        rw [if_pos ((j0 hm).mpr m0)]
        by_cases n0 : n = 0
        · rw [if_pos ((j0 hn).mpr n0)]
          have ey : y = .fin t 0 f.qmin := by rw [e4, n0, (mant_zero hf).1, (mant_zero hf).2]
          rw [ex, ey, sum_zero hf, ev_zero hf, m0, n0]
          rcases hf with rfl | rfl <;> cases s <;> cases t <;> decide
        · rw [if_neg (fun z => n0 ((j0 hn).mp z)), ex, FP.Core.exactSum_comm, FP.Core.round_sum_zero hg hy s (fun s' q z => by
            rw [e4] at z
            have h1 := (mant_pos hf n0).1
            have h2 : mant f n = 0 := by injection z
            omega), e3]
      · rw [if_neg (fun z => m0 ((j0 hm).mp z))]
        by_cases n0 : n = 0
        · rw [if_pos ((j0 hn).mpr n0)]
          have ey : y = .fin t 0 f.qmin := by rw [e4, n0, (mant_zero hf).1, (mant_zero hf).2]
          unfold c_Real_plus_55
          rw [if_neg (fun z => m0 ((j0 hm).mp z)), ey, FP.Core.round_sum_zero hg hx t (fun s' q z => by
            rw [e2] at z
            have h1 := (mant_pos hf m0).1
            have h2 : mant f m = 0 := by injection z
            omega), e1]
        · rw [if_neg (fun z => n0 ((j0 hn).mp z))]
          have bt : ∀ {u : Bool} {v : Nat}, v < es f → u = true → ¬ (0 : Int64) ≤ sg f u v := fun hv hu z => by rw [(sg_nonneg hf hv).mp z] at hu; exact absurd hu (by decide)
          by_cases c3 : m < n
          · rw [if_pos ((jt hm hn).mpr c3)]
            have ad := added_of (s := t) (t := s) hf hp hn hm n0 m0 (Nat.le_of_lt c3)
            rw [← e2, ← e4, FP.Core.exactSum_comm] at ad
            unfold c_Real_plus_153 c_Real_plus_166 c_Real_plus_177 c_Real_plus_185
            rw [cob_of (ci := 5) hp.1]
            cases ht : t with
            | false =>
              rw [ht] at ad
              rw [if_pos ((sg_nonneg hf hn).mpr rfl)]
              cases hs : s with
              | false => rw [hs] at ad; rw [if_pos ((sg_nonneg hf hm).mpr rfl), if_pos ((sg_nonneg hf hn).mpr rfl), if_pos rfl, jgd_true, show c_Real_added a false (j64 n) true (j64 m) C = _ from ad]; rfl
              | true => rw [hs] at ad; rw [if_neg (bt hm rfl), if_pos ((sg_nonneg hf hn).mpr rfl), if_neg (by decide), jgd_true, show c_Real_added a false (j64 n) false (j64 m) C = _ from ad]; rfl
            | true =>
              rw [ht] at ad
              rw [if_neg (bt hn rfl)]
              cases hs : s with
              | false => rw [hs] at ad; rw [if_pos ((sg_nonneg hf hm).mpr rfl), if_neg (bt hn rfl), if_neg (by decide), jgd_true, show c_Real_added a true (j64 n) false (j64 m) C = _ from ad]; rfl
              | true => rw [hs] at ad; rw [if_neg (bt hm rfl), if_neg (bt hn rfl), if_pos rfl, jgd_true, show (c_Real_added a true (j64 n) true (j64 m) C) = c_Real_added a true (j64 n) (true == true) (j64 m) C from rfl, ad]; rfl
          · rw [if_neg (fun z => c3 ((jt hm hn).mp z))]
            have ad := added_of (s := s) (t := t) hf hp hm hn m0 n0 (by omega)
            rw [← e2, ← e4] at ad
            unfold c_Real_plus_101 c_Real_plus_114 c_Real_plus_125 c_Real_plus_133
            rw [cob_of (ci := 5) hp.1]
            cases hs : s with
            | false =>
              rw [hs] at ad
              rw [if_pos ((sg_nonneg hf hm).mpr rfl)]
              cases ht : t with
              | false => rw [ht] at ad; rw [if_pos ((sg_nonneg hf hm).mpr rfl), if_pos ((sg_nonneg hf hn).mpr rfl), if_pos rfl, jgd_true, show (c_Real_added a false (j64 m) true (j64 n) C) = c_Real_added a false (j64 m) (false == false) (j64 n) C from rfl, ad]; rfl
              | true => rw [ht] at ad; rw [if_pos ((sg_nonneg hf hm).mpr rfl), if_neg (bt hn rfl), if_neg (by decide), jgd_true, show (c_Real_added a false (j64 m) false (j64 n) C) = c_Real_added a false (j64 m) (false == true) (j64 n) C from rfl, ad]; rfl
            | true =>
              rw [hs] at ad
              rw [if_neg (bt hm rfl)]
              cases ht : t with
              | false => rw [ht] at ad; rw [if_neg (bt hm rfl), if_pos ((sg_nonneg hf hn).mpr rfl), if_neg (by decide), jgd_true, show (c_Real_added a true (j64 m) false (j64 n) C) = c_Real_added a true (j64 m) (true == false) (j64 n) C from rfl, ad]; rfl
              | true => rw [ht] at ad; rw [if_neg (bt hm rfl), if_neg (bt hn rfl), if_pos rfl, jgd_true, show (c_Real_added a true (j64 m) true (j64 n) C) = c_Real_added a true (j64 m) (true == true) (j64 n) C from rfl, ad]; rfl
    · rw [if_neg (fun z => c2 ((jt hn k5).mp z))]; exact p34 (Or.inr (by omega))
theorem negative_of (hf : Fq f) (hp : RP f C a) {x : FP.Core.Datum} (hx : FP.Core.fits f x) : c_Real_negative a (ev f x) C = some (ev f (FP.Core.negate x)) := by
  have hq := fq_n hf
  obtain ⟨tk, k1, k2, k3, k4, k5, k6⟩ := fq_t hf
  obtain ⟨s, m, hm, e1, e2⟩ := sg_cases hf hx
  have enan : cgJ C a 5 6 = some (ev f .nan) := by rw [ev_nan hf]; exact hp.2.2.2.2.2.2.2
  unfold c_Real_negative
  rw [e1, cob_of (ci := 5) hp.1, jgd_true, isNumber_of hf hp hm, obd_some]
  by_cases c : m ≤ (f.exps - 1) * f.tails
  · rw [if_pos (decide_eq_true c), hp.2.2.2.2.2.1, obd_some]
    have hx : sg f s m ^^^ j64 (2 ^ 64 - es f) = sg f (!s) m := by
      obtain ⟨k, hk, h1, h2⟩ := fq_es hf
      apply un_inj
      rw [un_xor, sg_un hf hm, sg_un hf hm, un_j' (by omega), h2]
      have z0 : m / 2 ^ k = 0 := Nat.div_eq_of_lt (by omega)
      have zk := Nat.two_pow_pos k
      have z1 : m % 2 ^ k = m := Nat.mod_eq_of_lt (by omega)
      cases s with
      | false =>
        rw [if_neg (by decide), if_pos (by rfl)]
        refine (Nat.div_add_mod _ (2 ^ k)).symm.trans ?_
        rw [Nat.xor_div_two_pow, Nat.xor_mod_two_pow, z0, z1, Nat.mul_div_cancel_left _ zk, Nat.mul_mod_right, Nat.zero_xor, Nat.xor_zero]
      | true =>
        rw [if_pos rfl, if_neg (by decide)]
        refine (Nat.div_add_mod _ (2 ^ k)).symm.trans ?_
        rw [Nat.xor_div_two_pow, Nat.xor_mod_two_pow, Nat.mul_add_div zk, z0, Nat.mul_add_mod, z1, Nat.mul_div_cancel_left _ zk, Nat.mul_mod_right, Nat.add_zero, Nat.xor_self, Nat.xor_zero, Nat.mul_zero, Nat.zero_add]
    rw [hx]
    congr 1
    refine (ev_sg hf ?_ hm).symm
    have hd : FP.Core.decode f ((!s).toNat * es f + m) = FP.Core.negate x := by
      rw [e2, dec_sg hf hm, dec_sg hf hm]
      by_cases q : m = (f.exps - 1) * f.tails
      · rw [if_pos q, if_pos q]; rfl
      · rw [if_neg q, if_neg q, if_neg (by omega), if_neg (by omega)]; rfl
    have hn : FP.Core.decode f ((!s).toNat * es f + m) ≠ .nan := by
      rw [dec_sg hf hm]
      by_cases q : m = (f.exps - 1) * f.tails
      · rw [if_pos q]; exact fun z => by cases z
      · rw [if_neg q, if_neg (by omega)]; exact fun z => by cases z
    rw [← hd, FP.Core.encode_decode (fq_good hf) _ ?_ hn]
    · unfold es; rw [Nat.mul_assoc]
    · rw [Nat.mul_assoc]
      have : (!s).toNat ≤ 1 := by cases s <;> decide
      have : (!s).toNat * es f ≤ 1 * es f := Nat.mul_le_mul_right _ this
      show _ < 2 * es f
      omega
  · rw [if_neg (by rw [decide_eq_false c]; decide), enan, obd_some, e2, dec_sg hf hm, if_neg (by omega), if_pos (by omega)]
    rfl
end PLUS
