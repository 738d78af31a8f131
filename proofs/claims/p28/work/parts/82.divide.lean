/-! the class's Real divides, takes over -/
section DIVIDE
variable {C : CT} {a b : Nat} {f g : FP.Core.Fmt}
theorem j64_quo {x y : Nat} (hx : x < 2 ^ 63) (hy : y < 2 ^ 63) (h0 : y ≠ 0) : j64 x / j64 y = j64 (x / y) := by
  have hle := Nat.div_le_self x y
  have hn : j64 y ≠ -1 := fun z => by
    have a := congrArg Int64.toInt z
    rw [j64_toInt hy] at a
    have b : (-1 : Int64).toInt = -1 := rfl
    omega
  apply Int64.toInt_inj.mp
  rw [Int64.toInt_div_of_ne_right _ _ hn, j64_toInt hx, j64_toInt hy, j64_toInt (by omega)]
  rw [Int.tdiv_eq_ediv_of_nonneg (by omega)]
  rfl
theorem jdiv_j {x y : Nat} (hx : x < 2 ^ 63) (hy : y < 2 ^ 63) (h0 : y ≠ 0) : jdivL (j64 x) (j64 y) = some (j64 (x / y)) := by
  unfold jdivL
  rw [if_neg (show ¬ j64 y = (0 : Int64) from fun z => h0 ((j64_inj (a := y) (b := 0) (by omega) (by decide)).mp z)), j64_quo hx hy h0]
theorem jrem_j {x y : Nat} (hx : x < 2 ^ 63) (hy : y < 2 ^ 63) (h0 : y ≠ 0) : jremL (j64 x) (j64 y) = some (j64 (x % y)) := by
  unfold jremL
  have h1 : x / y * y ≤ x := Nat.div_mul_le_self x y
  have h2 := Nat.div_add_mod x y
  rw [if_neg (show ¬ j64 y = (0 : Int64) from fun z => h0 ((j64_inj (a := y) (b := 0) (by omega) (by decide)).mp z)), j64_quo hx hy h0, j64_mul, j64_sub h1]
  congr 2
  rw [Nat.mul_comm] at h2
  omega
/-- a value of another sort taken over -/
theorem taken_of (hf : Fq f) (hg : Fq g) (hp : RP f C a) (hq : RP g C b) {d : FP.Core.Datum} (hd : FP.Core.fits g d) : c_Real_taken a (some b) (ev g d) C = some (ev f (FP.Core.round f d)) := by
  obtain ⟨s, m, hm, he, hdec⟩ := sg_cases hg hd
  have hn := fq_n hg
  have tf := fq_n hf
  obtain ⟨k, k1, k2, k3, k4, k5, k6⟩ := fq_t hg
  obtain ⟨j, j1, j2, j3, j4, j5, j6⟩ := fq_t hf
  have hta : cob C a 5 = true := cob_of (ci := 5) hp.1
  have htb : cob C b 5 = true := cob_of (ci := 5) hq.1
  have iI : cgJ C b 5 5 = some (j64 ((g.exps - 1) * g.tails)) := hq.2.2.2.2.2.2.1
  have iF : cgJ C a 5 5 = some (j64 ((f.exps - 1) * f.tails)) := hp.2.2.2.2.2.2.1
  have iN : cgJ C a 5 6 = some (j64 (FP.Core.encode f .nan)) := hp.2.2.2.2.2.2.2
  have dg := dec_sg (s := s) hg hm
  rw [← hdec] at dg
  have hnn := sg_nonneg (s := s) hg hm
  unfold c_Real_taken
  rw [he, obd_some, htb, jgd_true, sg_size hg hq hm, obd_some, iI, obd_some]
  have hI : (g.exps - 1) * g.tails < 2 ^ 63 := by omega
  have t66 : ∀ {n : Nat}, n < es f → c_Real_taken_66 (j64 n) s a C = some (sg f s n) := fun {n} h => by
    unfold c_Real_taken_66
    rw [hta, jgd_true, signed_of hf hp h, obd_some]
  have t39 : (m = 0 ∨ m = (g.exps - 1) * g.tails) → c_Real_taken_39 a (sg g s m) (j64 m) C = some (if m = 0 then sg f s 0 else sg f s ((f.exps - 1) * f.tails)) := by
    intro hz
    have t51 : c_Real_taken_51 a (j64 m) s a C = some (if m = 0 then sg f s 0 else sg f s ((f.exps - 1) * f.tails)) := by
      unfold c_Real_taken_51
      by_cases h0 : m = 0
      · rw [if_pos (show j64 m = (0 : Int64) by rw [h0]; rfl), if_pos h0]
        exact t66 (n := 0) (by omega)
      · rw [if_neg (show ¬ j64 m = (0 : Int64) from fun z => h0 ((j64_inj (a := m) (b := 0) (by omega) (by decide)).mp z)), if_neg h0, iF, obd_some]
        exact t66 j5
    unfold c_Real_taken_39
    cases s with
    | false => rw [if_pos (hnn.mpr rfl)]; exact t51
    | true => rw [if_neg (fun z => by have := hnn.mp z; cases this)]; exact t51
  by_cases hle : m ≤ (g.exps - 1) * g.tails
  · rw [if_pos ((j64_le (by omega) hI).mpr hle)]
    by_cases h0 : m = 0
    · have e : d = .fin s 0 g.qmin := by
        rw [dg, if_neg, if_neg (by omega), h0, (mant_zero hg).1, (mant_zero hg).2]
        have : 1 ≤ g.exps - 1 := by omega
        have := Nat.mul_pos this k6
        omega
      rw [if_pos (show j64 m = (0 : Int64) by rw [h0]; rfl), t39 (Or.inl h0), if_pos h0, ← ev_zero hf, e]
      congr 2
    · rw [if_neg (show ¬ j64 m = (0 : Int64) from fun z => h0 ((j64_inj (a := m) (b := 0) (by omega) (by decide)).mp z)), obd_some]
      by_cases hi : m = (g.exps - 1) * g.tails
      · rw [if_pos (show j64 m = j64 ((g.exps - 1) * g.tails) by rw [← hi]), t39 (Or.inr hi), if_neg h0, ← ev_inf hf, dg, if_pos hi]
        rfl
      · rw [if_neg (show ¬ j64 m = j64 ((g.exps - 1) * g.tails) from fun z => hi ((j64_inj (by omega) (by omega)).mp z))]
        obtain ⟨X, x1, x2, x3, x4⟩ := exponent_of hg hq hm
        obtain ⟨p1, p2⟩ := mant_pos hg h0
        have t82 : c_Real_taken_82 b (j64 m) s a C = some (ev f (FP.Core.round f d)) := by
          unfold c_Real_taken_82
          rw [htb, jgd_true, x1, obd_some, jgd_true, mantissa_of hg hq hm, obd_some, hta, jgd_true, packed_of hf hp p1 (by omega) x2 (by omega), obd_some, dg, if_neg hi, if_neg (by omega)]
          rfl
        cases s with
        | false => rw [if_pos (hnn.mpr rfl)]; exact t82
        | true => rw [if_neg (fun z => by have := hnn.mp z; cases this)]; exact t82
  · rw [if_neg (fun z => hle ((j64_le (by omega) hI).mp z)), iN, obd_some, dg, if_neg (by omega), if_pos (by omega)]
    show _ = some (ev f .nan)
    rw [ev_nan hf]
theorem pow_max (k1 k2 : Nat) : 2 ^ k2 * 2 ^ ((k1 : Int) - k2).toNat = 2 ^ k1 * 2 ^ ((k2 : Int) - k1).toNat := by
  rw [← Nat.pow_add, ← Nat.pow_add]
  congr 1
  omega
/-- the quotient of two whole numbers -/
theorem divided26 (hp : RP FP.Core.b64 C a) {M M' : Nat} {v1 v2 : Int32} {s : Bool} (h1 : g_JMath_abs (Int32.toInt64 v1) = j64 M) (h2 : g_JMath_abs (Int32.toInt64 v2) = j64 M') (hM : M ≤ 2 ^ 31) (hM' : M' ≤ 2 ^ 31) (h0 : 1 ≤ M') :
    c_Real_divided_26 a v1 v2 s C = some (ev FP.Core.b64 (FP.Core.roundRatio FP.Core.b64 s M M' 0)) := by
  have hf : Fq FP.Core.b64 := Or.inl rfl
  have ht : cob C a 5 = true := cob_of (ci := 5) hp.1
  obtain ⟨l', b1, b2, b3, b4⟩ := lead_of h0 (show M' < 2 ^ 63 by omega)
  have b5 : 31 ≤ l' := by
    apply Classical.byContradiction
    intro z
    have : 2 ^ l' ≤ 2 ^ 30 := Nat.pow_le_pow_right (by decide) (by omega)
    have : M' * 2 ^ l' ≤ 2 ^ 31 * 2 ^ 30 := Nat.mul_le_mul hM' this
    have : (2 : Nat) ^ 31 * 2 ^ 30 < 2 ^ 62 := by decide
    omega
  obtain ⟨k2, hk2⟩ : ∃ k2, l' = k2 + 31 := ⟨l' - 31, by omega⟩
  subst hk2
  have e31 : i32 (k2 + 31) - (31 : Int32) = i32 k2 := (i32_sub (a := k2 + 31) (b := 31) (by omega)).trans (by rw [Nat.add_sub_cancel])
  obtain ⟨D, hD⟩ : ∃ D, D = M' * 2 ^ k2 := ⟨_, rfl⟩
  rw [Nat.pow_add, ← Nat.mul_assoc, ← hD] at b3 b4
  have d1 : 2 ^ 31 ≤ D := by omega
  have d2 : D < 2 ^ 32 := by omega
  have eD : j64 M' <<< (Int32.toInt64 (i32 k2) &&& 63) = j64 D := by rw [hD]; exact j_shl (by omega) (by rw [← hD]; omega)
  have nD : ¬ j64 D = (0 : Int64) := fun z => by
    have := (j64_inj (a := D) (b := 0) (by omega) (by decide)).mp z
    omega
  unfold c_Real_divided_26
  rw [h1, h2, b2, e31, jlet_eq, jlet_eq, jlet_eq, eD]
  by_cases hz : M = 0
  · rw [if_pos (show j64 M = (0 : Int64) by rw [hz]; rfl)]
    unfold c_Real_divided_78
    have e0 : c_Real_signed a s (0 : Int64) C = some (sg FP.Core.b64 s 0) := signed_of hf hp (m := 0) (by decide)
    rw [ht, jgd_true, e0, obd_some, ← ev_zero hf, hz]
    congr 2
  · rw [if_neg (show ¬ j64 M = (0 : Int64) from fun z => hz ((j64_inj (a := M) (b := 0) (by omega) (by decide)).mp z)), if_neg nD]
    obtain ⟨l, a1, a2, a3, a4⟩ := lead_of (show 1 ≤ M by omega) (show M < 2 ^ 63 by omega)
    obtain ⟨A, hA⟩ : ∃ A, A = M * 2 ^ l := ⟨_, rfl⟩
    rw [← hA] at a3 a4
    have eA : j64 M <<< (Int32.toInt64 (i32 l) &&& 63) = j64 A := by rw [hA]; exact j_shl (by omega) (by rw [← hA]; omega)
    have r1' := Nat.mod_lt A (show 0 < D by omega)
    have am' := Nat.div_add_mod A D
    have q1' : A / D < 2 ^ 32 := (Nat.div_lt_iff_lt_mul (by omega)).mpr (by omega)
    have q0' : 2 ^ 30 ≤ A / D := (Nat.le_div_iff_mul_le (by omega)).mpr (by omega)
    have jq := jdiv_j (x := A) (y := D) (by omega) (by omega) (by omega)
    have jr := jrem_j (x := A) (y := D) (by omega) (by omega) (by omega)
    obtain ⟨r, hr⟩ : ∃ r, r = A % D := ⟨_, rfl⟩
    obtain ⟨q, hq⟩ : ∃ q, q = A / D := ⟨_, rfl⟩
    rw [← hr] at r1' am' jr
    rw [← hq] at am' q1' q0' jq
    obtain ⟨W, hW⟩ : ∃ W, W = r * 2 ^ 30 := ⟨_, rfl⟩
    have w1 : W < 2 ^ 62 := by omega
    have jW := jdiv_j (x := W) (y := D) (by omega) (by omega) (by omega)
    have jZ := jrem_j (x := W) (y := D) (by omega) (by omega) (by omega)
    have z1 := Nat.mod_lt W (show 0 < D by omega)
    have u1 : W / D < 2 ^ 30 := (Nat.div_lt_iff_lt_mul (by omega)).mpr (by omega)
    have e12 : j64 r <<< (Int32.toInt64 (i32 30) &&& 63) = j64 W := by rw [hW]; exact j_shl (n := 30) (by decide) (by rw [← hW]; omega)
    obtain ⟨K, hK⟩ : ∃ K, K = q * 2 ^ 30 := ⟨_, rfl⟩
    have e4 : j64 q <<< (Int32.toInt64 (i32 30) &&& 63) = j64 (2 ^ 30 * q) := by
      rw [Nat.mul_comm]
      exact j_shl (n := 30) (by decide) (by rw [← hK]; omega)
    -- the long quotient
    have eA2 : A * 2 ^ 30 = W + D * (2 ^ 30 * q) := by
      calc A * 2 ^ 30 = (D * q + r) * 2 ^ 30 := by rw [am']
        _ = D * q * 2 ^ 30 + r * 2 ^ 30 := Nat.add_mul _ _ _
        _ = W + D * (2 ^ 30 * q) := by rw [Nat.add_comm, Nat.mul_assoc, Nat.mul_comm q, ← hW]
    have lq : A * 2 ^ 30 / D = 2 ^ 30 * q + W / D := by rw [eA2, Nat.add_mul_div_left _ _ (by omega), Nat.add_comm]
    have lr : A * 2 ^ 30 % D = W % D := by rw [eA2, Nat.add_mul_mod_self_left]
    obtain ⟨u, hu⟩ : ∃ u, u = W / D := ⟨_, rfl⟩
    obtain ⟨z, hzz⟩ : ∃ z, z = W % D := ⟨_, rfl⟩
    rw [← hu] at lq u1 jW
    rw [← hzz] at lr z1 jZ
    have e14 : j64 (2 ^ 30 * q) ||| j64 u = j64 (2 ^ 30 * q + u) := j_or u1 (by omega)
    obtain ⟨Q, hQ⟩ : ∃ Q, Q = A * 2 ^ 30 / D := ⟨_, rfl⟩
    have Q0 : Q = 2 ^ 30 * q + u := hQ.trans lq
    have Q1 : 2 ^ 60 ≤ Q := by omega
    have Q2 : Q < 2 ^ 62 := by omega
    have hX : ((i32 k2 - i32 l) - (30 : Int32)).toInt = (k2 : Int) - l - 30 :=
      tI_sub (tI_sub (i32_toInt (by omega)) (i32_toInt (by omega)) (by omega) (by omega)) rfl (by omega) (by omega)
    have hrr : FP.Core.roundRatio FP.Core.b64 s (stk (A * 2 ^ 30) D) 1 ((k2 : Int) - l - 30) = FP.Core.roundRatio FP.Core.b64 s M M' 0 := by
      rw [← round_stk (by omega) (by rw [← hQ]; exact Nat.le_trans (by decide) Q1) (by decide)]
      refine FP.Core.roundRatio_congr (by omega) (by omega) ?_
      have e := pow_max (l + 30) k2
      rw [show ((k2 : Int) - l - 30 - 0).toNat = ((k2 : Int) - (l + 30 : Nat)).toNat by omega, show ((0 : Int) - ((k2 : Int) - l - 30)).toNat = (((l + 30 : Nat) : Int) - k2).toNat by omega, hA, hD]
      generalize 2 ^ ((k2 : Int) - (l + 30 : Nat)).toNat = P at *
      generalize 2 ^ (((l + 30 : Nat) : Int) - k2).toNat = R at *
      calc M * 2 ^ l * 2 ^ 30 * M' * P = (M * M') * (2 ^ (l + 30) * P) := by rw [Nat.pow_add]; ac_rfl
        _ = (M * M') * (2 ^ k2 * R) := by rw [e]
        _ = M * (M' * 2 ^ k2) * R := by ac_rfl
    have e30 : (30 : Int32) = i32 30 := rfl
    have es : stk (A * 2 ^ 30) D = if z = 0 then Q else Q + (1 - Q % 2) := by
      unfold stk
      rw [lr, ← hQ]
    generalize stk (A * 2 ^ 30) D = st at *
    have t150 : ∀ w : Int64, w = j64 st → c_Real_divided_150 w ((i32 k2 - i32 l) - (30 : Int32)) s a C = some (ev FP.Core.b64 (FP.Core.roundRatio FP.Core.b64 s M M' 0)) := by
      intro w hw
      have s1 : Q ≤ st ∧ st ≤ Q + 1 := by
        rw [es]
        split <;> omega
      unfold c_Real_divided_150
      rw [ht, jgd_true, hw, packed_of hf hp (by omega) (by omega) hX (by omega), obd_some, hrr]
    rw [a2, eA, jq, obd_some, jr, obd_some, jlet_eq, e30, e12, jW, obd_some, jlet_eq, e4, e14, jZ, obd_some, ← Q0, ← e30]
    by_cases hr0 : z = 0
    · rw [if_pos (show j64 z = (0 : Int64) by rw [hr0]; rfl)]
      refine t150 _ ?_
      rw [es, if_pos hr0]
    · rw [if_neg (show ¬ j64 z = (0 : Int64) from fun y => hr0 ((j64_inj (a := z) (b := 0) (by omega) (by decide)).mp y))]
      refine t150 _ ?_
      rw [es, if_neg hr0]
      exact j_or1 (by omega)
end DIVIDE
