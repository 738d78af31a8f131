/-! numbers of one sort as numbers of another -/
section TRANS
variable {so st : Nat} {pl : Bool} {d : FP.Core.Datum} {C : CT} {a : Nat} {W F : Int} {P u : Nat}
def zo (pl : Bool) : Int := if pl = true then 0 else 14
/-- the short nearest to a number, or what is none -/
def nrD (pl : Bool) : FP.Core.Datum → Int64
  | .fin s c q => if q + zo pl < 0 then (if s = true then -(j64 (FP.Core.nearest c (2 ^ (-(q + zo pl)).toNat))) else j64 (FP.Core.nearest c (2 ^ (-(q + zo pl)).toNat))) else 1099511627776
  | _ => 1099511627776
theorem near_le (c B : Nat) : FP.Core.nearest c B ≤ c / B + 1 := by
  unfold FP.Core.nearest
  split
  · omega
  · split
    · omega
    · have := Nat.mod_lt (c / B) (show 0 < 2 by decide); omega
theorem zo_i32 : (if pl = true then (0 : Int32) else 14).toInt = zo pl := by cases pl <;> rfl
theorem near_of (hp : RP FP.Core.b64 C a) (hd : FP.Core.fits FP.Core.b64 d) : c_Shorts_nearest_e (ev FP.Core.b64 d) pl (some a) C = some (nrD pl d) := by
  have hf : Fq FP.Core.b64 := Or.inl rfl
  have ht : cob C a 5 = true := cob_of (ci := 5) hp.1
  obtain ⟨s, m, hm, e1, e2⟩ := sg_cases hf hd
  have hsz : c_Real_sizeOf a (ev FP.Core.b64 d) C = some (j64 m) := by rw [e1]; exact sg_size hf hp hm
  obtain ⟨X, x1, x2, x3, x4⟩ := exponent_of hf hp hm
  have hfin := finite_of hf hp hd
  have pre : c_Shorts_nearest_e (ev FP.Core.b64 d) pl (some a) C = c_Shorts_nearest_25 (ev FP.Core.b64 d) a (j64 m) (if pl = true then (0 : Int32) else 14) X C := by
    unfold c_Shorts_nearest_e
    rw [obd_some, ht, jgd_true, hsz, obd_some, jgd_true, x1, obd_some]
    cases pl <;> rfl
  rw [pre]
  unfold c_Shorts_nearest_25
  rw [ht, jgd_true, hfin, obd_some]
  by_cases h : isFin d = true
  · rw [if_pos h]
    have ed : d = .fin s (mant FP.Core.b64 m) (expo FP.Core.b64 m) := by
      rw [dec_sg hf hm] at e2
      by_cases g1 : m = (FP.Core.b64.exps - 1) * FP.Core.b64.tails
      · rw [if_pos g1] at e2; rw [e2] at h; cases h
      · rw [if_neg g1] at e2
        by_cases g2 : (FP.Core.b64.exps - 1) * FP.Core.b64.tails < m
        · rw [if_pos g2] at e2; rw [e2] at h; cases h
        · rw [if_neg g2] at e2; exact e2
    have hc : mant FP.Core.b64 m < 2 ^ 53 := by rw [ed] at hd; exact hd.1
    have ez := zo_i32 (pl := pl)
    have hz : zo pl = 0 ∨ zo pl = 14 := by cases pl; exact Or.inr rfl; exact Or.inl rfl
    have es : (X + (if pl = true then (0 : Int32) else 14)).toInt = expo FP.Core.b64 m + zo pl := tI_add x2 ez (by omega) (by omega)
    have en : nrD pl d = if expo FP.Core.b64 m + zo pl < 0 then (if s = true then -(j64 (FP.Core.nearest (mant FP.Core.b64 m) (2 ^ (-(expo FP.Core.b64 m + zo pl)).toNat))) else j64 (FP.Core.nearest (mant FP.Core.b64 m) (2 ^ (-(expo FP.Core.b64 m + zo pl)).toNat))) else 1099511627776 := by rw [ed]; rfl
    rw [en]
    generalize (X + (if pl = true then (0 : Int32) else 14)) = Y at *
    by_cases hn : expo FP.Core.b64 m + zo pl < 0
    · have eneg : -Y = i32 (-(expo FP.Core.b64 m + zo pl)).toNat := by
        apply Int32.toInt_inj.mp
        rw [i32_toInt (by omega), Int32.toInt_neg, es, Int.bmod_eq_of_le (by omega) (by omega)]
        omega
      rw [if_pos (by rw [Int32.lt_iff_toInt_lt, es]; exact hn), if_pos hn, jgd_true, mantissa_of hf hp hm, obd_some, jlet_eq, eneg, half_of (by omega) (by omega) (by omega)]
      cases s with
      | false =>
        rw [if_pos (by rw [e1]; exact (sg_nonneg hf hm).mpr rfl), if_neg (by decide)]
      | true =>
        rw [if_neg (fun z => by rw [e1] at z; have := (sg_nonneg hf hm).mp z; cases this), if_pos rfl]
    · rw [if_neg (fun z => hn (by rw [Int32.lt_iff_toInt_lt, es] at z; exact z)), if_neg hn]
  · have en : nrD pl d = 1099511627776 := by
      cases d with
      | fin s c q => exact absurd rfl h
      | nan => rfl
      | inf s => rfl
    rw [if_neg h, en]
/-- the nearest whole number, by what is left above the whole part -/
theorem rnd_near {s : Bool} {c k j : Nat} (hP : P = 2 ^ k * 2 ^ j) (hW : W = FP.Core.signed s (c * 2 ^ j)) : ∃ F : Int, F * (P : Int) ≤ W ∧ W < F * (P : Int) + P ∧ rnd F W P = FP.Core.signed s (FP.Core.nearest c (2 ^ k)) := by
  have hk := Nat.two_pow_pos k
  have hj := Nat.two_pow_pos j
  have hd := Nat.div_add_mod c (2 ^ k)
  have hm := Nat.mod_lt c hk
  have hc : c * 2 ^ j = (c / 2 ^ k) * P + (c % 2 ^ k) * 2 ^ j := by
    rw [hP, ← Nat.mul_assoc, ← Nat.add_mul, Nat.mul_comm (c / 2 ^ k), hd]
  have c1 : P < 2 * ((c % 2 ^ k) * 2 ^ j) ↔ 2 ^ k < 2 * (c % 2 ^ k) := by
    rw [hP, ← Nat.mul_assoc]
    exact ⟨fun h => Nat.lt_of_mul_lt_mul_right h, fun h => Nat.mul_lt_mul_of_pos_right h hj⟩
  have c2 : 2 * ((c % 2 ^ k) * 2 ^ j) < P ↔ 2 * (c % 2 ^ k) < 2 ^ k := by
    rw [hP, ← Nat.mul_assoc]
    exact ⟨fun h => Nat.lt_of_mul_lt_mul_right h, fun h => Nat.mul_lt_mul_of_pos_right h hj⟩
  have c3 : (c % 2 ^ k) * 2 ^ j < P := by rw [hP]; exact Nat.mul_lt_mul_of_pos_right hm hj
  have c4 : (c % 2 ^ k) * 2 ^ j = 0 ↔ c % 2 ^ k = 0 := ⟨fun h => by rcases Nat.mul_eq_zero.mp h with h | h; exact h; omega, fun h => by rw [h, Nat.zero_mul]⟩
  have hPp : 0 < P := by rw [hP]; exact Nat.mul_pos hk hj
  generalize hR : (c % 2 ^ k) * 2 ^ j = R at *
  unfold FP.Core.nearest
  generalize c / 2 ^ k = Q at *
  generalize c % 2 ^ k = r at *
  generalize 2 ^ k = B at *
  have eQP : ((Q * P : Nat) : Int) = (Q : Int) * (P : Int) := Int.natCast_mul _ _
  cases s with
  | false =>
    have hW : W = ((c * 2 ^ j : Nat) : Int) := hW
    rw [hc] at hW
    refine ⟨Q, by omega, by omega, ?_⟩
    unfold rnd
    show _ = ((if 2 * r < B then Q else if B < 2 * r then Q + 1 else Q + Q % 2 : Nat) : Int)
    by_cases g1 : 2 * r < B
    · have := c2.mpr g1
      rw [if_pos g1, if_neg (by omega)]
    · rw [if_neg g1]
      have n2 : ¬ 2 * R < P := fun z => g1 (c2.mp z)
      by_cases g2 : B < 2 * r
      · have := c1.mpr g2
        rw [if_pos g2, if_pos (by omega)]
        omega
      · have n1 : ¬ P < 2 * R := fun z => g2 (c1.mp z)
        rw [if_neg g2]
        by_cases g3 : Q % 2 = 1
        · rw [if_pos (by omega)]; omega
        · rw [if_neg (by omega)]; omega
  | true =>
    have hW : W = -((c * 2 ^ j : Nat) : Int) := hW
    rw [hc] at hW
    by_cases g0 : r = 0
    · have hR0 : R = 0 := c4.mpr g0
      refine ⟨-(Q : Int), by rw [Int.neg_mul]; omega, by rw [Int.neg_mul]; omega, ?_⟩
      unfold rnd
      show _ = -((if 2 * r < B then Q else if B < 2 * r then Q + 1 else Q + Q % 2 : Nat) : Int)
      rw [if_pos (show 2 * r < B by omega), if_neg (by rw [Int.neg_mul]; omega)]
    · have hR0 : R ≠ 0 := fun z => g0 (c4.mp z)
      have eF : (-(Q : Int) - 1) * (P : Int) = -((Q * P : Nat) : Int) - P := by rw [Int.sub_mul, Int.one_mul, Int.neg_mul, eQP]
      refine ⟨-(Q : Int) - 1, by rw [eF]; omega, by rw [eF]; omega, ?_⟩
      unfold rnd
      rw [eF]
      show _ = -((if 2 * r < B then Q else if B < 2 * r then Q + 1 else Q + Q % 2 : Nat) : Int)
      by_cases g1 : 2 * r < B
      · have := c2.mpr g1
        rw [if_pos g1, if_pos (by omega)]
        omega
      · rw [if_neg g1]
        have n2 : ¬ 2 * R < P := fun z => g1 (c2.mp z)
        by_cases g2 : B < 2 * r
        · have := c1.mpr g2
          rw [if_pos g2, if_neg (by omega)]
          omega
        · have n1 : ¬ P < 2 * R := fun z => g2 (c1.mp z)
          rw [if_neg g2]
          by_cases g3 : Q % 2 = 1
          · rw [if_neg (by omega)]; omega
          · rw [if_pos (by omega)]; omega
theorem tS_j {s : Bool} {n : Nat} (hn : n < 2 ^ 60) : tS (FP.Core.signed s n) = if g_Shorts_isShort (if s = true then -(j64 n) else j64 n) = true then FP.l2d (if s = true then -(j64 n) else j64 n) else 0x40e3880000000000 := by
  have e : (if s = true then -(j64 n) else j64 n) = Int64.ofInt (FP.Core.signed s n) := by
    apply Int64.toInt_inj.mp
    cases s with
    | false =>
      rw [if_neg (by decide), j64_toInt (by omega)]
      show _ = (Int64.ofInt (n : Int)).toInt
      rw [ofI (by omega)]
    | true =>
      rw [if_pos rfl, Int64.toInt_neg, j64_toInt (by omega), Int.bmod_eq_of_le (by omega) (by omega)]
      show _ = (Int64.ofInt (-(n : Int))).toInt
      rw [ofI (by omega)]
  rw [e]
  have eI := ofI (n := FP.Core.signed s n) (by cases s <;> (simp only [FP.Core.signed]; simp; omega))
  unfold tS
  by_cases h : -32768 ≤ FP.Core.signed s n ∧ FP.Core.signed s n ≤ 32767
  · rw [if_pos h, if_pos]
    refine (isShort_iff _).mpr ⟨?_, ?_⟩ <;> rw [Int64.le_iff_toInt_le, eI]
    · exact h.1
    · exact h.2
  · rw [if_neg h, if_neg]
    intro h0
    obtain ⟨h1, h2⟩ := (isShort_iff _).mp h0
    rw [Int64.le_iff_toInt_le, eI] at h1 h2
    exact h ⟨h1, h2⟩
/-- so many units has what is turned -/
def WY (pl : Bool) (d : FP.Core.Datum) (W : Int) : Prop := match d with
  | .fin s c q => (q + zo pl ≤ 971 → W = FP.Core.signed s (c * 2 ^ (q + zo pl + 1074).toNat)) ∧ (971 < q + zo pl → (s = false → 40000 * (FP.Core.one64 : Int) ≤ W) ∧ (s = true → W ≤ -40000 * (FP.Core.one64 : Int)))
  | .inf s => (s = false → 40000 * (FP.Core.one64 : Int) ≤ W) ∧ (s = true → W ≤ -40000 * (FP.Core.one64 : Int))
  | .nan => True
/-- what the reference turns into a short -/
theorem turn_short {y : UInt64} (hd : FP.Core.fits FP.Core.b64 d) (hn : FP.Core.val64 y ≠ .nan) (hdn : d ≠ .nan)
    (hy : WY pl d (FP.Core.zval FP.Core.b64 (FP.Core.val64 y))) :
    g_R_turned_75 y = some (if g_Shorts_isShort (nrD pl d) = true then FP.l2d (nrD pl d) else 0x40e3880000000000) := by
  obtain ⟨u, hu⟩ : ∃ u, u = 2 ^ 1021 := ⟨_, rfl⟩
  obtain ⟨P, hP'⟩ : ∃ P, FP.Core.one64 = P := ⟨_, rfl⟩
  have hP : P = 2 ^ 53 * u := by rw [← hP']; exact one64_u hu
  unfold WY at hy
  rw [hP'] at hy
  have no : ¬ g_Shorts_isShort (1099511627776 : Int64) = true := by decide
  obtain ⟨t1, t2⟩ := t75 hu hP hP' hn (W := FP.Core.zval FP.Core.b64 (FP.Core.val64 y)) rfl
  generalize FP.Core.zval FP.Core.b64 (FP.Core.val64 y) = W at *
  cases d with
  | nan => exact absurd rfl hdn
  | inf s =>
    have e : nrD pl (.inf s) = 1099511627776 := rfl
    rw [e, if_neg no]
    refine t1 ?_
    cases s with
    | false => exact Or.inr (hy.1 rfl)
    | true => exact Or.inl (hy.2 rfl)
  | fin s c q =>
    obtain ⟨f1, f2, f3, f4⟩ := hd
    have f1 : c < 2 ^ 53 := f1
    have f2 : -1074 ≤ q := f2
    have hz : zo pl = 0 ∨ zo pl = 14 := by cases pl; exact Or.inr rfl; exact Or.inl rfl
    by_cases hk : q + zo pl < 0
    · have hW := hy.1 (by omega)
      generalize hkk : (-(q + zo pl)).toNat = k at *
      have e1 : nrD pl (.fin s c q) = if s = true then -(j64 (FP.Core.nearest c (2 ^ k))) else j64 (FP.Core.nearest c (2 ^ k)) := by rw [← hkk]; exact if_pos hk
      have hPk : P = 2 ^ k * 2 ^ (q + zo pl + 1074).toNat := by
        have he : 53 + 1021 = k + (q + zo pl + 1074).toNat := by omega
        rw [hP, hu, ← Nat.pow_add, ← Nat.pow_add, he]
      obtain ⟨F, r1, r2, r3⟩ := rnd_near hPk hW
      have hn60 : FP.Core.nearest c (2 ^ k) < 2 ^ 60 := by
        have := near_le c (2 ^ k)
        have := Nat.div_le_self c (2 ^ k)
        omega
      rw [e1, ← tS_j hn60, ← r3]
      by_cases b1 : -40000 * (P : Int) < W ∧ W < 40000 * (P : Int)
      · exact t2 F r1 r2 b1.1 b1.2
      · rw [t1 (by omega)]
        have hPp : 0 < P := by rw [hPk]; exact Nat.mul_pos (Nat.two_pow_pos _) (Nat.two_pow_pos _)
        have hr : rnd F W P = F + 1 ∨ rnd F W P = F := by unfold rnd; split; exact Or.inl rfl; exact Or.inr rfl
        unfold tS
        rw [if_neg]
        intro hb
        by_cases z1 : 39990 ≤ F
        · omega
        · by_cases z2 : F ≤ -39990
          · omega
          · have a1 : F * (P : Int) ≤ 39990 * (P : Int) := Int.mul_le_mul_of_nonneg_right (by omega) (by omega)
            have a2 : -39990 * (P : Int) ≤ F * (P : Int) := Int.mul_le_mul_of_nonneg_right (by omega) (by omega)
            omega
    · have e1 : nrD pl (.fin s c q) = 1099511627776 := if_neg hk
      rw [e1, if_neg no]
      refine t1 ?_
      by_cases hq : q + zo pl ≤ 971
      · have hW := hy.1 hq
        have hc : 2 ^ 52 ≤ c := by
          rcases f4 with h | h
          · have h : q = -1074 := h
            omega
          · exact h
        obtain ⟨i, hi⟩ : ∃ i, (q + zo pl + 1074).toNat = 1074 + i := ⟨(q + zo pl).toNat, by omega⟩
        rw [hi] at hW
        have hPe : P = 2 ^ 1074 := by rw [hP, hu, ← Nat.pow_add]
        have hbig : 40000 * P ≤ c * 2 ^ (1074 + i) := by
          rw [Nat.pow_add, ← hPe, Nat.mul_comm P, ← Nat.mul_assoc]
          refine Nat.mul_le_mul_right _ ?_
          have := Nat.two_pow_pos i
          have : 2 ^ 52 * 1 ≤ c * 2 ^ i := Nat.mul_le_mul hc this
          omega
        generalize c * 2 ^ (1074 + i) = Z at *
        cases s with
        | false => have hW : W = (Z : Int) := hW; exact Or.inr (by omega)
        | true => have hW : W = -(Z : Int) := hW; exact Or.inl (by omega)
      · cases s with
        | false => exact Or.inr ((hy.2 (by omega)).1 rfl)
        | true => exact Or.inl ((hy.2 (by omega)).2 rfl)
end TRANS
