/-! ratio -/
section RATIO
variable {G : GT} {E B bx m : Nat} {ad : Nat → Nat} {S : ST} {A : AT} {C : CT} {T : MT}
theorem i32_range (v : Int32) : -2147483648 ≤ v.toInt ∧ v.toInt < 2147483648 := ⟨Int32.le_toInt v, Int32.toInt_lt v⟩
theorem abs_j (v : Int32) : g_JMath_abs (Int32.toInt64 v) = j64 v.toInt.natAbs := by
  obtain ⟨h1, h2⟩ := i32_range v
  have hi : (Int32.toInt64 v).toInt = v.toInt := Int32.toInt_toInt64 v
  have z0 : (0 : Int64).toInt = 0 := rfl
  unfold g_JMath_abs
  by_cases h : (0 : Int64) ≤ Int32.toInt64 v
  · rw [if_pos h]
    rw [Int64.le_iff_toInt_le, hi, z0] at h
    apply Int64.toInt_inj.mp
    rw [j64_toInt (by omega), hi]
    omega
  · rw [if_neg h]
    rw [Int64.le_iff_toInt_le, hi, z0] at h
    apply Int64.toInt_inj.mp
    rw [j64_toInt (by omega), Int64.toInt_neg, hi, Int.bmod_eq_of_le (by omega) (by omega)]
    omega
theorem fit_64 {s : Bool} {M : Nat} (h1 : 1 ≤ M) (h2 : M < 2 ^ 33) : ∃ k : Nat, k ≤ 52 ∧ FP.Core.roundRatio FP.Core.b64 s M 1 0 = .fin s (M * 2 ^ k) (0 - k) := by
  have l1 := Nat.log2_self_le (show M ≠ 0 by omega)
  have l2 := Nat.lt_log2_self (n := M)
  have l3 : M.log2 < 33 := (Nat.pow_lt_pow_iff_right (by decide : 1 < 2)).mp (Nat.lt_of_le_of_lt l1 h2)
  generalize M.log2 = L at *
  have up1 : M * 2 ^ (52 - L) < 2 ^ 53 := by
    calc M * 2 ^ (52 - L) < 2 ^ (L + 1) * 2 ^ (52 - L) := Nat.mul_lt_mul_of_pos_right l2 (Nat.two_pow_pos _)
      _ = 2 ^ 53 := by rw [← Nat.pow_add]; congr 1; omega
  have up2 : 2 ^ 52 ≤ M * 2 ^ (52 - L) := by
    calc 2 ^ 52 = 2 ^ L * 2 ^ (52 - L) := by rw [← Nat.pow_add]; congr 1; omega
      _ ≤ M * 2 ^ (52 - L) := Nat.mul_le_mul_right _ l1
  refine ⟨52 - L, by omega, FP.Core.roundRatio_exact (fq_good (Or.inl rfl)) (by decide) ⟨up1, ?_, ?_, Or.inr up2⟩ ?_⟩
  · show (-1074 : Int) ≤ _
    omega
  · show _ ≤ (971 : Int)
    omega
  · rw [show ((0 : Int) - (0 - ((52 - L : Nat) : Int))).toNat = 52 - L by omega, show ((0 - ((52 - L : Nat) : Int)) - 0).toNat = 0 by omega, Nat.pow_zero, Nat.mul_one, Nat.mul_one]
/-- the reference's quotient of two whole numbers -/
theorem quo_whole {v w : Int32} (h0 : w.toInt ≠ 0) : FP.Core.quotient FP.Core.b64 (FP.Core.val64 (FP.i2d v)) (FP.Core.val64 (FP.i2d w)) = FP.Core.roundRatio FP.Core.b64 (decide (v.toInt < 0) != decide (w.toInt < 0)) v.toInt.natAbs w.toInt.natAbs 0 := by
  obtain ⟨b1, b2⟩ := i32_range v
  obtain ⟨b3, b4⟩ := i32_range w
  rw [FP.Core.val64_i2d, FP.Core.val64_i2d]
  obtain ⟨k', k1', k2'⟩ := fit_64 (s := decide (w.toInt < 0)) (M := w.toInt.natAbs) (by omega) (by omega)
  have ew : FP.Core.round FP.Core.b64 (FP.Core.ofInt w.toInt) = .fin (decide (w.toInt < 0)) (w.toInt.natAbs * 2 ^ k') (0 - k') := by rw [← k2']; rfl
  have hpos : 0 < w.toInt.natAbs * 2 ^ k' := Nat.mul_pos (by omega) (Nat.two_pow_pos _)
  rw [ew]
  generalize hM' : w.toInt.natAbs = M' at *
  generalize decide (w.toInt < 0) = t at *
  by_cases hz : v.toInt.natAbs = 0
  · have ev : FP.Core.round FP.Core.b64 (FP.Core.ofInt v.toInt) = .fin (decide (v.toInt < 0)) 0 FP.Core.b64.qmin := by
      show FP.Core.roundRatio FP.Core.b64 (decide (v.toInt < 0)) v.toInt.natAbs 1 0 = _
      rw [hz]
      exact if_pos rfl
    rw [ev, hz]
    show (if M' * 2 ^ k' = 0 then (if (0 : Nat) = 0 then FP.Core.Datum.nan else FP.Core.Datum.inf (decide (v.toInt < 0) != t)) else FP.Core.roundRatio FP.Core.b64 (decide (v.toInt < 0) != t) 0 (M' * 2 ^ k') (FP.Core.b64.qmin - (0 - (k' : Int)))) = _
    rw [if_neg (by omega)]
    unfold FP.Core.roundRatio
    rw [if_pos rfl, if_pos rfl]
  · obtain ⟨k, k1, k2⟩ := fit_64 (s := decide (v.toInt < 0)) (M := v.toInt.natAbs) (by omega) (by omega)
    have ev : FP.Core.round FP.Core.b64 (FP.Core.ofInt v.toInt) = .fin (decide (v.toInt < 0)) (v.toInt.natAbs * 2 ^ k) (0 - k) := by rw [← k2]; rfl
    rw [ev]
    generalize v.toInt.natAbs = M at *
    show (if M' * 2 ^ k' = 0 then (if M * 2 ^ k = 0 then FP.Core.Datum.nan else FP.Core.Datum.inf (decide (v.toInt < 0) != t)) else FP.Core.roundRatio FP.Core.b64 (decide (v.toInt < 0) != t) (M * 2 ^ k) (M' * 2 ^ k') (0 - (k : Int) - (0 - (k' : Int)))) = _
    rw [if_neg (by omega)]
    refine FP.Core.roundRatio_congr hpos (by omega) ?_
    have e := pow_max k' k
    rw [show ((0 - (k : Int) - (0 - (k' : Int))) - 0).toNat = ((k' : Int) - k).toNat by omega, show ((0 : Int) - (0 - (k : Int) - (0 - (k' : Int)))).toNat = ((k : Int) - k').toNat by omega]
    generalize 2 ^ ((k' : Int) - k).toNat = P at *
    generalize 2 ^ ((k : Int) - k').toNat = R at *
    calc M * 2 ^ k * M' * P = (M * M') * (2 ^ k * P) := by ac_rfl
      _ = (M * M') * (2 ^ k' * R) := by rw [e]
      _ = M * (M' * 2 ^ k') * R := by ac_rfl
theorem i32_neg0 (v : Int32) : (0 : Int32) ≤ v ↔ ¬ v.toInt < 0 := by
  rw [Int32.le_iff_toInt_le, show (0 : Int32).toInt = 0 from rfl]
  omega
theorem divided_of {a : Nat} (hp : RP FP.Core.b64 C a) {v w : Int32} (h0 : w.toInt ≠ 0) : c_Real_divided a v w C = some (ev FP.Core.b64 (FP.Core.quotient FP.Core.b64 (FP.Core.val64 (FP.i2d v)) (FP.Core.val64 (FP.i2d w)))) := by
  obtain ⟨b1, b2⟩ := i32_range v
  obtain ⟨b3, b4⟩ := i32_range w
  have e26 := fun s => divided26 (s := s) hp (abs_j v) (abs_j w) (by omega) (by omega) (by omega)
  rw [quo_whole h0]
  unfold c_Real_divided c_Real_divided_9 c_Real_divided_18
  by_cases hv : v.toInt < 0
  · rw [if_neg (fun z => (i32_neg0 v).mp z hv), decide_eq_true hv]
    by_cases hw : w.toInt < 0
    · rw [if_neg (fun z => (i32_neg0 w).mp z hw), if_pos rfl, decide_eq_true hw, e26]; rfl
    · rw [if_pos ((i32_neg0 w).mpr hw), if_neg (by decide), decide_eq_false hw, e26]; rfl
  · rw [if_pos ((i32_neg0 v).mpr hv), decide_eq_false hv]
    by_cases hw : w.toInt < 0
    · rw [if_neg (fun z => (i32_neg0 w).mp z hw), if_neg (by decide), decide_eq_true hw, e26]; rfl
    · rw [if_pos ((i32_neg0 w).mpr hw), if_pos rfl, decide_eq_false hw, e26]; rfl
theorem nn_msb (x : Int64) : (0 : Int64) ≤ x ↔ x.toBitVec.msb = false := by
  rw [Int64.le_iff_toInt_le, show (0 : Int64).toInt = 0 from rfl]
  show (0 : Int) ≤ x.toBitVec.toInt ↔ _
  rw [BitVec.msb_eq_toInt, decide_eq_false_iff_not]
  omega
theorem floor_eq {x y : Int64} (hy : 0 < y.toInt) (h1 : -1125899906842624 < x.toInt) (h2 : x.toInt < 1125899906842624) (h3 : y.toInt < 1125899906842624) : ∃ r, g_JMath_floorDiv x y = some r ∧ g_R_floor x y = some r := by
  have z0 : (0 : Int64).toInt = 0 := rfl
  have hy0 : ¬ y = (0 : Int64) := fun z => by rw [z, z0] at hy; omega
  have hy1 : y ≠ -1 := fun z => by
    have : (-1 : Int64).toInt = -1 := rfl
    rw [z, this] at hy; omega
  have e1 : (x / y).toInt = x.toInt.tdiv y.toInt := Int64.toInt_div_of_ne_right _ _ hy1
  have t1 := Int.mul_tdiv_add_tmod x.toInt y.toInt
  have t2 : (x.toInt.tmod y.toInt).natAbs < y.toInt.natAbs := by
    rw [Int.natAbs_tmod]
    exact Nat.mod_lt _ (by omega)
  have t3 : 0 ≤ x.toInt → 0 ≤ x.toInt.tmod y.toInt := fun h => Int.tmod_nonneg _ h
  have t4 : x.toInt ≤ 0 → x.toInt.tmod y.toInt ≤ 0 := fun h => by
    have h0 := Int.tmod_nonneg y.toInt (a := -x.toInt) (by omega)
    rw [Int.neg_tmod] at h0
    omega
  have e2 : (x / y * y).toInt = y.toInt * x.toInt.tdiv y.toInt := by
    rw [Int64.toInt_mul, e1, Int.mul_comm]
    exact Int.bmod_eq_of_le (by omega) (by omega)
  have e3 : (x - x / y * y).toInt = x.toInt.tmod y.toInt := by
    rw [Int64.toInt_sub, e2, show x.toInt - y.toInt * x.toInt.tdiv y.toInt = x.toInt.tmod y.toInt by omega]
    exact Int.bmod_eq_of_le (by omega) (by omega)
  have ym : y.toBitVec.msb = false := (nn_msb y).mp (by rw [Int64.le_iff_toInt_le, z0]; omega)
  have xr : (0 : Int64) ≤ (x ^^^ y) ↔ (0 : Int64) ≤ x := by
    rw [nn_msb, nn_msb]
    show (x.toBitVec ^^^ y.toBitVec).msb = false ↔ _
    rw [BitVec.msb_xor, ym, Bool.xor_false]
  unfold g_JMath_floorDiv g_R_floor jdivL jremL
  rw [if_neg hy0, obd_some, obd_some, if_neg hy0, obd_some]
  by_cases hx : (0 : Int64) ≤ x
  · refine ⟨_, by rw [if_pos (xr.mpr hx)], ?_⟩
    rw [if_pos]
    rw [Int64.le_iff_toInt_le, z0] at hx ⊢
    rw [e3]
    exact t3 hx
  · have hx' : x.toInt < 0 := by
      rw [Int64.le_iff_toInt_le, z0] at hx
      omega
    have iff : (x / y * y = x) ↔ (0 : Int64) ≤ x - x / y * y := by
      rw [Int64.le_iff_toInt_le, z0, e3, ← Int64.toInt_inj, e2]
      have := t4 (by omega)
      omega
    rw [if_neg (fun z => hx (xr.mp z))]
    by_cases hr : x / y * y = x
    · exact ⟨_, by rw [if_pos hr], by rw [if_pos (iff.mp hr)]⟩
    · exact ⟨_, by rw [if_neg hr], by rw [if_neg (fun z => hr (iff.mpr z))]⟩
theorem short_quo {y s1 num : Int64} {K : Int32} (hn : num = s1 * Int32.toInt64 K) (hy : 0 < y.toInt) (h1 : -1125899906842624 < num.toInt) (h2 : num.toInt < 1125899906842624) (h3 : y.toInt < 1125899906842624) :
    ∃ r, g_Shorts_quotient_30 y K s1 = some r ∧ ∀ (v1 v2 : Int32) (T : MT), h_R_ratio_97 v1 v2 num y T = h_R_ratio_151 v1 v2 r T := by
  have hy0 : ¬ y = (0 : Int64) := fun z => by rw [z, show (0 : Int64).toInt = 0 from rfl] at hy; omega
  obtain ⟨r, r1, r2⟩ := floor_eq hy h1 h2 h3
  unfold g_Shorts_quotient_30 h_R_ratio_97
  rw [if_neg hy0, ← hn, r1, obd_some, jlet_eq, r2, Int64.mul_comm _ (2 : Int64)]
  simp only [obd_some, jlet_eq]
  unfold g_Shorts_quotient_93 h_R_ratio_145
  by_cases g1 : y < 2 * (num - r * y)
  · exact ⟨_, by rw [if_pos g1], fun _ _ _ => by rw [if_pos g1]⟩
  · by_cases g2 : 2 * (num - r * y) = y
    · by_cases g3 : (r &&& 1) = (1 : Int64)
      · exact ⟨_, by rw [if_neg g1, if_pos g2, if_pos g3], fun _ _ _ => by rw [if_neg g1, if_pos g2, if_pos g3]⟩
      · exact ⟨_, by rw [if_neg g1, if_pos g2, if_neg g3], fun _ _ _ => by rw [if_neg g1, if_pos g2, if_neg g3]⟩
    · exact ⟨_, by rw [if_neg g1, if_neg g2], fun _ _ _ => by rw [if_neg g1, if_neg g2]⟩
theorem vb_hold {so : Nat} {b : Int64} (h : vb so b) : hold so b := by
  match so, h with
  | 0, _ => trivial
  | 1, h => exact h.1
  | _ + 2, h => exact h
theorem roundRatio_num {f : FP.Core.Fmt} {s : Bool} {M D : Nat} {e : Int} : FP.Core.roundRatio f s M D e ≠ .nan := by
  unfold FP.Core.roundRatio
  split
  · exact fun q => by cases q
  · unfold FP.Core.roundAt FP.Core.settle FP.Core.bound
    split <;> split <;> exact fun q => by cases q
theorem round_num {f : FP.Core.Fmt} {d : FP.Core.Datum} (h : d ≠ .nan) : FP.Core.round f d ≠ .nan := by
  cases d with
  | nan => exact absurd rfl h
  | inf s => exact fun q => by cases q
  | fin s c q => exact roundRatio_num
end RATIO
