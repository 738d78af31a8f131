/-! the class's doubles and floats -/
section REAL
variable {S : ST} {A : AT} {C : CT} {bx a : Nat} {f : FP.Core.Fmt} {s : Bool}
def fm (so : Nat) : FP.Core.Fmt := match so with | 0 => FP.Core.b64 | _ => FP.Core.b32
def Fq (f : FP.Core.Fmt) : Prop := f = FP.Core.b64 ∨ f = FP.Core.b32
theorem fq_fm (so : Nat) : Fq (fm so) := by
  unfold fm
  split
  · exact Or.inl rfl
  · exact Or.inr rfl
theorem fq_good (hf : Fq f) : FP.Core.Good f := by
  rcases hf with rfl | rfl
  · exact FP.Core.good_b64
  · exact FP.Core.good_b32
/-- the signs' place -/
def es (f : FP.Core.Fmt) : Nat := f.exps * f.tails
theorem fq_n (hf : Fq f) : 24 ≤ f.p ∧ f.p ≤ 53 ∧ f.exps ≤ 2048 ∧ f.emax ≤ 1023 ∧ es f ≤ 2 ^ 63 ∧ 2 ^ 31 ≤ es f ∧ f.exps = 2 * f.emax + 2 ∧ 1 ≤ f.emax ∧ f.tails ≤ 2 ^ 52 := by
  rcases hf with rfl | rfl <;> decide
theorem fq_es (hf : Fq f) : ∃ k, k ≤ 63 ∧ es f = 2 ^ k ∧ 2 ^ 64 - es f = 2 ^ k * (2 ^ (64 - k) - 1) := by
  rcases hf with rfl | rfl
  · exact ⟨63, by decide, by decide, by decide⟩
  · exact ⟨31, by decide, by decide, by decide⟩
/-- what the class keeps of a format -/
def RP (f : FP.Core.Fmt) (C : CT) (a : Nat) : Prop := C.1 a = 6 ∧ cgI C a 5 0 = some (i32 (f.p - 1)) ∧ cgJ C a 5 1 = some (j64 f.tails) ∧ cgI C a 5 2 = some (i32 (f.exps - 1)) ∧ cgI C a 5 3 = some (i32 f.emax) ∧ cgJ C a 5 4 = some (j64 (2 ^ 64 - es f)) ∧ cgJ C a 5 5 = some (j64 ((f.exps - 1) * f.tails)) ∧ cgJ C a 5 6 = some (j64 (FP.Core.encode f .nan))
theorem rp_of (hb : RCb S A C bx) {so : Nat} (h2 : so < 2) : RP (fm so) C (A 5 so) := by
  match so, h2 with
  | 0, _ =>
    obtain ⟨t, h0, h1, h2, h3, h4, h5, h6⟩ := hb.2.2.1.2.1
    exact ⟨t, (if_pos t).trans (congrArg some (h0.trans (by decide))), (if_pos t).trans (congrArg some (h1.trans (by decide))), (if_pos t).trans (congrArg some (h2.trans (by decide))), (if_pos t).trans (congrArg some (h3.trans (by decide))), (if_pos t).trans (congrArg some (h4.trans (by decide))), (if_pos t).trans (congrArg some (h5.trans (by decide))), (if_pos t).trans (congrArg some (h6.trans (by decide)))⟩
  | 1, _ =>
    obtain ⟨t, h0, h1, h2, h3, h4, h5, h6⟩ := hb.2.2.1.2.2
    exact ⟨t, (if_pos t).trans (congrArg some (h0.trans (by decide))), (if_pos t).trans (congrArg some (h1.trans (by decide))), (if_pos t).trans (congrArg some (h2.trans (by decide))), (if_pos t).trans (congrArg some (h3.trans (by decide))), (if_pos t).trans (congrArg some (h4.trans (by decide))), (if_pos t).trans (congrArg some (h5.trans (by decide))), (if_pos t).trans (congrArg some (h6.trans (by decide)))⟩
/-- sign and size as the class holds them -/
def sg (f : FP.Core.Fmt) (s : Bool) (m : Nat) : Int64 := if s = true then j64 (2 ^ 64 - es f + m) else j64 m
/-- a number as the class holds it -/
def ev (f : FP.Core.Fmt) (d : FP.Core.Datum) : Int64 := if FP.Core.encode f d < es f then j64 (FP.Core.encode f d) else j64 (2 ^ 64 - 2 * es f + FP.Core.encode f d)
theorem ev_sg {d : FP.Core.Datum} {m : Nat} (hf : Fq f) (h : FP.Core.encode f d = s.toNat * f.exps * f.tails + m) (hm : m < es f) : ev f d = sg f s m := by
  have := (fq_n hf).2.2.2.2
  unfold ev sg
  cases s with
  | false =>
    have h' : FP.Core.encode f d = m := by rw [h]; show 0 * f.exps * f.tails + m = m; rw [Nat.zero_mul, Nat.zero_mul, Nat.zero_add]
    rw [h', if_pos hm, if_neg (by decide)]
  | true =>
    have h' : FP.Core.encode f d = es f + m := by rw [h]; show 1 * f.exps * f.tails + m = f.exps * f.tails + m; rw [Nat.one_mul]
    rw [h', if_neg (by omega), if_pos rfl]
    congr 1
    omega
theorem signed_of (hf : Fq f) (hp : RP f C a) {m : Nat} (hm : m < es f) : c_Real_signed a s (j64 m) C = some (sg f s m) := by
  have hn := (fq_n hf).2.2.2.2
  unfold c_Real_signed sg
  cases s with
  | false => rfl
  | true =>
    rw [if_pos rfl, if_pos rfl, hp.2.2.2.2.2.1, obd_some]
    congr 1
    obtain ⟨k, hk, h1, h2⟩ := fq_es hf
    rw [h2]
    apply un_inj
    have h3 : 2 ^ k * (2 ^ (64 - k) - 1) + m < 2 ^ 64 := by omega
    rw [un_or, un_j' (by omega), un_j' (by omega), un_j' h3, Nat.or_comm, Nat.two_pow_add_eq_or_of_lt (by omega)]
theorem tI_add {x y : Int32} {u v : Int} (hx : x.toInt = u) (hy : y.toInt = v) (h1 : -2147483648 ≤ u + v) (h2 : u + v < 2147483648) : (x + y).toInt = u + v := by
  rw [Int32.toInt_add, hx, hy]
  exact Int.bmod_eq_of_le (by omega) (by omega)
theorem tI_sub {x y : Int32} {u v : Int} (hx : x.toInt = u) (hy : y.toInt = v) (h1 : -2147483648 ≤ u - v) (h2 : u - v < 2147483648) : (x - y).toInt = u - v := by
  rw [Int32.toInt_sub, hx, hy]
  exact Int.bmod_eq_of_le (by omega) (by omega)
theorem tI_eq {x : Int32} {n : Nat} (h : x.toInt = (n : Int)) (hn : n < 2 ^ 31) : x = i32 n := Int32.toInt_inj.mp (by rw [h, i32_toInt hn])
theorem i32_j64 {n : Nat} (hn : n < 2 ^ 31) : Int32.toInt64 (i32 n) = j64 n := Int64.toInt_inj.mp (by rw [Int32.toInt_toInt64, i32_toInt hn, j64_toInt (by omega)])
theorem packed_of (hf : Fq f) (hp : RP f C a) {M : Nat} (h1 : 1 ≤ M) (h2 : M < 2 ^ 63) {X : Int32} {x : Int} (hX : X.toInt = x) (hx : -5000 ≤ x ∧ x ≤ 5000) : c_Real_packed a s X (j64 M) C = some (ev f (FP.Core.roundRatio f s M 1 x)) := by
  have hn := fq_n hf
  have hg := fq_good hf
  obtain ⟨l, l1, l2, l3, l4⟩ := lead_of h1 h2
  have er : FP.Core.roundRatio f s M 1 x = FP.Core.roundRatio f s (M * 2 ^ l) 1 (x - l) := FP.Core.roundRatio_congr (by decide) (by decide) (by
    rw [show (x - (x - (l : Int))).toNat = l by omega, show (x - (l : Int) - x).toNat = 0 by omega, Nat.mul_one, Nat.pow_zero, Nat.mul_one, Nat.mul_one])
  have hm := mgr_lt hg (show f.p ≤ 60 by omega) (X := x - l) l3 l4
  rw [er, ev_sg hf (enc_round hg (by omega) l3 l4) hm]
  have V0 : (X - i32 l + 62 + i32 f.emax).toInt = x - l + 62 + f.emax :=
    tI_add (tI_add (tI_sub hX (i32_toInt (by omega)) (by omega) (by omega)) (show (62 : Int32).toInt = 62 from rfl) (by omega) (by omega)) (i32_toInt (by omega)) (by omega) (by omega)
  have hsh : ∀ d, 1 ≤ d → d < 2 ^ 31 → g_Numbers_halfEven (j64 M <<< (Int32.toInt64 (i32 l) &&& 63)) (i32 d) = j64 (FP.Core.nearest (M * 2 ^ l) (2 ^ d)) := fun d d1 d2 => by
    rw [j_shl (by omega) (by omega), half_of l4 d1 d2]
  have e62 : (62 : Int32) - i32 (f.p - 1) = i32 (63 - f.p) := by
    rw [show (62 : Int32) = i32 62 from rfl, i32_sub (by omega)]; congr 1; omega
  have fin : ∀ (v6 v7 : Int32) (t d : Nat), v6 - 1 = i32 t → t < 4096 → v7 = i32 d → 1 ≤ d → d < 2 ^ 31 → t * f.tails + FP.Core.nearest (M * 2 ^ l) (2 ^ d) = mgr f (M * 2 ^ l) (x - l) → c_Real_packed_66 a s (j64 M) (i32 l) v6 v7 C = some (sg f s (mgr f (M * 2 ^ l) (x - l))) := by
    intro v6 v7 t d e1 ht e2 d1 d2 e3
    have hm' : mgr f (M * 2 ^ l) (x - l) < es f := hm
    have e4 : j64 t <<< (Int32.toInt64 (i32 (f.p - 1)) &&& 63) = j64 (t * f.tails) := by
      have : t * 2 ^ (f.p - 1) < 2 ^ 64 := by
        show t * f.tails < 2 ^ 64
        omega
      exact j_shl (by omega) this
    unfold c_Real_packed_66
    rw [hp.2.1, obd_some, e1, i32_j64 (by omega), e4, e2, hsh d d1 d2, cob_of (ci := 5) hp.1]
    show jgd true (obd (c_Real_signed a s (j64 (t * f.tails) + j64 (FP.Core.nearest (M * 2 ^ l) (2 ^ d))) C) fun x3 => some x3) = _
    rw [jgd_true, j64_add, e3, signed_of hf hp hm', obd_some]
  unfold c_Real_packed
  rw [hp.2.2.2.2.1, obd_some, l2]
  show (obd (cgI C a 5 2) fun x3 => if X - i32 l + 62 + i32 f.emax < x3 then _ else _) = _
  rw [hp.2.2.2.1, obd_some]
  have iT : ∀ n : Nat, n < 2 ^ 31 → (i32 n).toInt = n := fun n h => i32_toInt h
  by_cases ho : (f.exps : Int) - 1 ≤ x - l + 62 + f.emax
  · rw [if_neg (by rw [Int32.lt_iff_toInt_lt, V0, iT _ (by omega)]; omega), hp.2.2.2.2.2.2.1, obd_some, cob_of (ci := 5) hp.1, jgd_true]
    have em : mgr f (M * 2 ^ l) (x - l) = (f.exps - 1) * f.tails := if_pos ho
    rw [em] at hm ⊢
    rw [signed_of hf hp hm, obd_some]
  · rw [if_pos (by rw [Int32.lt_iff_toInt_lt, V0, iT _ (by omega)]; omega), hp.2.1, obd_some, e62]
    by_cases ht : 1 ≤ x - l + 62 + f.emax
    · rw [if_pos (by rw [Int32.le_iff_toInt_le, V0]; exact ht)]
      refine fin _ _ (x - l + 62 + f.emax - 1).toNat (63 - f.p) ?_ (by omega) rfl (by omega) (by omega) ?_
      · exact tI_eq ((tI_sub V0 (show (1 : Int32).toInt = 1 from rfl) (by omega) (by omega)).trans (by omega)) (by omega)
      · unfold mgr
        rw [if_neg ho, if_pos ht]
    · rw [if_neg (by rw [Int32.le_iff_toInt_le, V0]; exact ht)]
      refine fin _ _ 0 (63 - f.p + (1 - (x - l + 62 + f.emax)).toNat) rfl (by decide) ?_ (by omega) (by omega) ?_
      · exact tI_eq ((tI_add (i32_toInt (by omega)) (tI_sub (show (1 : Int32).toInt = 1 from rfl) V0 (by omega) (by omega)) (by omega) (by omega)).trans (by omega)) (by omega)
      · unfold mgr
        rw [if_neg ho, if_neg ht, Nat.zero_mul, Nat.zero_add]
/-! sizes -/
def mant (f : FP.Core.Fmt) (m : Nat) : Nat := if m < f.tails then m else f.tails + m % f.tails
def expo (f : FP.Core.Fmt) (m : Nat) : Int := if m / f.tails = 0 then f.qmin else f.qmin + ((m / f.tails : Nat) - 1)
theorem fq_t (hf : Fq f) : ∃ k, k = f.p - 1 ∧ f.tails = 2 ^ k ∧ k ≤ 52 ∧ 23 ≤ k ∧ (f.exps - 1) * f.tails < es f ∧ 0 < f.tails := by
  rcases hf with rfl | rfl
  · exact ⟨52, by decide, by decide, by decide, by decide, by decide, by decide⟩
  · exact ⟨23, by decide, by decide, by decide, by decide, by decide, by decide⟩
theorem mantissa_of (hf : Fq f) (hp : RP f C a) {m : Nat} (hm : m < es f) : c_Real_mantissa a (j64 m) C = some (j64 (mant f m)) := by
  have hn := fq_n hf
  obtain ⟨k, k1, k2, k3, k4, k5, k6⟩ := fq_t hf
  unfold c_Real_mantissa mant
  rw [hp.2.2.1, obd_some]
  by_cases h : m < f.tails
  · rw [if_neg (by rw [j64_le (by omega) (by omega)]; omega), if_pos h]
  · rw [if_pos (by rw [j64_le (by omega) (by omega)]; omega), if_neg h, obd_some, obd_some, k2, show j64 (2 ^ k) - 1 = j64 (2 ^ k - 1) from j64_sub (b := 1) (by omega), j_mask (by omega) (by omega)]
    congr 1
    have h1 := Nat.mod_lt m (show 0 < 2 ^ k by omega)
    apply un_inj
    rw [un_or, un_j' (by omega), un_j' (by omega), un_j' (by omega), Nat.or_comm]
    have := Nat.two_pow_add_eq_or_of_lt h1 1
    rw [Nat.mul_one] at this
    exact this.symm
theorem exponent_of (hf : Fq f) (hp : RP f C a) {m : Nat} (hm : m < es f) : ∃ X, c_Real_exponent a (j64 m) C = some X ∧ X.toInt = expo f m ∧ -1200 ≤ expo f m ∧ expo f m ≤ 1100 := by
  have hn := fq_n hf
  obtain ⟨k, k1, k2, k3, k4, k5, k6⟩ := fq_t hf
  have hq : f.qmin = 2 - (f.emax : Int) - f.p := rfl
  have hd : m / f.tails < f.exps := (Nat.div_lt_iff_lt_mul k6).mpr hm
  unfold c_Real_exponent expo
  rw [hp.2.1, obd_some, j_shr (by omega) (by omega), show 2 ^ (f.p - 1) = f.tails from rfl]
  generalize m / f.tails = e0 at *
  have h1 : (Int64.toInt32 (j64 e0)) = i32 e0 := Int32.toInt_inj.mp (by
    rw [Int64.toInt_toInt32, j64_toInt (by omega), i32_toInt (by omega)]
    exact Int.bmod_eq_of_le (by omega) (by omega))
  have e17 : ∀ n : Nat, n < 2 ^ 20 → ∃ X, c_Real_exponent_17 a (i32 n) C = some X ∧ X.toInt = (n : Int) - f.emax - (f.p - 1 : Nat) := fun n hn' => by
    unfold c_Real_exponent_17
    rw [hp.2.2.2.2.1, obd_some, hp.2.1, obd_some]
    exact ⟨_, rfl, tI_sub (tI_sub (i32_toInt (by omega)) (i32_toInt (by omega)) (by omega) (by omega)) (i32_toInt (by omega)) (by omega) (by omega)⟩
  rw [h1]
  show ∃ X, (if i32 (e0) = 0 then c_Real_exponent_17 a 1 C else c_Real_exponent_17 a (i32 (e0)) C) = some X ∧ _
  by_cases h : e0 = 0
  · rw [if_pos (by rw [h]; rfl), if_pos h]
    obtain ⟨X, u, v⟩ := e17 1 (by decide)
    exact ⟨X, u, by rw [v]; omega, by omega, by omega⟩
  · rw [if_neg (by rw [show (0 : Int32) = i32 0 from rfl]; exact i32_ne (by omega) (by decide) h), if_neg h]
    obtain ⟨X, u, v⟩ := e17 (e0) (by omega)
    exact ⟨X, u, by rw [v]; omega, by omega, by omega⟩
theorem dec_sg (hf : Fq f) {m : Nat} (hm : m < es f) : FP.Core.decode f (s.toNat * es f + m) = if m = (f.exps - 1) * f.tails then .inf s else if (f.exps - 1) * f.tails < m then .nan else .fin s (mant f m) (expo f m) := by
  have hn := fq_n hf
  obtain ⟨k, k1, k2, k3, k4, k5, k6⟩ := fq_t hf
  have hd : m / f.tails < f.exps := (Nat.div_lt_iff_lt_mul k6).mpr hm
  have ht := Nat.mod_lt m k6
  have hdm := Nat.div_add_mod m f.tails
  rw [Nat.mul_comm] at hdm
  have ea : s.toNat * es f + m = FP.Core.assemble f s (m / f.tails) (m % f.tails) := by
    unfold FP.Core.assemble es
    rw [Nat.add_mul, Nat.mul_assoc]; omega
  rw [ea, FP.Core.decode_assemble f s _ _ hd ht]
  by_cases h1 : m / f.tails = f.exps - 1
  · rw [if_pos h1]
    rw [h1] at hdm
    by_cases h2 : m % f.tails = 0
    · rw [if_pos h2, if_pos (by omega)]
    · rw [if_neg h2, if_neg (by omega), if_pos (by omega)]
  · have h3 : (m / f.tails + 1) * f.tails ≤ (f.exps - 1) * f.tails := Nat.mul_le_mul_right _ (by omega)
    rw [Nat.add_mul, Nat.one_mul] at h3
    rw [if_neg h1, if_neg (show ¬ m = (f.exps - 1) * f.tails by omega), if_neg (show ¬ (f.exps - 1) * f.tails < m by omega)]
    unfold mant expo
    by_cases h4 : m / f.tails = 0
    · have : m < f.tails := by rw [h4] at hdm; omega
      rw [if_pos h4, if_pos h4, if_pos this, Nat.mod_eq_of_lt this]
    · have : ¬ m < f.tails := fun z => h4 (Nat.div_eq_of_lt z)
      rw [if_neg h4, if_neg h4, if_neg this]
end REAL
