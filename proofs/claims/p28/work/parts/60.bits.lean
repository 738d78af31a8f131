/-! longs as numbers below 2 ^ 64 -/
def un (b : Int64) : Nat := b.toBitVec.toNat
def j64 (n : Nat) : Int64 := Int64.ofNat n
theorem un_lt (b : Int64) : un b < 2 ^ 64 := b.toBitVec.isLt
theorem un_j (n : Nat) : un (j64 n) = n % 2 ^ 64 := BitVec.toNat_ofNat n 64
theorem un_j' {n : Nat} (h : n < 2 ^ 64) : un (j64 n) = n := (un_j n).trans (Nat.mod_eq_of_lt h)
theorem un_inj {a b : Int64} (h : un a = un b) : a = b := Int64.toBitVec_inj.mp (BitVec.eq_of_toNat_eq h)
theorem j_un (b : Int64) : j64 (un b) = b := un_inj (un_j' (un_lt b))
theorem un_eq {b : Int64} {n : Nat} (h : un b = n) : b = j64 n := by rw [← h, j_un]
theorem un_and (a b : Int64) : un (a &&& b) = un a &&& un b := by
  show (a &&& b).toBitVec.toNat = _
  rw [Int64.toBitVec_and, BitVec.toNat_and]; rfl
theorem un_or (a b : Int64) : un (a ||| b) = un a ||| un b := by
  show (a ||| b).toBitVec.toNat = _
  rw [Int64.toBitVec_or, BitVec.toNat_or]; rfl
theorem un_xor (a b : Int64) : un (a ^^^ b) = un a ^^^ un b := by
  show (a ^^^ b).toBitVec.toNat = _
  rw [Int64.toBitVec_xor, BitVec.toNat_xor]; rfl
theorem un_add (a b : Int64) : un (a + b) = (un a + un b) % 2 ^ 64 := by
  show (a + b).toBitVec.toNat = _
  rw [Int64.toBitVec_add, BitVec.toNat_add]; rfl
theorem un_mul (a b : Int64) : un (a * b) = (un a * un b) % 2 ^ 64 := by
  show (a * b).toBitVec.toNat = _
  rw [Int64.toBitVec_mul, BitVec.toNat_mul]; rfl
theorem un_sub (a b : Int64) : un (a - b) = (2 ^ 64 - un b + un a) % 2 ^ 64 := by
  show (a - b).toBitVec.toNat = _
  rw [Int64.toBitVec_sub, BitVec.toNat_sub]; rfl
theorem toInt_un (b : Int64) : b.toInt = if un b < 2 ^ 63 then (un b : Int) else (un b : Int) - 2 ^ 64 := by
  show b.toBitVec.toInt = _
  rw [BitVec.toInt_eq_toNat_cond]
  unfold un
  by_cases h : b.toBitVec.toNat < 2 ^ 63
  · rw [if_pos h, if_pos (by omega)]
  · rw [if_neg h, if_neg (by omega)]; rfl
theorem j64_toInt {n : Nat} (h : n < 2 ^ 63) : (j64 n).toInt = n := by
  rw [toInt_un, un_j' (by omega), if_pos h]
theorem j64_le {a b : Nat} (ha : a < 2 ^ 63) (hb : b < 2 ^ 63) : j64 a ≤ j64 b ↔ a ≤ b := by
  rw [Int64.le_iff_toInt_le, j64_toInt ha, j64_toInt hb]; omega
theorem j64_lt {a b : Nat} (ha : a < 2 ^ 63) (hb : b < 2 ^ 63) : j64 a < j64 b ↔ a < b := by
  rw [Int64.lt_iff_toInt_lt, j64_toInt ha, j64_toInt hb]; omega
theorem j64_inj {a b : Nat} (ha : a < 2 ^ 64) (hb : b < 2 ^ 64) : j64 a = j64 b ↔ a = b := by
  constructor
  · intro h
    have := congrArg un h
    rw [un_j' ha, un_j' hb] at this
    exact this
  · exact fun h => by rw [h]
theorem j64_add (a b : Nat) : j64 a + j64 b = j64 (a + b) := un_inj (by rw [un_add, un_j, un_j, un_j, ← Nat.add_mod])
theorem j64_mul (a b : Nat) : j64 a * j64 b = j64 (a * b) := un_inj (by rw [un_mul, un_j, un_j, un_j, ← Nat.mul_mod])
theorem j64_sub {a b : Nat} (h : b ≤ a) : j64 a - j64 b = j64 (a - b) := by
  have e : j64 a = j64 (a - b) + j64 b := by rw [j64_add]; congr 1; omega
  rw [e, Int64.add_sub_cancel]
theorem sh_l : ∀ n, n < 64 → Int32.toInt64 (i32 n) &&& 63 = j64 n := by decide +kernel
theorem sh_r : ∀ n, n < 64 → ((i32 n).toInt64.toUInt64 &&& Int64.toUInt64 63) = UInt64.ofNat n := by decide +kernel
theorem sh_m : ∀ n, n < 64 → ((j64 n).toBitVec.smod 64).toNat = n := by decide +kernel
theorem un_shl (a : Int64) {n : Nat} (h : n < 64) : un (a <<< (Int32.toInt64 (i32 n) &&& 63)) = un a * 2 ^ n % 2 ^ 64 := by
  rw [sh_l n h]
  show (a.toBitVec <<< ((j64 n).toBitVec.smod 64)).toNat = _
  rw [BitVec.shiftLeft_eq', BitVec.toNat_shiftLeft, sh_m n h, Nat.shiftLeft_eq]; rfl
theorem un_shr (a : Int64) {n : Nat} (h : n < 64) : un ((a.toUInt64 >>> ((i32 n).toInt64.toUInt64 &&& Int64.toUInt64 63)).toInt64) = un a / 2 ^ n := by
  rw [sh_r n h]
  show (a.toUInt64 >>> UInt64.ofNat n).toNat = _
  rw [UInt64.toNat_shiftRight]
  have : (UInt64.ofNat n).toNat = n := Nat.mod_eq_of_lt (by omega)
  rw [this, Nat.mod_eq_of_lt h, Nat.shiftRight_eq_div_pow]; rfl
theorem j_shl {m n : Nat} (h : n < 64) (hm : m * 2 ^ n < 2 ^ 64) : j64 m <<< (Int32.toInt64 (i32 n) &&& 63) = j64 (m * 2 ^ n) := un_inj (by
  have h1 : m < 2 ^ 64 := Nat.lt_of_le_of_lt (Nat.le_mul_of_pos_right m (Nat.two_pow_pos n)) hm
  rw [un_shl _ h, un_j' h1, un_j' hm, Nat.mod_eq_of_lt hm])
theorem j_shr {m n : Nat} (h : n < 64) (hm : m < 2 ^ 64) : ((j64 m).toUInt64 >>> ((i32 n).toInt64.toUInt64 &&& Int64.toUInt64 63)).toInt64 = j64 (m / 2 ^ n) := un_inj (by
  rw [un_shr _ h, un_j' hm, un_j' (Nat.lt_of_le_of_lt (Nat.div_le_self _ _) hm)])
theorem j_mask {m n : Nat} (h : n < 64) (hm : m < 2 ^ 64) : j64 m &&& j64 (2 ^ n - 1) = j64 (m % 2 ^ n) := un_inj (by
  have h1 : 2 ^ n < 2 ^ 64 := Nat.pow_lt_pow_right (by decide) h
  have h2 := Nat.mod_le m (2 ^ n)
  rw [un_and, un_j' hm, un_j' (by omega), un_j' (by omega), Nat.and_two_pow_sub_one_eq_mod])
theorem j_or {a b n : Nat} (hb : b < 2 ^ n) (hab : 2 ^ n * a + b < 2 ^ 64) : j64 (2 ^ n * a) ||| j64 b = j64 (2 ^ n * a + b) := un_inj (by
  rw [un_or, un_j' (by omega), un_j' (by omega), un_j' hab, Nat.two_pow_add_eq_or_of_lt hb])
theorem or_one (x : Nat) : x ||| 1 = x + (1 - x % 2) := by
  have h := Nat.mod_two_eq_zero_or_one x
  have e : x = 2 ^ 1 * (x / 2) + x % 2 := by omega
  rcases h with h | h
  · have h3 : x ||| 1 = 2 ^ 1 * (x / 2) ||| 1 := by
      congr 1
      omega
    have := Nat.two_pow_add_eq_or_of_lt (i := 1) (b := 1) (by decide) (x / 2)
    omega
  · have h1 := Nat.two_pow_add_eq_or_of_lt (i := 1) (b := 1) (by decide) (x / 2)
    have h2 : 2 ^ 1 * (x / 2) + 1 = x := by omega
    rw [h2] at h1
    have h3 : x ||| 1 = (2 ^ 1 * (x / 2) ||| 1) ||| 1 := by rw [← h1]
    rw [h3, Nat.or_assoc, Nat.or_self, ← h1, h]
    omega
theorem j_or1 {m : Nat} (hm : m < 2 ^ 63) : j64 m ||| 1 = j64 (m + (1 - m % 2)) := un_inj (by
  rw [un_or, un_j' (by omega), un_j' (by omega), show un 1 = 1 from rfl, or_one])
/-- where the highest bit stands -/
theorem lead_89 {v y : Nat} (h1 : 2 ^ 61 ≤ v) (h2 : v < 2 ^ 63) : ∃ l, l ≤ 1 ∧ g_Real_lead_89 (j64 v) (i32 y) = i32 (y + l) ∧ 2 ^ 62 ≤ v * 2 ^ l ∧ v * 2 ^ l < 2 ^ 63 := by
  unfold g_Real_lead_89
  rw [show (62 : Int32) = i32 62 from rfl, j_shr (n := 62) (by decide) (by omega), show (0 : Int64) = j64 0 from rfl]
  by_cases h : v < 2 ^ 62
  · rw [if_pos (by rw [j64_inj (by omega) (by decide)]; omega)]
    exact ⟨1, by decide, i32_add y 1, by omega, by omega⟩
  · rw [if_neg (by rw [j64_inj (by omega) (by decide)]; omega)]
    exact ⟨0, by decide, rfl, by omega, by omega⟩
theorem lead_73 {v y : Nat} (h1 : 2 ^ 59 ≤ v) (h2 : v < 2 ^ 63) : ∃ l, l ≤ 3 ∧ g_Real_lead_73 (j64 v) (i32 y) = i32 (y + l) ∧ 2 ^ 62 ≤ v * 2 ^ l ∧ v * 2 ^ l < 2 ^ 63 := by
  unfold g_Real_lead_73
  rw [show (61 : Int32) = i32 61 from rfl, j_shr (n := 61) (by decide) (by omega), show (0 : Int64) = j64 0 from rfl]
  by_cases h : v < 2 ^ 61
  · rw [if_pos (by rw [j64_inj (by omega) (by decide)]; omega), show (2 : Int32) = i32 2 from rfl, j_shl (n := 2) (by decide) (by omega)]
    simp only [jlet]
    obtain ⟨l, g1, g2, g3, g4⟩ := lead_89 (v := v * 2 ^ 2) (y := y + 2) (by omega) (by omega)
    refine ⟨2 + l, by omega, ?_, ?_, ?_⟩
    · rw [← Nat.add_assoc, ← g2, ← i32_add y 2]
    · rw [Nat.pow_add, ← Nat.mul_assoc]; exact g3
    · rw [Nat.pow_add, ← Nat.mul_assoc]; exact g4
  · rw [if_neg (by rw [j64_inj (by omega) (by decide)]; omega)]
    obtain ⟨l, g1, g2, g3, g4⟩ := lead_89 (v := v) (y := y) (by omega) (by omega)
    exact ⟨l, by omega, g2, g3, g4⟩
theorem lead_57 {v y : Nat} (h1 : 2 ^ 55 ≤ v) (h2 : v < 2 ^ 63) : ∃ l, l ≤ 7 ∧ g_Real_lead_57 (j64 v) (i32 y) = i32 (y + l) ∧ 2 ^ 62 ≤ v * 2 ^ l ∧ v * 2 ^ l < 2 ^ 63 := by
  unfold g_Real_lead_57
  rw [show (59 : Int32) = i32 59 from rfl, j_shr (n := 59) (by decide) (by omega), show (0 : Int64) = j64 0 from rfl]
  by_cases h : v < 2 ^ 59
  · rw [if_pos (by rw [j64_inj (by omega) (by decide)]; omega), show (4 : Int32) = i32 4 from rfl, j_shl (n := 4) (by decide) (by omega)]
    simp only [jlet]
    obtain ⟨l, g1, g2, g3, g4⟩ := lead_73 (v := v * 2 ^ 4) (y := y + 4) (by omega) (by omega)
    refine ⟨4 + l, by omega, ?_, ?_, ?_⟩
    · rw [← Nat.add_assoc, ← g2, ← i32_add y 4]
    · rw [Nat.pow_add, ← Nat.mul_assoc]; exact g3
    · rw [Nat.pow_add, ← Nat.mul_assoc]; exact g4
  · rw [if_neg (by rw [j64_inj (by omega) (by decide)]; omega)]
    obtain ⟨l, g1, g2, g3, g4⟩ := lead_73 (v := v) (y := y) (by omega) (by omega)
    exact ⟨l, by omega, g2, g3, g4⟩
theorem lead_40 {v y : Nat} (h1 : 2 ^ 47 ≤ v) (h2 : v < 2 ^ 63) : ∃ l, l ≤ 15 ∧ g_Real_lead_40 (j64 v) (i32 y) = i32 (y + l) ∧ 2 ^ 62 ≤ v * 2 ^ l ∧ v * 2 ^ l < 2 ^ 63 := by
  unfold g_Real_lead_40
  rw [show (55 : Int32) = i32 55 from rfl, j_shr (n := 55) (by decide) (by omega), show (0 : Int64) = j64 0 from rfl]
  by_cases h : v < 2 ^ 55
  · rw [if_pos (by rw [j64_inj (by omega) (by decide)]; omega), show (8 : Int32) = i32 8 from rfl, j_shl (n := 8) (by decide) (by omega)]
    simp only [jlet]
    obtain ⟨l, g1, g2, g3, g4⟩ := lead_57 (v := v * 2 ^ 8) (y := y + 8) (by omega) (by omega)
    refine ⟨8 + l, by omega, ?_, ?_, ?_⟩
    · rw [← Nat.add_assoc, ← g2, ← i32_add y 8]
    · rw [Nat.pow_add, ← Nat.mul_assoc]; exact g3
    · rw [Nat.pow_add, ← Nat.mul_assoc]; exact g4
  · rw [if_neg (by rw [j64_inj (by omega) (by decide)]; omega)]
    obtain ⟨l, g1, g2, g3, g4⟩ := lead_57 (v := v) (y := y) (by omega) (by omega)
    exact ⟨l, by omega, g2, g3, g4⟩
theorem lead_23 {v y : Nat} (h1 : 2 ^ 31 ≤ v) (h2 : v < 2 ^ 63) : ∃ l, l ≤ 31 ∧ g_Real_lead_23 (j64 v) (i32 y) = i32 (y + l) ∧ 2 ^ 62 ≤ v * 2 ^ l ∧ v * 2 ^ l < 2 ^ 63 := by
  unfold g_Real_lead_23
  rw [show (47 : Int32) = i32 47 from rfl, j_shr (n := 47) (by decide) (by omega), show (0 : Int64) = j64 0 from rfl]
  by_cases h : v < 2 ^ 47
  · rw [if_pos (by rw [j64_inj (by omega) (by decide)]; omega), show (16 : Int32) = i32 16 from rfl, j_shl (n := 16) (by decide) (by omega)]
    simp only [jlet]
    obtain ⟨l, g1, g2, g3, g4⟩ := lead_40 (v := v * 2 ^ 16) (y := y + 16) (by omega) (by omega)
    refine ⟨16 + l, by omega, ?_, ?_, ?_⟩
    · rw [← Nat.add_assoc, ← g2, ← i32_add y 16]
    · rw [Nat.pow_add, ← Nat.mul_assoc]; exact g3
    · rw [Nat.pow_add, ← Nat.mul_assoc]; exact g4
  · rw [if_neg (by rw [j64_inj (by omega) (by decide)]; omega)]
    obtain ⟨l, g1, g2, g3, g4⟩ := lead_40 (v := v) (y := y) (by omega) (by omega)
    exact ⟨l, by omega, g2, g3, g4⟩
theorem jlet_eq {α β : Type} (x : α) (f : α → β) : jlet x f = f x := rfl
theorem lead_lo {v w : Nat} (h1 : 1 ≤ v) (h : v < 2147483648) (hw : w = v * 4294967296) : g_Real_lead (j64 v) = g_Real_lead_23 (j64 w) (i32 32) := by
  have hs : j64 v <<< (Int32.toInt64 (i32 32) &&& 63) = j64 w := by
    rw [hw]
    exact j_shl (n := 32) (by decide) (by omega)
  unfold g_Real_lead
  rw [show (31 : Int32) = i32 31 from rfl, j_shr (n := 31) (by decide) (by omega), show (0 : Int64) = j64 0 from rfl, if_pos (by rw [j64_inj (by omega) (by decide)]; omega), show (32 : Int32) = i32 32 from rfl, hs, jlet_eq]
theorem lead_hi {v : Nat} (h : 2147483648 ≤ v) (h2 : v < 9223372036854775808) : g_Real_lead (j64 v) = g_Real_lead_23 (j64 v) (i32 0) := by
  unfold g_Real_lead
  rw [show (31 : Int32) = i32 31 from rfl, j_shr (n := 31) (by decide) (by omega), show (0 : Int64) = j64 0 from rfl, if_neg (by rw [j64_inj (by omega) (by decide)]; omega), show (0 : Int32) = i32 0 from rfl]
theorem lead_le {v l : Nat} (h1 : 1 ≤ v) (h : v * 2 ^ l < 9223372036854775808) : l ≤ 62 := by
  by_cases q : l ≤ 62
  · exact q
  · have h2 := Nat.pow_le_pow_right (show 0 < 2 by decide) (show 63 ≤ l by omega)
    have h3 := Nat.le_mul_of_pos_left (2 ^ l) h1
    generalize 2 ^ l = z at *
    generalize v * z = y at *
    omega
theorem lead_of {v : Nat} (h1 : 1 ≤ v) (h2 : v < 2 ^ 63) : ∃ l, l ≤ 62 ∧ g_Real_lead (j64 v) = i32 l ∧ 2 ^ 62 ≤ v * 2 ^ l ∧ v * 2 ^ l < 2 ^ 63 := by
  by_cases h : v < 2147483648
  · obtain ⟨w, hw⟩ : ∃ w, w = v * 4294967296 := ⟨_, rfl⟩
    obtain ⟨l, g1, g2, g3, g4⟩ := lead_23 (v := w) (y := 32) (by omega) (by omega)
    have e : w * 2 ^ l = v * 2 ^ (32 + l) := by rw [hw, Nat.pow_add, ← Nat.mul_assoc]
    rw [e] at g3 g4
    refine ⟨32 + l, lead_le h1 g4, ?_, g3, g4⟩
    rw [lead_lo h1 h hw, g2]
  · obtain ⟨l, g1, g2, g3, g4⟩ := lead_23 (v := v) (y := 0) (by omega) h2
    rw [Nat.zero_add] at g2
    refine ⟨l, by omega, ?_, g3, g4⟩
    rw [lead_hi (by omega) h2, g2]
/-- to the nearest whole number -/
theorem half_of {v d : Nat} (hv : v < 2 ^ 63) (hd : 1 ≤ d) (hd' : d < 2 ^ 31) : g_Numbers_halfEven (j64 v) (i32 d) = j64 (FP.Core.nearest v (2 ^ d)) := by
  have h0 : (0 : Int32) < i32 d := by rw [show (0 : Int32) = i32 0 from rfl, i32_lt (by decide) hd']; omega
  unfold g_Numbers_halfEven
  rw [if_pos h0]
  by_cases h : d ≤ 63
  · rw [if_pos (by rw [show (63 : Int32) = i32 63 from rfl, i32_le hd' (by decide)]; exact h)]
    have p1 : 2 ^ d = 2 * 2 ^ (d - 1) := by rw [← Nat.pow_succ']; congr 1; omega
    have p2 : 2 ^ (d - 1) ≤ 2 ^ 62 := Nat.pow_le_pow_right (by decide) (by omega)
    have p3 : 0 < 2 ^ (d - 1) := Nat.two_pow_pos _
    have p4 := Nat.mod_lt v (show 0 < 2 ^ d by omega)
    have e1 : (1 : Int64) <<< (Int32.toInt64 (i32 d) &&& 63) = j64 (2 ^ d) := by
      rw [show (1 : Int64) = j64 1 from rfl, j_shl (by omega) (by omega), Nat.one_mul]
    have e2 : (1 : Int64) <<< (Int32.toInt64 (i32 d - 1) &&& 63) = j64 (2 ^ (d - 1)) := by
      rw [show i32 d - 1 = i32 (d - 1) from i32_sub (b := 1) hd, show (1 : Int64) = j64 1 from rfl, j_shl (by omega) (by omega), Nat.one_mul]
    have e3 : j64 (2 ^ d) - 1 = j64 (2 ^ d - 1) := j64_sub (b := 1) (by omega)
    have e4 : j64 v &&& (j64 (2 ^ d) - 1) = j64 (v % 2 ^ d) := by rw [e3, j_mask (by omega) (by omega)]
    have q1 : v / 2 ^ d ≤ v := Nat.div_le_self _ _
    simp only [jlet, e1, e2, e4, j_shr (m := v) (n := d) (by omega) (by omega)]
    have ep : g_Numbers_halfEven_58 (j64 (v / 2 ^ d)) = j64 (v / 2 ^ d + 1) := j64_add _ 1
    rw [ep]
    have eo : (j64 (v / 2 ^ d) &&& 1 = 1) ↔ v / 2 ^ d % 2 = 1 := by
      rw [show (1 : Int64) = j64 (2 ^ 1 - 1) from rfl, j_mask (n := 1) (by decide) (by omega), show j64 (2 ^ 1 - 1) = j64 1 from rfl, j64_inj (by omega) (by decide)]
    unfold FP.Core.nearest
    by_cases c1 : 2 ^ (d - 1) < v % 2 ^ d
    · rw [if_pos (show j64 (2 ^ (d - 1)) < j64 (v % 2 ^ d) by rw [j64_lt (by omega) (by omega)]; exact c1), if_neg (show ¬ 2 * (v % 2 ^ d) < 2 ^ d by omega), if_pos (show 2 ^ d < 2 * (v % 2 ^ d) by omega)]
    · rw [if_neg (show ¬ j64 (2 ^ (d - 1)) < j64 (v % 2 ^ d) by rw [j64_lt (by omega) (by omega)]; exact c1)]
      by_cases c2 : v % 2 ^ d = 2 ^ (d - 1)
      · rw [if_pos (show j64 (v % 2 ^ d) = j64 (2 ^ (d - 1)) by rw [c2]), if_neg (show ¬ 2 * (v % 2 ^ d) < 2 ^ d by omega), if_neg (show ¬ 2 ^ d < 2 * (v % 2 ^ d) by omega)]
        by_cases c3 : v / 2 ^ d % 2 = 1
        · rw [if_pos (eo.mpr c3), c3]
        · rw [if_neg (fun z => c3 (eo.mp z)), show v / 2 ^ d % 2 = 0 by omega, Nat.add_zero]
      · rw [if_neg (show ¬ j64 (v % 2 ^ d) = j64 (2 ^ (d - 1)) from fun z => c2 ((j64_inj (by omega) (by omega)).mp z)), if_pos (show 2 * (v % 2 ^ d) < 2 ^ d by omega)]
  · rw [if_neg (by rw [show (63 : Int32) = i32 63 from rfl, i32_le hd' (by decide)]; exact h)]
    have p1 : 2 ^ 64 ≤ 2 ^ d := Nat.pow_le_pow_right (by decide) (by omega)
    unfold FP.Core.nearest
    have e1 : v % 2 ^ d = v := Nat.mod_eq_of_lt (by omega)
    have e2 : v / 2 ^ d = 0 := Nat.div_eq_of_lt (by omega)
    rw [e1, e2, if_pos (by omega)]; rfl
