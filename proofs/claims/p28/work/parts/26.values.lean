/-! values: bits and doubles -/
def n64 (x : UInt64) : Prop := x &&& 0x7fffffffffffffff ≤ 0x7ff0000000000000
def n32 (x : UInt32) : Prop := x &&& 0x7fffffff ≤ 0x7f800000
theorem n64_iff (x : UInt64) : n64 x ↔ FP.Core.val64 x ≠ .nan := by
  rw [FP.Core.ne_nan]
  unfold n64
  rw [UInt64.le_iff_toNat_le, UInt64.toNat_and]
  have : (0x7fffffffffffffff : UInt64).toNat = 2 ^ 63 - 1 := by decide
  rw [this, Nat.and_two_pow_sub_one_eq_mod]
  have : (0x7ff0000000000000 : UInt64).toNat = 9218868437227405312 := by decide
  rw [this]
theorem n32_iff (x : UInt32) : n32 x ↔ FP.Core.val32 x ≠ .nan := by
  rw [FP.Core.ne_nan32]
  unfold n32
  rw [UInt32.le_iff_toNat_le, UInt32.toNat_and]
  have : (0x7fffffff : UInt32).toNat = 2 ^ 31 - 1 := by decide
  rw [this, Nat.and_two_pow_sub_one_eq_mod]
  have : (0x7f800000 : UInt32).toNat = 2139095040 := by decide
  rw [this]
theorem jnD_pos {x : UInt64} (h : n64 x) : jnD x = some x := if_pos h
theorem jnF_pos {x : UInt32} (h : n32 x) : jnF x = some x := if_pos h
theorem cmp_self {x : UInt64} (h : n64 x) : Op.cmpValue (FP.dcmp x x) .l = 0 := by
  have : FP.dcmp x x = some .eq := FP.Core.dcmp_self ((n64_iff x).mp h)
  rw [this]; rfl
theorem cmp_nan {x : UInt64} (h : ¬ n64 x) : ¬ Op.cmpValue (FP.dcmp x x) .l = 0 := by
  have : FP.dcmp x x = none := (FP.Core.dcmp_none x x).mpr (Or.inl (by
    by_cases q : FP.Core.val64 x = .nan
    · exact q
    · exact absurd ((n64_iff x).mpr q) h))
  rw [this]; decide
theorem fcmp_self1 {x : UInt32} (h : n32 x) : Op.cmpValue (FP.fcmp x x) .l = 0 := by
  have : FP.fcmp x x = some .eq := FP.Core.fcmp_self ((n32_iff x).mp h)
  rw [this]; rfl
theorem f2d_n {f : UInt32} (h : n32 f) : n64 (FP.f2d f) := by
  rw [n64_iff]
  intro q
  have h1 := FP.f2d_nan f
  have h2 : FP.dIsNaN (FP.f2d f) = true := by
    rw [FP.Core.dIsNaN_iff]; exact q
  rw [h2] at h1
  have h3 := (FP.Core.fIsNaN_iff f).mp h1.symm
  exact (n32_iff f).mp h h3
theorem d2f_f2d' {f : UInt32} (h : n32 f) : FP.d2f (FP.f2d f) = f := by
  have h0 := (n32_iff f).mp h
  have hf : FP.fIsNaN f = false := by
    cases e : FP.fIsNaN f with
    | false => rfl
    | true => exact absurd ((FP.Core.fIsNaN_iff f).mp e) h0
  have hd : FP.dIsNaN (FP.f2d f) = false := by rw [FP.f2d_nan]; exact hf
  rw [FP.d2f_core hd, FP.f2d_core hf]
  exact FP.Core.d2f_f2d h0
theorem i64_bound {b : Int64} (h1 : -32768 ≤ b) (h2 : b ≤ 32767) : -32768 ≤ b.toInt ∧ b.toInt ≤ 32767 := by
  rw [Int64.le_iff_toInt_le] at h1 h2
  have e1 : (-32768 : Int64).toInt = -32768 := by decide
  have e2 : (32767 : Int64).toInt = 32767 := by decide
  rw [e1] at h1
  rw [e2] at h2
  exact ⟨h1, h2⟩
theorem d2l_l2d' {b : Int64} (h1 : -32768 ≤ b) (h2 : b ≤ 32767) : FP.d2l (FP.l2d b) = b := by
  have := i64_bound h1 h2
  exact FP.Core.d2l_l2d (by omega)
theorem l2d_n (b : Int64) : n64 (FP.l2d b) := by
  rw [n64_iff]
  exact (FP.Core.ne_nan _).mpr (by have := FP.Core.l2d_mag b; show (FP.Core.l2d b).toNat % 2 ^ 63 ≤ _; omega)
theorem i32_ne {a b : Nat} (ha : a < 2 ^ 31) (hb : b < 2 ^ 31) (h : a ≠ b) : ¬ i32 a = i32 b := fun q => h ((i32_inj ha hb).mp q)
theorem dv0 (b : Int64) : dv 0 b = b.toUInt64 := rfl
theorem dv1 (b : Int64) : dv 1 b = FP.f2d b.toInt32.toUInt32 := rfl
theorem dv2 (b : Int64) : dv 2 b = FP.l2d b := rfl
/-- the reference tells a value as the class holds it -/
theorem bitsOf_dv {so : Nat} {b : Int64} (h3 : so < 3) (hv : vb so b) : g_R_bitsOf (i32 so) (dv so b) = some b := by
  unfold g_R_bitsOf
  match so, h3, hv with
  | 0, _, hv =>
    rw [dv0]
    rcases hv with hv | rfl
    · rw [if_pos (cmp_self hv), if_pos (by rfl)]
      unfold g_JDouble_doubleToLongBits g_JDouble_isNaN
      rw [if_pos (cmp_self hv), if_neg (by decide)]
      rfl
    · rw [if_neg (cmp_nan (by unfold n64; decide)), if_pos (by rfl)]
  | 1, _, hv =>
    rw [dv1]
    rcases hv with ⟨e, hv | rfl⟩
    · rw [if_pos (cmp_self (f2d_n hv)), if_neg (by decide : ¬ i32 1 = 0), if_pos (by rfl), d2f_f2d' hv, jnF_pos hv, obd_some]
      unfold g_JFloat_floatToIntBits g_JFloat_isNaN
      rw [if_pos (fcmp_self1 hv), if_neg (by decide)]
      exact congrArg some e.symm
    · rw [if_neg (cmp_nan (by unfold n64; decide +kernel)), if_neg (by decide : ¬ i32 1 = 0)]
  | 2, _, hv =>
    rw [dv2, if_pos (cmp_self (l2d_n b)), if_neg (by decide : ¬ i32 2 = 0), if_neg (by decide : ¬ i32 2 = 1), d2l_l2d' hv.1 hv.2]
/-- masks -/
theorem and63 (b : Int64) : (b &&& 9223372036854775807).toInt = ((b.toUInt64.toNat % 2 ^ 63 : Nat) : Int) := by
  have h1 : (b &&& 9223372036854775807).toBitVec.toNat = b.toUInt64.toNat % 2 ^ 63 := by
    rw [Int64.toBitVec_and, BitVec.toNat_and]
    have : (9223372036854775807 : Int64).toBitVec.toNat = 2 ^ 63 - 1 := by decide
    rw [this, Nat.and_two_pow_sub_one_eq_mod]
    rfl
  show (b &&& 9223372036854775807).toBitVec.toInt = _
  rw [BitVec.toInt_eq_toNat_of_lt (by rw [h1]; have := Nat.mod_lt b.toUInt64.toNat (show 0 < 2 ^ 63 by decide); omega), h1]
theorem and31L (b : Int64) : (b &&& 2147483647).toInt = ((b.toInt32.toUInt32.toNat % 2 ^ 31 : Nat) : Int) := by
  have h1 : (b &&& 2147483647).toBitVec.toNat = b.toInt32.toUInt32.toNat % 2 ^ 31 := by
    rw [Int64.toBitVec_and, BitVec.toNat_and]
    have : (2147483647 : Int64).toBitVec.toNat = 2 ^ 31 - 1 := by decide
    rw [this, Nat.and_two_pow_sub_one_eq_mod]
    have e : b.toInt32.toUInt32.toNat = b.toBitVec.toNat % 2 ^ 32 := by
      show b.toInt32.toBitVec.toNat = _
      rw [Int64.toBitVec_toInt32, BitVec.signExtend_eq_setWidth_of_le _ (by decide), BitVec.toNat_setWidth]
    rw [e]
    omega
  show (b &&& 2147483647).toBitVec.toInt = _
  rw [BitVec.toInt_eq_toNat_of_lt (by rw [h1]; have := Nat.mod_lt b.toInt32.toUInt32.toNat (show 0 < 2 ^ 31 by decide); omega), h1]
theorem and31 (i : Int32) : (i &&& 2147483647).toInt = ((i.toUInt32.toNat % 2 ^ 31 : Nat) : Int) := by
  have h1 : (i &&& 2147483647).toBitVec.toNat = i.toUInt32.toNat % 2 ^ 31 := by
    rw [Int32.toBitVec_and, BitVec.toNat_and]
    have : (2147483647 : Int32).toBitVec.toNat = 2 ^ 31 - 1 := by decide
    rw [this, Nat.and_two_pow_sub_one_eq_mod]
    rfl
  show (i &&& 2147483647).toBitVec.toInt = _
  rw [BitVec.toInt_eq_toNat_of_lt (by rw [h1]; have := Nat.mod_lt i.toUInt32.toNat (show 0 < 2 ^ 31 by decide); omega), h1]
theorem n64_mask (b : Int64) : b &&& 9223372036854775807 ≤ 9218868437227405312 ↔ n64 b.toUInt64 := by
  rw [Int64.le_iff_toInt_le, and63, n64_iff, FP.Core.ne_nan]
  have : (9218868437227405312 : Int64).toInt = 9218868437227405312 := by decide
  rw [this]
  omega
theorem n32_mask (i : Int32) : i &&& 2147483647 ≤ 2139095040 ↔ n32 i.toUInt32 := by
  rw [Int32.le_iff_toInt_le, and31, n32_iff, FP.Core.ne_nan32]
  have : (2139095040 : Int32).toInt = 2139095040 := by decide
  rw [this]
  omega
theorem n32_maskL (b : Int64) : b &&& 2147483647 ≤ 2139095040 ↔ n32 b.toInt32.toUInt32 := by
  rw [Int64.le_iff_toInt_le, and31L, n32_iff, FP.Core.ne_nan32]
  have : (2139095040 : Int64).toInt = 2139095040 := by decide
  rw [this]
  omega
/-- the bits as they are told -/
noncomputable def clean (so : Nat) (b : Int64) : Int64 := match so with
  | 0 => @ite _ (n64 b.toUInt64) (Classical.propDecidable _) b 0x7ff8000000000000
  | 1 => @ite _ (n32 b.toInt32.toUInt32) (Classical.propDecidable _) b 0x7fc00000
  | _ => b
theorem clean0_pos {b : Int64} (q : n64 b.toUInt64) : clean 0 b = b := if_pos q
theorem clean0_neg {b : Int64} (q : ¬ n64 b.toUInt64) : clean 0 b = 0x7ff8000000000000 := if_neg q
theorem clean1_pos {b : Int64} (q : n32 b.toInt32.toUInt32) : clean 1 b = b := if_pos q
theorem clean1_neg {b : Int64} (q : ¬ n32 b.toInt32.toUInt32) : clean 1 b = 0x7fc00000 := if_neg q
/-- whether bits tell a value of a sort -/
def hold (so : Nat) (b : Int64) : Prop := match so with
  | 0 => True
  | 1 => b = b.toInt32.toInt64
  | _ => -32768 ≤ b ∧ b ≤ 32767
theorem clean_vb {so : Nat} {b : Int64} (h : hold so b) : vb so (clean so b) := by
  match so, h with
  | 0, _ =>
    by_cases q : n64 b.toUInt64
    · rw [clean0_pos q]; exact Or.inl q
    · rw [clean0_neg q]; exact Or.inr rfl
  | 1, h =>
    by_cases q : n32 b.toInt32.toUInt32
    · rw [clean1_pos q]; exact ⟨h, Or.inl q⟩
    · rw [clean1_neg q]; exact ⟨by decide, Or.inr rfl⟩
  | _ + 2, h => exact h
theorem valueOf_clean {so : Nat} {b : Int64} (h3 : so < 3) (h : hold so b) : g_R_valueOf (i32 so) b = some (dv so (clean so b)) := by
  unfold g_R_valueOf
  match so, h3, h with
  | 0, _, _ =>
    rw [if_pos (by rfl)]
    by_cases q : n64 b.toUInt64
    · rw [if_pos ((n64_mask b).mpr q), clean0_pos q]
      have : jl2d b = some b.toUInt64 := by
        unfold jl2d
        rw [if_pos]
        unfold vn_snl2d
        have hq : ¬ (b.toUInt64 &&& 0x7fffffffffffffff > 0x7ff0000000000000) := by
          unfold n64 at q
          exact UInt64.not_lt.mpr q
        simp [hq]
      rw [this, obd_some]
      rfl
    · rw [if_neg (fun z => q ((n64_mask b).mp z)), clean0_neg q]
      decide
  | 1, _, h =>
    rw [if_neg (by decide : ¬ i32 1 = 0), if_pos (by rfl)]
    by_cases q : n32 b.toInt32.toUInt32
    · rw [if_pos ((n32_mask _).mpr q), clean1_pos q]
      have : ji2f b.toInt32 = some b.toInt32.toUInt32 := by
        unfold ji2f
        rw [if_pos]
        unfold vn_sni2f
        have hq : ¬ (b.toInt32.toUInt32 &&& 0x7fffffff > 0x7f800000) := by
          unfold n32 at q
          exact UInt32.not_lt.mpr q
        simp [hq]
      rw [this, obd_some, jnD_pos (f2d_n q), obd_some]
      rfl
    · rw [if_neg (fun z => q ((n32_mask _).mp z)), clean1_neg q]
      decide +kernel
  | 2, _, _ =>
    rw [if_neg (by decide : ¬ i32 2 = 0), if_neg (by decide : ¬ i32 2 = 1)]
    rfl
theorem isValue_hold {so : Nat} (b : Int64) (h3 : so < 3) : g_R_isValue (i32 so) b = true ↔ hold so b := by
  unfold g_R_isValue g_R_isValue_47
  match so, h3 with
  | 0, _ =>
    rw [if_neg (by decide : ¬ i32 0 = 2), if_pos (by rfl)]
    exact ⟨fun _ => trivial, fun _ => rfl⟩
  | 1, _ =>
    rw [if_neg (by decide : ¬ i32 1 = 2), if_neg (by decide : ¬ i32 1 = 0)]
    show _ ↔ b = b.toInt32.toInt64
    have e1 : (-2147483648 : Int64).toInt = -2147483648 := by decide
    have e2 : (2147483647 : Int64).toInt = 2147483647 := by decide
    have e3 : (b.toInt32.toInt64).toInt = b.toInt.bmod (2 ^ 32) := by
      rw [Int32.toInt_toInt64, Int64.toInt_toInt32]
    constructor
    · intro h
      apply Int64.toInt_inj.mp
      rw [e3]
      split at h
      · cases h
      · rename_i q1
        split at h
        · cases h
        · rename_i q2
          rw [Int64.lt_iff_toInt_lt, e1] at q1
          rw [Int64.lt_iff_toInt_lt, e2] at q2
          exact (Int.bmod_eq_of_le (by omega) (by omega)).symm
    · intro h
      have h1 := congrArg Int64.toInt h
      rw [e3] at h1
      have l1 := Int.le_bmod (x := b.toInt) (m := 2 ^ 32) (by decide)
      have l2 := Int.bmod_lt (x := b.toInt) (m := 2 ^ 32) (by decide)
      rw [if_neg (by rw [Int64.lt_iff_toInt_lt, e1]; omega), if_neg (by rw [Int64.lt_iff_toInt_lt, e2]; omega)]
  | 2, _ =>
    rw [if_pos (by rfl)]
    show _ ↔ -32768 ≤ b ∧ b ≤ 32767
    by_cases q1 : b < -32768
    · rw [if_pos q1]
      exact ⟨fun h => (by cases h), fun h => absurd q1 (Int64.not_lt.mpr h.1)⟩
    · rw [if_neg q1]
      by_cases q2 : 32767 < b
      · rw [if_pos q2]
        exact ⟨fun h => (by cases h), fun h => absurd q2 (Int64.not_lt.mpr h.2)⟩
      · rw [if_neg q2]
        exact ⟨fun _ => ⟨Int64.not_lt.mp q1, Int64.not_lt.mp q2⟩, fun _ => rfl⟩
