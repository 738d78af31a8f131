/-! the class is made; the coupling at the start -/
section BINIT
variable {B q w : Nat} {X : CT}
def c00 (B w : Nat) : CT := (fun _ => 0, fun _ => 0, fun _ _ _ => 0, fun _ _ _ => 0, fun _ _ _ => none, fun _ => false, (B, w))
def rlC (X : CT) (q : Nat) (fb : Int32) (hid : Int64) (te bi : Int32) (sm inf nan : Int64) : CT := csJ (csJ (csJ (csI (csI (csJ (csI X 80 q 0 fb) 81 q 0 hid) 82 q 0 te) 83 q 0 bi) 84 q 0 sm) 85 q 0 inf) 86 q 0 nan
theorem pI_ok {a ci k : Nat} {v : Int32} (h : X.1 a = ci + 1) (h1 : ci < 9) (h2 : k < 16) : cpI X a ci k v = some (csI X (16 * ci + k) a 0 v) := if_pos ⟨h, h1, h2⟩
theorem pJ_ok {a ci k : Nat} {v : Int64} (h : X.1 a = ci + 1) (h1 : ci < 9) (h2 : k < 16) : cpJ X a ci k v = some (csJ X (16 * ci + k) a 0 v) := if_pos ⟨h, h1, h2⟩
theorem pA_ok {a ci k : Nat} {v : Option Nat} (h : X.1 a = ci + 1) (h1 : ci < 9) (h2 : k < 16) : cpA X a ci k v = some (csA X (16 * ci + k) a 0 v) := if_pos ⟨h, h1, h2⟩
theorem rl_of {v1 v2 te bi : Int32} {hid sm inf nan : Int64} (h : X.1 q = 6) (h1 : (1 : Int64) <<< (Int32.toInt64 v1 &&& 63) = hid) (h2 : ((1 : Int32) <<< (v2 &&& 31)) - (1 : Int32) = te) (h3 : te >>> ((1 : Int32) &&& 31) = bi) (h4 : (-1 : Int64) <<< (Int32.toInt64 (v1 + v2) &&& 63) = sm)
    (h5 : (Int32.toInt64 te) <<< (Int32.toInt64 v1 &&& 63) = inf) (h6 : inf ||| (hid >>> (Int32.toInt64 (1 : Int32) &&& 63)) = nan) : c_Real_init q v1 v2 X = some (rlC X q v1 hid te bi sm inf nan) := by
  unfold c_Real_init c_Numbers_init
  rw [obd_some, pI_ok h (by decide) (by decide), obd_some, pJ_ok (X := csI X (16 * 5 + 0) q 0 v1) h (by decide) (by decide), obd_some, h1, h2, pI_ok (X := csJ (csI X (16 * 5 + 0) q 0 v1) (16 * 5 + 1) q 0 hid) h (by decide) (by decide), obd_some]
  have g2 : cgI (csI (csJ (csI X (16 * 5 + 0) q 0 v1) (16 * 5 + 1) q 0 hid) (16 * 5 + 2) q 0 te) q 5 2 = some te := by
    unfold cgI
    rw [if_pos (show (csI (csJ (csI X (16 * 5 + 0) q 0 v1) (16 * 5 + 1) q 0 hid) (16 * 5 + 2) q 0 te).1 q = 5 + 1 from h)]
    exact congrArg some (if_pos ⟨rfl, rfl, rfl⟩)
  rw [g2, obd_some, h3, pI_ok (X := csI (csJ (csI X (16 * 5 + 0) q 0 v1) (16 * 5 + 1) q 0 hid) (16 * 5 + 2) q 0 te) h (by decide) (by decide), obd_some, h4, pJ_ok (X := csI (csI (csJ (csI X (16 * 5 + 0) q 0 v1) (16 * 5 + 1) q 0 hid) (16 * 5 + 2) q 0 te) (16 * 5 + 3) q 0 bi) h (by decide) (by decide), obd_some]
  have g3 : cgI (csJ (csI (csI (csJ (csI X (16 * 5 + 0) q 0 v1) (16 * 5 + 1) q 0 hid) (16 * 5 + 2) q 0 te) (16 * 5 + 3) q 0 bi) (16 * 5 + 4) q 0 sm) q 5 2 = some te := by
    unfold cgI
    rw [if_pos (show (csJ (csI (csI (csJ (csI X (16 * 5 + 0) q 0 v1) (16 * 5 + 1) q 0 hid) (16 * 5 + 2) q 0 te) (16 * 5 + 3) q 0 bi) (16 * 5 + 4) q 0 sm).1 q = 5 + 1 from h)]
    refine congrArg some ?_
    simp [csI, csJ, up3]
  rw [g3, obd_some, h5, pJ_ok (X := csJ (csI (csI (csJ (csI X (16 * 5 + 0) q 0 v1) (16 * 5 + 1) q 0 hid) (16 * 5 + 2) q 0 te) (16 * 5 + 3) q 0 bi) (16 * 5 + 4) q 0 sm) h (by decide) (by decide), obd_some]
  have g4 : cgJ (csJ (csJ (csI (csI (csJ (csI X (16 * 5 + 0) q 0 v1) (16 * 5 + 1) q 0 hid) (16 * 5 + 2) q 0 te) (16 * 5 + 3) q 0 bi) (16 * 5 + 4) q 0 sm) (16 * 5 + 5) q 0 inf) q 5 5 = some inf := by
    unfold cgJ
    rw [if_pos (show (csJ (csJ (csI (csI (csJ (csI X (16 * 5 + 0) q 0 v1) (16 * 5 + 1) q 0 hid) (16 * 5 + 2) q 0 te) (16 * 5 + 3) q 0 bi) (16 * 5 + 4) q 0 sm) (16 * 5 + 5) q 0 inf).1 q = 5 + 1 from h)]
    refine congrArg some ?_
    simp [csI, csJ, up3]
  have g5 : cgJ (csJ (csJ (csI (csI (csJ (csI X (16 * 5 + 0) q 0 v1) (16 * 5 + 1) q 0 hid) (16 * 5 + 2) q 0 te) (16 * 5 + 3) q 0 bi) (16 * 5 + 4) q 0 sm) (16 * 5 + 5) q 0 inf) q 5 1 = some hid := by
    unfold cgJ
    rw [if_pos (show (csJ (csJ (csI (csI (csJ (csI X (16 * 5 + 0) q 0 v1) (16 * 5 + 1) q 0 hid) (16 * 5 + 2) q 0 te) (16 * 5 + 3) q 0 bi) (16 * 5 + 4) q 0 sm) (16 * 5 + 5) q 0 inf).1 q = 5 + 1 from h)]
    refine congrArg some ?_
    simp [csI, csJ, up3]
  rw [g4, obd_some, g5, obd_some, h6, pJ_ok (X := csJ (csJ (csI (csI (csJ (csI X (16 * 5 + 0) q 0 v1) (16 * 5 + 1) q 0 hid) (16 * 5 + 2) q 0 te) (16 * 5 + 3) q 0 bi) (16 * 5 + 4) q 0 sm) (16 * 5 + 5) q 0 inf) h (by decide) (by decide), obd_some]
  rfl
def ix1 (B w : Nat) : CT := cfr (c00 B w) 1 0 (jnfl 0)
def ix2 (B w : Nat) : CT := cfr (ix1 B w) 6 0 (jnfl 5)
def ix3 (B w : Nat) : CT := rlC (ix2 B w) (B + 1) 52 0x10000000000000 2047 1023 (-0x8000000000000000) 0x7ff0000000000000 0x7ff8000000000000
def ix4 (B w : Nat) : CT := csA (ix3 B w) 0 B 0 (some (B + 1))
def ix5 (B w : Nat) : CT := cfr (ix4 B w) 6 0 (jnfl 5)
def ix6 (B w : Nat) : CT := rlC (ix5 B w) (B + 2) 23 0x800000 255 127 (-0x80000000) 0x7f800000 0x7fc00000
def ix7 (B w : Nat) : CT := csA (ix6 B w) 1 B 0 (some (B + 2))
def ix8 (B w : Nat) : CT := cfr (ix7 B w) 9 0 (jnfl 8)
def ix9 (B w : Nat) : CT := csA (ix8 B w) 2 B 0 (some (B + 3))
def ix10 (B w : Nat) : CT := cfr (ix9 B w) 37 60 60
def ix11 (B w : Nat) : CT := csA (ix10 B w) 3 B 0 (some (B + 4))
def ix12 (B w : Nat) : CT := cfr (ix11 B w) 31 20 20
def ix13 (B w : Nat) : CT := csA (ix12 B w) 5 B 0 (some (B + 5))
def ix14 (B w : Nat) : CT := cfr (ix13 B w) 33 8 8
def ix15 (B w : Nat) : CT := csA (ix14 B w) 7 B 0 (some (B + 6))
def ix16 (B w : Nat) : CT := cfr (ix15 B w) 31 20 20
def ix17 (B w : Nat) : CT := csA (ix16 B w) 9 B 0 (some (B + 7))
def ix18 (B w : Nat) : CT := cfr (ix17 B w) 3 0 (jnfl 2)
def ix19 (B w : Nat) : CT := csA (ix18 B w) 10 B 0 (some (B + 8))
theorem tfr_ne {t n s b : Nat} (h : b ≠ (ck X).1) : (cfr X t n s).1 b = X.1 b := if_neg h
theorem cnR_ok {ci n : Nat} (h : n ≤ 1000) (hc : ci < 9) : cnR ci (i32 n) X = some ((ck X).1, cfr X (30 + ci) n n) := by
  unfold cnR
  rw [i32_nat (by omega), if_pos ⟨i32_nonneg (by omega), by omega, hc⟩]
theorem bini_of : c_B_init B (ix1 B w) = some (ix19 B w) := by
  have t1 : (ix1 B w).1 B = 1 := if_pos rfl
  have t2 : (ix2 B w).1 B = 1 := (tfr_ne (show B ≠ B + 1 by omega)).trans t1
  have t5 : (ix5 B w).1 B = 1 := (tfr_ne (show B ≠ B + 2 by omega)).trans t2
  have t8 : (ix8 B w).1 B = 1 := (tfr_ne (show B ≠ B + 3 by omega)).trans t5
  have t10 : (ix10 B w).1 B = 1 := (tfr_ne (show B ≠ B + 4 by omega)).trans t8
  have t12 : (ix12 B w).1 B = 1 := (tfr_ne (show B ≠ B + 5 by omega)).trans t10
  have t14 : (ix14 B w).1 B = 1 := (tfr_ne (show B ≠ B + 6 by omega)).trans t12
  have t16 : (ix16 B w).1 B = 1 := (tfr_ne (show B ≠ B + 7 by omega)).trans t14
  have t18 : (ix18 B w).1 B = 1 := (tfr_ne (show B ≠ B + 8 by omega)).trans t16
  have u2 : (ix2 B w).1 (B + 1) = 6 := if_pos rfl
  have u5 : (ix5 B w).1 (B + 2) = 6 := if_pos rfl
  have r1 : c_Real_init (B + 1) 52 11 (ix2 B w) = some (ix3 B w) := rl_of u2 (by decide) (by decide) (by decide) (by decide) (by decide) (by decide)
  have r2 : c_Real_init (B + 2) 23 8 (ix5 B w) = some (ix6 B w) := rl_of u5 (by decide) (by decide) (by decide) (by decide) (by decide) (by decide)
  have a4 : cpA (ix3 B w) B 0 0 (some (B + 1)) = some (ix4 B w) := pA_ok (show (ix3 B w).1 B = 0 + 1 from t2) (by decide) (by decide)
  have a7 : cpA (ix6 B w) B 0 1 (some (B + 2)) = some (ix7 B w) := pA_ok (show (ix6 B w).1 B = 0 + 1 from t5) (by decide) (by decide)
  have a9 : cpA (ix8 B w) B 0 2 (some (B + 3)) = some (ix9 B w) := pA_ok (show (ix8 B w).1 B = 0 + 1 from t8) (by decide) (by decide)
  have a11 : cpA (ix10 B w) B 0 3 (some (B + 4)) = some (ix11 B w) := pA_ok (show (ix10 B w).1 B = 0 + 1 from t10) (by decide) (by decide)
  have a13 : cpA (ix12 B w) B 0 5 (some (B + 5)) = some (ix13 B w) := pA_ok (show (ix12 B w).1 B = 0 + 1 from t12) (by decide) (by decide)
  have a15 : cpA (ix14 B w) B 0 7 (some (B + 6)) = some (ix15 B w) := pA_ok (show (ix14 B w).1 B = 0 + 1 from t14) (by decide) (by decide)
  have a17 : cpA (ix16 B w) B 0 9 (some (B + 7)) = some (ix17 B w) := pA_ok (show (ix16 B w).1 B = 0 + 1 from t16) (by decide) (by decide)
  have a19 : cpA (ix18 B w) B 0 10 (some (B + 8)) = some (ix19 B w) := pA_ok (show (ix18 B w).1 B = 0 + 1 from t18) (by decide) (by decide)
  have n10 : cnR 7 60 (ix9 B w) = some (B + 4, ix10 B w) := cnR_ok (n := 60) (by decide) (by decide)
  have n12 : cnR 1 20 (ix11 B w) = some (B + 5, ix12 B w) := cnR_ok (n := 20) (by decide) (by decide)
  have n14 : cnR 3 8 (ix13 B w) = some (B + 6, ix14 B w) := cnR_ok (n := 8) (by decide) (by decide)
  have n16 : cnR 1 20 (ix15 B w) = some (B + 7, ix16 B w) := cnR_ok (n := 20) (by decide) (by decide)
  unfold c_B_init cnew
  show obd (c_Real_init (B + 1) 52 11 (ix2 B w)) _ = _
  rw [r1, obd_some, show (ck (ix1 B w)).1 = B + 1 from rfl, a4, obd_some]
  show obd (c_Real_init (B + 2) 23 8 (ix5 B w)) _ = _
  rw [r2, obd_some, show (ck (ix4 B w)).1 = B + 2 from rfl, a7, obd_some]
  show obd (c_Shorts_init (B + 3) (ix8 B w)) _ = _
  unfold c_Shorts_init c_Numbers_init
  rw [obd_some, obd_some]
  show obd (cpA (ix8 B w) B 0 2 (some (B + 3))) _ = _
  rw [a9, obd_some, n10, cbd2_some, a11, obd_some, n12, cbd2_some, a13, obd_some, n14, cbd2_some, a15, obd_some, n16, cbd2_some, a17, obd_some]
  show obd (c_DeadCycles_init (B + 8) (ix18 B w)) _ = _
  unfold c_DeadCycles_init
  rw [obd_some]
  show obd (cpA (ix18 B w) B 0 10 (some (B + 8))) _ = _
  rw [a19, obd_some]
def S00 : ST := (fun k _ => match k with | 8 => 1 | 9 => 1 | 10 => 1 | 19 => 1 | 53 => 1 | _ => 0, fun _ _ => 0, fun _ _ => 0)
def A00 (B : Nat) : AT := fun t i => match t with | 5 => B + 1 + i | 3 => B + 4 + i | 2 => B + 8 + i | _ => B + 1000000 + i
theorem tag_ix (a : Nat) : (ix19 B w).1 a = if a = B + 8 then 3 else if a = B + 7 then 31 else if a = B + 6 then 33 else if a = B + 5 then 31 else if a = B + 4 then 37 else if a = B + 3 then 9 else if a = B + 2 then 6 else if a = B + 1 then 6 else if a = B then 1 else 0 := rfl
theorem len_ix (a : Nat) : (ix19 B w).2.1 a = if a = B + 8 then 0 else if a = B + 7 then 20 else if a = B + 6 then 8 else if a = B + 5 then 20 else if a = B + 4 then 60 else if a = B + 3 then 0 else if a = B + 2 then 0 else if a = B + 1 then 0 else if a = B then 0 else 0 := rfl
theorem ref_ix (k a j : Nat) : (ix19 B w).2.2.2.2.1 k a j = if k = 10 ∧ a = B ∧ j = 0 then some (B + 8) else if k = 9 ∧ a = B ∧ j = 0 then some (B + 7) else if k = 7 ∧ a = B ∧ j = 0 then some (B + 6) else if k = 5 ∧ a = B ∧ j = 0 then some (B + 5) else if k = 3 ∧ a = B ∧ j = 0 then some (B + 4) else if k = 2 ∧ a = B ∧ j = 0 then some (B + 3) else if k = 1 ∧ a = B ∧ j = 0 then some (B + 2) else if k = 0 ∧ a = B ∧ j = 0 then some (B + 1) else none := rfl
theorem int_ix (k a j : Nat) : (ix19 B w).2.2.1 k a j = if k = 83 ∧ a = B + 2 ∧ j = 0 then 127 else if k = 82 ∧ a = B + 2 ∧ j = 0 then 255 else if k = 80 ∧ a = B + 2 ∧ j = 0 then 23 else if k = 83 ∧ a = B + 1 ∧ j = 0 then 1023 else if k = 82 ∧ a = B + 1 ∧ j = 0 then 2047 else if k = 80 ∧ a = B + 1 ∧ j = 0 then 52 else 0 := rfl
theorem lon_ix (k a j : Nat) : (ix19 B w).2.2.2.1 k a j = if k = 86 ∧ a = B + 2 ∧ j = 0 then 0x7fc00000 else if k = 85 ∧ a = B + 2 ∧ j = 0 then 0x7f800000 else if k = 84 ∧ a = B + 2 ∧ j = 0 then (-0x80000000) else if k = 81 ∧ a = B + 2 ∧ j = 0 then 0x800000 else if k = 86 ∧ a = B + 1 ∧ j = 0 then 0x7ff8000000000000 else if k = 85 ∧ a = B + 1 ∧ j = 0 then 0x7ff0000000000000 else if k = 84 ∧ a = B + 1 ∧ j = 0 then (-0x8000000000000000) else if k = 81 ∧ a = B + 1 ∧ j = 0 then 0x10000000000000 else 0 := rfl
theorem wf_00 (E : Nat) : WF E S00 := by
  refine ⟨⟨Nat.zero_le _, Nat.zero_le _, Nat.zero_le _⟩, fun s h => absurd h (Nat.not_lt_zero _), fun c h => absurd h (Nat.not_lt_zero _), fun s _ _ => ⟨fun _ _ => rfl, fun _ _ _ _ => rfl, fun _ _ => rfl⟩, fun c _ _ => ⟨rfl, rfl, fun _ _ => rfl, fun _ _ => rfl, fun _ _ => rfl, fun _ _ _ _ => rfl⟩, fun _ _ => ⟨rfl, rfl⟩, fun _ _ => rfl, fun _ _ => rfl, fun _ _ => rfl⟩
theorem ax_00 : AX S00 (A00 B) := by
  have key : ∀ t i, VA S00 t i → (t = 3 ∧ i < 4) ∨ (t = 5 ∧ i < 3) ∨ (t = 2 ∧ i = 0) ∨ (t = 0 ∧ i < 3) := fun t i h => by
    unfold VA at h
    split at h
    · exact Or.inl ⟨rfl, h⟩
    · exact Or.inr (Or.inl ⟨rfl, h⟩)
    · exact Or.inr (Or.inr (Or.inl ⟨rfl, h⟩))
    all_goals first
      | exact absurd h (Nat.not_lt_zero _)
      | exact absurd h.1 (Nat.not_lt_zero _)
      | exact Or.inr (Or.inr (Or.inr ⟨rfl, h⟩))
      | exact h.elim
  intro t i t' i' h h' e
  have p3 : ∀ i, A00 B 3 i = B + 4 + i := fun _ => rfl
  have p5 : ∀ i, A00 B 5 i = B + 1 + i := fun _ => rfl
  have p2 : ∀ i, A00 B 2 i = B + 8 + i := fun _ => rfl
  have p0 : ∀ i, A00 B 0 i = B + 1000000 + i := fun _ => rfl
  rcases key t i h with ⟨rfl, h1⟩ | ⟨rfl, h1⟩ | ⟨rfl, h1⟩ | ⟨rfl, h1⟩ <;> rcases key t' i' h' with ⟨rfl, h2⟩ | ⟨rfl, h2⟩ | ⟨rfl, h2⟩ | ⟨rfl, h2⟩ <;> simp only [p3, p5, p2, p0] at e <;> omega
theorem ix_ck : ck (ix19 B w) = (B + 9, w + jnfl 0 + jnfl 5 + jnfl 5 + jnfl 8 + 60 + 20 + 8 + 20 + jnfl 2) := rfl
theorem ix_no : jnfl 0 + jnfl 5 + jnfl 5 + jnfl 8 + 60 + 20 + 8 + 20 + jnfl 2 ≤ 1000 := by decide
theorem ix_Z {a : Nat} : (ix19 B w).2.2.2.2.2.1 a = false := rfl
theorem tag_no {a : Nat} (h : ¬ (B ≤ a ∧ a ≤ B + 8)) : (ix19 B w).1 a = 0 := by
  rw [tag_ix, if_neg (by omega), if_neg (by omega), if_neg (by omega), if_neg (by omega), if_neg (by omega), if_neg (by omega), if_neg (by omega), if_neg (by omega), if_neg (by omega)]
theorem cw_00 {B0 : Nat} (h0 : B0 ≤ B) : CW B0 (ix19 B w) := by
  refine ⟨?_, fun a ha => ?_, fun a ha k j => ⟨?_, ?_, ?_, ix_Z⟩⟩
  · rw [ix_ck]; show B0 ≤ B + 9; omega
  · rw [ix_ck]
    show B0 ≤ a ∧ a < B + 9
    by_cases h : B ≤ a ∧ a ≤ B + 8
    · omega
    · exact absurd (tag_no h) ha
  all_goals
    rw [ix_ck] at ha
    have ha : B + 9 ≤ a := ha
  · rw [int_ix, if_neg (by omega), if_neg (by omega), if_neg (by omega), if_neg (by omega), if_neg (by omega), if_neg (by omega)]
  · rw [lon_ix, if_neg (by omega), if_neg (by omega), if_neg (by omega), if_neg (by omega), if_neg (by omega), if_neg (by omega), if_neg (by omega), if_neg (by omega)]
  · rw [ref_ix, if_neg (by omega), if_neg (by omega), if_neg (by omega), if_neg (by omega), if_neg (by omega), if_neg (by omega), if_neg (by omega), if_neg (by omega)]
theorem ref_37 : (ix19 B w).2.2.2.2.1 37 (B + 8) 0 = none := by
  rw [ref_ix, if_neg (by omega), if_neg (by omega), if_neg (by omega), if_neg (by omega), if_neg (by omega), if_neg (by omega), if_neg (by omega), if_neg (by omega)]
theorem ref_38 : (ix19 B w).2.2.2.2.1 38 (B + 8) 0 = none := by
  rw [ref_ix, if_neg (by omega), if_neg (by omega), if_neg (by omega), if_neg (by omega), if_neg (by omega), if_neg (by omega), if_neg (by omega), if_neg (by omega)]
theorem ro_00 {D : Nat} (hw : w ≤ 1000) : RO D B S00 (A00 (B + 1)) (ix19 (B + 1) w) := by
  intro z hz
  have e37 : (ix19 (B + 1) w).2.2.2.2.1 37 (A00 (B + 1) 2 0) 0 = none := ref_37
  rw [e37] at hz
  have hz : z = 1 := hz
  have q1 : S00.1 1 0 = 0 := rfl
  have q2 : S00.1 16 0 = 0 := rfl
  have q3 : S00.1 44 0 = 0 := rfl
  have q4 : sm (fun c => 3 - S00.1 20 c) 0 = 0 := rfl
  have q5 := ix_no
  rw [ix_ck, q1, q2, q3, q4, hz]
  dsimp only
  omega
theorem rcb_00 : RCb S00 (A00 B) (ix19 B w) B := by
  have q5 : ∀ i, A00 B 5 i = B + 1 + i := fun _ => rfl
  have q3 : ∀ i, A00 B 3 i = B + 4 + i := fun _ => rfl
  have q2 : ∀ i, A00 B 2 i = B + 8 + i := fun _ => rfl
  have z0 : ∀ k, k ∈ [1, 16, 44] → i32 (S00.1 k 0) = 0 := by decide
  unfold RCb RCreal
  rw [q5, q5, q5, q3, q3, q3, q3, q2, z0 1 (by decide), z0 16 (by decide), z0 44 (by decide)]
  simp only [tag_ix, len_ix, int_ix, lon_ix, ref_ix]
  refine ⟨?_, ?_, ?_, ?_, ?_, ?_, ?_, ?_⟩
  · refine ⟨?_, ?_, ?_, ?_, ?_, ?_, ?_, ?_, ?_⟩ <;> simp
  · refine ⟨?_, ?_, ?_⟩ <;> simp
  · refine ⟨?_, ⟨?_, ?_, ?_, ?_, ?_, ?_, ?_, ?_⟩, ?_, ?_, ?_, ?_, ?_, ?_, ?_, ?_⟩ <;> simp
  · refine ⟨?_, ?_, fun s hs => ?_⟩
    · simp
    · simp
    · rw [if_neg (show ¬ s < S00.1 1 0 from Nat.not_lt_zero _)]; simp
  · refine ⟨?_, ?_, fun s hs => ?_⟩
    · simp
    · simp
    · rw [if_neg (show ¬ s < S00.1 16 0 from Nat.not_lt_zero _)]; simp
  · refine ⟨?_, ?_, fun s hs => ?_⟩
    · simp
    · simp
    · rw [if_neg (show ¬ s < S00.1 44 0 from Nat.not_lt_zero _)]; simp
  · refine ⟨?_, ?_⟩ <;> simp
  · simp
/-- the coupling at the start, the class's bench one behind the ground -/
theorem jj_00 {G : GT} {E : Nat} {ad : Nat → Nat} (hw : w ≤ 1000) (ha : ∀ k, k ∈ marrs → ad k = B) : JJ G E B (B + 1) B ad S00 (A00 (B + 1)) (ix19 (B + 1) w) (tOf S00) :=
  ⟨⟨cw_00 (by omega), ⟨⟨tag_no (by omega), fun k hk => by rw [ha k hk]; exact tag_no (by omega)⟩, by rw [ix_ck]; show B < B + 1 + 9; omega, fun k hk => by rw [ha k hk, ix_ck]; show B < B + 1 + 9; omega⟩, ro_00 hw⟩, ⟨rcb_00, fun s h => absurd h (Nat.not_lt_zero _), fun c h => absurd h (Nat.not_lt_zero _), ax_00⟩, rt_tOf _, wf_00 E, fun k h => absurd h (Nat.not_lt_zero _), Or.inl ⟨ref_37, ref_38, ix_Z⟩⟩
end BINIT
