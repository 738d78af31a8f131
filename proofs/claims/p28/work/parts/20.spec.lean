/-! THE STATE OF BOTH: numbers, bits, and where the class's objects lie; what it says of the class's heap (RC) and of the reference's state (RT) -/
abbrev ST : Type := (Nat → Nat → Nat) × (Nat → Nat → Int64) × (Nat → Nat → Int32)
abbrev AT : Type := Nat → Nat → Nat
def i32 (n : Nat) : Int32 := Int32.ofNat n
/-- a number that may be none: 0 is none -/
def im (n : Nat) : Int32 := i32 n - 1
def uN (S : ST) (k j v : Nat) : ST := (up2 S.1 k j v, S.2)
def uJ (S : ST) (k j : Nat) (v : Int64) : ST := (S.1, up2 S.2.1 k j v, S.2.2)
def uI (S : ST) (k j : Nat) (v : Int32) : ST := (S.1, S.2.1, up2 S.2.2 k j v)
def oA (A : AT) (t : Nat) : Nat → Option Nat
  | 0 => none
  | n + 1 => some (A t n)
/-- the double that the reference holds for the bits of a sort -/
def dv (so : Nat) (b : Int64) : UInt64 := match so with
  | 0 => b.toUInt64
  | 1 => FP.f2d b.toInt32.toUInt32
  | _ => FP.l2d b
/-- bits of a sort, with one NOT-A-NUMBER alone -/
def vb (so : Nat) (b : Int64) : Prop := match so with
  | 0 => b.toUInt64 &&& 0x7fffffffffffffff ≤ 0x7ff0000000000000 ∨ b = 0x7ff8000000000000
  | 1 => b = b.toInt32.toInt64 ∧ (b.toInt32.toUInt32 &&& 0x7fffffff ≤ 0x7f800000 ∨ b = 0x7fc00000)
  | _ => -32768 ≤ b ∧ b ≤ 32767
def cso (S : ST) (c : Nat) : Nat := S.1 3 (S.1 18 (10 * c))
def vso (S : ST) (s : Nat) : Nat := if S.1 2 s = 12 then 2 else S.1 3 s
def rtN : List Nat := [2, 3, 5, 6, 14, 17, 18, 20, 21, 22, 23, 26, 28, 45, 47, 50, 51, 52]
def rtC : List Nat := [1, 16, 44]
def rtM : List Nat := [8, 9, 10, 19, 53]
def rtI : List Nat := [4, 11, 12]
def rtJ : List Nat := [15, 48]
def RT (S : ST) (T : MT) : Prop :=
  (∀ k, k ∈ rtN → ∀ j, T.1 k j = i32 (S.1 k j)) ∧ (∀ k, k ∈ rtC → T.1 k 0 = i32 (S.1 k 0)) ∧ (∀ k, k ∈ rtM → ∀ j, T.1 k j = im (S.1 k j)) ∧ (∀ k, k ∈ rtI → ∀ j, T.1 k j = S.2.2 k j) ∧ (∀ k, k ∈ rtJ → ∀ j, T.2.1 k j = S.2.1 k j) ∧
  (∀ j, T.2.2.1 7 j = dv (S.1 3 (j / 5)) (S.2.1 7 j)) ∧ (∀ j, T.2.2.1 13 j = dv (vso S (j / 64)) (S.2.1 13 j)) ∧ (∀ j, T.2.2.1 24 j = dv (cso S (j / 3)) (S.2.1 24 j)) ∧ (∀ j, T.2.2.1 25 j = dv (cso S (j / 64 / 3)) (S.2.1 25 j)) ∧
  (∀ j, T.2.2.1 27 j = dv (cso S (j / 400)) (S.2.1 27 j)) ∧ (∀ j, T.2.2.1 46 j = dv (vso S (j / 64 % 60)) (S.2.1 46 j)) ∧ (∀ j, T.2.2.1 49 j = dv (cso S (j / 64 % 60 / 3)) (S.2.1 49 j))
/-- how many coefficients, how many states -/
def nfac (kd : Nat) : Nat := match kd with | 0 => 1 | 1 => 2 | 2 => 5 | 3 => 5 | 4 => 5 | 5 => 1 | 6 => 0 | 7 => 1 | 8 => 1 | 9 => 1 | 10 => 1 | 11 => 1 | 12 => 0 | 13 => 0 | 14 => 0 | _ => 2
def nrow (kd : Nat) (ln : Int32) : Nat := match kd with | 0 => 0 | 1 => 1 | 2 => 4 | 3 => 2 | 4 => 2 | 5 => 1 | 6 => ln.toNatClampNeg | 7 => ln.toNatClampNeg | 8 => ln.toNatClampNeg | 9 => 0 | 10 => 0 | 11 => 1 | 12 => 1 | _ => 0
def ringy (kd : Nat) : Bool := kd == 6 || kd == 7 || kd == 8
def rln (S : ST) (s : Nat) : Nat := nrow (S.1 2 s) (S.2.2 4 s)
/-- a ring of n cells at an address, its eldest at e, holds the cells that a flat row has from base on, its eldest at r -/
def ring (C : CT) (a n e : Nat) (f : Nat → Int64) (base r : Nat) : Prop := C.1 a = 21 ∧ C.2.1 a = n ∧ (e = 0 ∨ e < n) ∧ (r = 0 ∨ r < n) ∧ ∀ k, k < n → C.2.2.2.1 900 a ((e + k) % n) = f (base + (r + k) % n)
def RCs (S : ST) (A : AT) (C : CT) (s : Nat) : Prop :=
  (C.1 (A 7 s) = 8 ∧ C.2.2.1 112 (A 7 s) 0 = i32 s ∧ C.2.2.1 113 (A 7 s) 0 = i32 (S.1 2 s) ∧ C.2.2.1 114 (A 7 s) 0 = i32 (S.1 3 s) ∧ C.2.2.1 115 (A 7 s) 0 = S.2.2 4 s ∧ C.2.2.2.2.1 116 (A 7 s) 0 = some (A 5 (S.1 3 s)) ∧
    C.2.2.2.2.1 117 (A 7 s) 0 = some (A 117 s) ∧ C.2.2.2.2.1 118 (A 7 s) 0 = some (A 118 s)) ∧
  (C.2.2.1 119 (A 7 s) 0 = i32 (S.1 5 s) ∧ C.2.2.1 120 (A 7 s) 0 = i32 (S.1 6 s) ∧ (C.2.2.2.2.1 121 (A 7 s) 0 = some (A 121 s) ∧ C.1 (A 121 s) = 7 ∧ C.2.2.2.2.1 96 (A 121 s) 0 = some (A 98 s) ∧ C.2.2.1 97 (A 121 s) 0 = 0 ∧ C.1 (A 98 s) = 21 ∧ C.2.1 (A 98 s) = 1 ∧ C.2.2.2.1 900 (A 98 s) 0 = S.2.1 15 s) ∧ C.2.2.1 122 (A 7 s) 0 = S.2.2 11 s ∧ C.2.2.1 123 (A 7 s) 0 = S.2.2 12 s ∧
    C.2.2.2.2.1 124 (A 7 s) 0 = oA A 1 (S.1 8 s) ∧ C.2.2.1 125 (A 7 s) 0 = im (S.1 9 s) ∧ C.2.2.2.2.1 126 (A 7 s) 0 = oA A 1 (S.1 10 s)) ∧
  (C.1 (A 117 s) = 21 ∧ C.2.1 (A 117 s) = nfac (S.1 2 s) ∧ ∀ k, k < nfac (S.1 2 s) → C.2.2.2.1 900 (A 117 s) k = S.2.1 7 (5 * s + k)) ∧
  (C.1 (A 118 s) = 7 ∧ C.2.2.2.2.1 96 (A 118 s) 0 = some (A 96 s) ∧ C.2.2.1 97 (A 118 s) 0 = i32 (S.1 70 s) ∧ ring C (A 96 s) (rln S s) (S.1 70 s) (S.2.1 13) (64 * s) (S.1 14 s))
def RCl (S : ST) (A : AT) (C : CT) (l : Nat) : Prop :=
  (C.1 (A 4 l) = 5 ∧ C.2.2.1 64 (A 4 l) 0 = i32 (S.1 22 l) ∧ C.2.2.1 65 (A 4 l) 0 = i32 (S.1 21 l) ∧ C.2.2.2.1 66 (A 4 l) 0 = S.2.1 24 l ∧ C.2.2.2.2.1 67 (A 4 l) 0 = some (A 67 l)) ∧
  (C.1 (A 67 l) = 7 ∧ C.2.2.2.2.1 96 (A 67 l) 0 = some (A 68 l) ∧ C.2.2.1 97 (A 67 l) 0 = i32 (S.1 71 l) ∧ ring C (A 68 l) (S.1 23 l) (S.1 71 l) (S.2.1 25) (64 * l) (S.1 26 l))
def RCc (S : ST) (A : AT) (C : CT) (c : Nat) : Prop :=
  (C.1 (A 1 c) = 2 ∧ C.2.2.1 16 (A 1 c) 0 = i32 c ∧ C.2.2.2.2.1 17 (A 1 c) 0 = some (A 17 c) ∧ C.2.2.1 18 (A 1 c) 0 = i32 (S.1 17 c) ∧ C.2.2.2.2.1 19 (A 1 c) 0 = some (A 19 c) ∧ C.2.2.1 20 (A 1 c) 0 = i32 (S.1 20 c) ∧ C.2.2.2.2.1 21 (A 1 c) 0 = some (A 21 c) ∧
    C.2.2.1 22 (A 1 c) 0 = i32 (S.1 28 c % 400) ∧ C.2.2.1 23 (A 1 c) 0 = i32 (min (S.1 28 c) 400) ∧ C.2.2.1 24 (A 1 c) 0 = i32 (S.1 28 c) ∧ C.2.2.2.2.1 25 (A 1 c) 0 = oA A 7 (S.1 19 c)) ∧
  (C.1 (A 17 c) = 37 ∧ C.2.1 (A 17 c) = 10 ∧ ∀ p, p < 10 → C.2.2.2.2.1 900 (A 17 c) p = if p < S.1 17 c then some (A 7 (S.1 18 (10 * c + p))) else none) ∧
  (C.1 (A 19 c) = 34 ∧ C.2.1 (A 19 c) = 3 ∧ ∀ i, i < 3 → C.2.2.2.2.1 900 (A 19 c) i = if i < S.1 20 c then some (A 4 (3 * c + i)) else none) ∧
  (C.1 (A 21 c) = 21 ∧ C.2.1 (A 21 c) = 400 ∧ ∀ j, j < 400 → C.2.2.2.1 900 (A 21 c) j = S.2.1 27 (400 * c + j)) ∧
  ∀ i, i < S.1 20 c → RCl S A C (3 * c + i)
def RCreal (C : CT) (a : Nat) (fb : Int32) (hid : Int64) (te bi : Int32) (sm inf nan : Int64) : Prop :=
  C.1 a = 6 ∧ C.2.2.1 80 a 0 = fb ∧ C.2.2.2.1 81 a 0 = hid ∧ C.2.2.1 82 a 0 = te ∧ C.2.2.1 83 a 0 = bi ∧ C.2.2.2.1 84 a 0 = sm ∧ C.2.2.2.1 85 a 0 = inf ∧ C.2.2.2.1 86 a 0 = nan
def RCb (S : ST) (A : AT) (C : CT) (bx : Nat) : Prop :=
  (C.1 bx = 1 ∧ C.2.2.2.2.1 0 bx 0 = some (A 5 0) ∧ C.2.2.2.2.1 1 bx 0 = some (A 5 1) ∧ C.2.2.2.2.1 2 bx 0 = some (A 5 2) ∧ C.2.2.2.2.1 3 bx 0 = some (A 3 0) ∧ C.2.2.2.2.1 5 bx 0 = some (A 3 1) ∧ C.2.2.2.2.1 7 bx 0 = some (A 3 2) ∧ C.2.2.2.2.1 9 bx 0 = some (A 3 3) ∧ C.2.2.2.2.1 10 bx 0 = some (A 2 0)) ∧
  (C.2.2.1 4 bx 0 = i32 (S.1 1 0) ∧ C.2.2.1 6 bx 0 = i32 (S.1 16 0) ∧ C.2.2.1 8 bx 0 = i32 (S.1 44 0)) ∧
  (C.1 (A 5 2) = 9 ∧ RCreal C (A 5 0) 52 0x10000000000000 2047 1023 (-0x8000000000000000) 0x7ff0000000000000 0x7ff8000000000000 ∧ RCreal C (A 5 1) 23 0x800000 255 127 (-0x80000000) 0x7f800000 0x7fc00000) ∧
  (C.1 (A 3 0) = 37 ∧ C.2.1 (A 3 0) = 60 ∧ ∀ s, s < 60 → C.2.2.2.2.1 900 (A 3 0) s = if s < S.1 1 0 then some (A 7 s) else none) ∧
  (C.1 (A 3 1) = 31 ∧ C.2.1 (A 3 1) = 20 ∧ ∀ c, c < 20 → C.2.2.2.2.1 900 (A 3 1) c = if c < S.1 16 0 then some (A 1 c) else none) ∧
  (C.1 (A 3 2) = 33 ∧ C.2.1 (A 3 2) = 8 ∧ ∀ k, k < 8 → C.2.2.2.2.1 900 (A 3 2) k = if k < S.1 44 0 then some (A 48 k) else none) ∧
  (C.1 (A 3 3) = 31 ∧ C.2.1 (A 3 3) = 20) ∧ C.1 (A 2 0) = 3
/-- which addresses there are -/
def VA (S : ST) (t i : Nat) : Prop := match t with
  | 3 => i < 4 | 5 => i < 3 | 2 => i = 0
  | 7 => i < S.1 1 0 | 117 => i < S.1 1 0 | 118 => i < S.1 1 0 | 96 => i < S.1 1 0 | 121 => i < S.1 1 0 | 98 => i < S.1 1 0
  | 1 => i < S.1 16 0 | 17 => i < S.1 16 0 | 19 => i < S.1 16 0 | 21 => i < S.1 16 0
  | 4 => i / 3 < S.1 16 0 ∧ i % 3 < S.1 20 (i / 3) | 67 => i / 3 < S.1 16 0 ∧ i % 3 < S.1 20 (i / 3) | 68 => i / 3 < S.1 16 0 ∧ i % 3 < S.1 20 (i / 3)
  | 48 => i < S.1 44 0 | 49 => i < S.1 44 0 | 50 => i < S.1 44 0
  | 0 => i < 3
  | _ => False
/-- no two of them are one -/
def AX (S : ST) (A : AT) : Prop := ∀ t i t' i', VA S t i → VA S t' i' → A t i = A t' i' → t = t' ∧ i = i'
def RC (bx : Nat) (S : ST) (A : AT) (C : CT) : Prop := RCb S A C bx ∧ (∀ s, s < S.1 1 0 → RCs S A C s) ∧ (∀ c, c < S.1 16 0 → RCc S A C c) ∧ AX S A
/-! small numbers -/
theorem i32_toInt {n : Nat} (h : n < 2 ^ 31) : (i32 n).toInt = n := Int32.toInt_ofNat_of_lt h
theorem i32_nat {n : Nat} (h : n < 2 ^ 31) : (i32 n).toNatClampNeg = n := by
  show (i32 n).toInt.toNat = n
  rw [i32_toInt h]; rfl
theorem i32_lt {a b : Nat} (ha : a < 2 ^ 31) (hb : b < 2 ^ 31) : i32 a < i32 b ↔ a < b := by
  rw [Int32.lt_iff_toInt_lt, i32_toInt ha, i32_toInt hb]; omega
theorem i32_le {a b : Nat} (ha : a < 2 ^ 31) (hb : b < 2 ^ 31) : i32 a ≤ i32 b ↔ a ≤ b := by
  rw [Int32.le_iff_toInt_le, i32_toInt ha, i32_toInt hb]; omega
theorem i32_inj {a b : Nat} (ha : a < 2 ^ 31) (hb : b < 2 ^ 31) : i32 a = i32 b ↔ a = b := by
  constructor
  · intro h
    have := congrArg Int32.toInt h
    rw [i32_toInt ha, i32_toInt hb] at this
    omega
  · exact fun h => by rw [h]
theorem i32_add (a b : Nat) : i32 a + i32 b = i32 (a + b) := (Int32.ofNat_add _ _).symm
theorem i32_mul (a b : Nat) : i32 a * i32 b = i32 (a * b) := (Int32.ofNat_mul _ _).symm
theorem i32_sub {a b : Nat} (h : b ≤ a) : i32 a - i32 b = i32 (a - b) := by
  have e : i32 a = i32 (a - b) + i32 b := by rw [i32_add]; congr 1; omega
  rw [e, Int32.add_sub_cancel]
theorem i32_nonneg {n : Nat} (h : n < 2 ^ 31) : ¬ i32 n < 0 := by
  rw [Int32.lt_iff_toInt_lt, i32_toInt h]
  have : (0 : Int32).toInt = 0 := rfl
  omega
/-- an int is below 0, or a number -/
theorem i32_or (v : Int32) : v < 0 ∨ ∃ n, n < 2 ^ 31 ∧ v = i32 n := by
  by_cases h : v < 0
  · exact Or.inl h
  · refine Or.inr ⟨v.toInt.toNat, ?_, ?_⟩
    · have := Int32.toInt_lt v
      have h0 : 0 ≤ v.toInt := by
        rw [Int32.lt_iff_toInt_lt] at h
        have : (0 : Int32).toInt = 0 := rfl
        omega
      omega
    · have h0 : 0 ≤ v.toInt := by
        rw [Int32.lt_iff_toInt_lt] at h
        have : (0 : Int32).toInt = 0 := rfl
        omega
      have hl := Int32.toInt_lt v
      apply Int32.toInt_inj.mp
      rw [i32_toInt (by omega)]
      omega
theorem im_succ (n : Nat) : im (n + 1) = i32 n := by
  unfold im
  exact i32_sub (b := 1) (by omega)
theorem im_zero : im 0 = -1 := by decide
theorem jrg_i32 {n j : Nat} (hj : j < n) (hn : n < 2 ^ 31) : jrg n (i32 j) = some j := by
  unfold jrg
  rw [i32_nat (by omega), if_pos]
  intro q
  rcases q with q | q
  · exact i32_nonneg (by omega) q
  · omega
theorem jrg_neg {n : Nat} {v : Int32} (h : v < 0) : jrg n v = none := by
  unfold jrg; rw [if_neg]; exact fun q => q (Or.inl h)
/-! one number changed -/
theorem up2_same {α : Type} (f : Nat → Nat → α) (k j : Nat) (v : α) : up2 f k j v k j = v := by simp [up2]
theorem up2_k {α : Type} (f : Nat → Nat → α) {k k' : Nat} (j : Nat) (v : α) (j' : Nat) (h : k' ≠ k) : up2 f k j v k' j' = f k' j' := by simp [up2, h]
theorem up2_j {α : Type} (f : Nat → Nat → α) (k : Nat) {j j' : Nat} (v : α) (h : j' ≠ j) : up2 f k j v k j' = f k j' := by simp [up2, h]
