/-! what always holds of the state; the coupling -/
/-- a length that a kind allows, as a number -/
def lenok (kd : Nat) (ln : Int32) : Prop :=
  ((kd = 6 ∨ kd = 8) → 1 ≤ ln.toInt ∧ ln.toInt ≤ 64) ∧ (kd = 7 → 1 ≤ ln.toInt ∧ ln.toInt ≤ 32) ∧ (12 ≤ kd ∧ kd ≤ 14 → 2 ≤ ln.toInt ∧ ln.toInt ≤ 8)
def WFs (S : ST) (s : Nat) : Prop :=
  (S.1 2 s < 16 ∧ S.1 3 s < 3 ∧ lenok (S.1 2 s) (S.2.2 4 s)) ∧ (S.1 5 s ≤ 2 ∧ S.1 6 s ≤ 1) ∧ (S.1 3 s < 2 → S.1 5 s = 0 ∧ S.1 6 s = 0 ∧ S.2.1 15 s = 0) ∧
  (S.1 8 s = 0 → S.1 9 s = 0 ∧ S.1 10 s = 0) ∧ (∀ c, S.1 8 s = c + 1 → c < S.1 16 0 ∧ ∃ p, S.1 9 s = p + 1 ∧ p < S.1 17 c ∧ S.1 18 (10 * c + p) = s) ∧
  (∀ d, S.1 10 s = d + 1 → S.1 2 s = 15 ∧ d < S.1 16 0 ∧ S.1 19 d = s + 1 ∧ ∃ c, S.1 8 s = c + 1 ∧ d < c ∧ cso S d = S.1 3 s) ∧
  (S.1 14 s = 0 ∨ S.1 14 s < rln S s) ∧ (ringy (S.1 2 s) = false → S.1 14 s = 0 ∧ S.1 70 s = 0) ∧
  (∀ k, k < 5 → vb (S.1 3 s) (S.2.1 7 (5 * s + k))) ∧ (∀ k, k < 64 → vb (vso S s) (S.2.1 13 (64 * s + k))) ∧ (∀ k, k < 64 → rln S s ≤ k → S.2.1 13 (64 * s + k) = 0) ∧ (∀ k, k < 5 → nfac (S.1 2 s) ≤ k → S.2.1 7 (5 * s + k) = 0) ∧
  (S.1 2 s = 12 → 0 ≤ S.2.1 13 (64 * s) ∧ S.2.1 13 (64 * s) < (S.2.2 4 s).toInt64)
def rate (kd : Nat) : Bool := kd == 12 || kd == 13 || kd == 14
def WFl (S : ST) (c l : Nat) : Prop :=
  S.1 22 l ≤ S.1 21 l ∧ S.1 21 l < S.1 17 c ∧ 1 ≤ S.1 23 l ∧ S.1 23 l ≤ 64 ∧ S.1 26 l < S.1 23 l ∧ vb (cso S c) (S.2.1 24 l) ∧ (∀ k, k < 64 → vb (cso S c) (S.2.1 25 (64 * l + k))) ∧ (∀ p, S.1 22 l ≤ p → p ≤ S.1 21 l → rate (S.1 2 (S.1 18 (10 * c + p))) = false)
def spread (kd : Nat) : Bool := kd == 13 || kd == 14
def cnt (f : Nat → Bool) : Nat → Nat
  | 0 => 0
  | n + 1 => cnt f n + (if f n then 1 else 0)
def WFc (E : Nat) (S : ST) (c : Nat) : Prop :=
  (S.1 17 c ≤ 10 ∧ S.1 20 c ≤ 3 ∧ cnt (fun p => spread (S.1 2 (S.1 18 (10 * c + p)))) (S.1 17 c) ≤ 2) ∧
  (∀ p, p < S.1 17 c → S.1 18 (10 * c + p) < S.1 1 0 ∧ S.1 8 (S.1 18 (10 * c + p)) = c + 1 ∧ S.1 9 (S.1 18 (10 * c + p)) = p + 1 ∧ S.1 3 (S.1 18 (10 * c + p)) = cso S c) ∧
  (∀ s, S.1 19 c = s + 1 → s < S.1 1 0 ∧ S.1 10 s = c + 1 ∧ S.1 17 c ≠ 0 ∧ ∀ p, p < S.1 17 c → rate (S.1 2 (S.1 18 (10 * c + p))) = false) ∧
  (S.1 17 c = 0 → S.1 20 c = 0 ∧ S.1 28 c = 0 ∧ S.1 18 (10 * c) = 0 ∧ (∀ j, j < 3 → S.2.1 24 (3 * c + j) = 0) ∧ (∀ j, j < 192 → S.2.1 25 (192 * c + j) = 0) ∧ (∀ j, j < 400 → S.2.1 27 (400 * c + j) = 0) ∧ ∀ k, k < 8 → ∀ j, j < 192 → S.2.1 49 (3840 * k + 192 * c + j) = 0) ∧
  (∀ i, i < S.1 20 c → WFl S c (3 * c + i)) ∧ (∀ j, j < 400 → vb (cso S c) (S.2.1 27 (400 * c + j))) ∧ S.1 28 c ≤ min E 4000000
/-- beyond what there is nothing stands -/
def WFz (S : ST) : Prop :=
  (∀ s, S.1 1 0 ≤ s → s < 60 → (∀ j, j < 64 → S.2.1 13 (64 * s + j) = 0) ∧ (∀ k, k < 8 → ∀ j, j < 64 → S.2.1 46 (3840 * k + 64 * s + j) = 0) ∧ (∀ j, j < 5 → S.2.1 7 (5 * s + j) = 0)) ∧
  (∀ c, S.1 16 0 ≤ c → c < 20 → S.1 17 c = 0 ∧ S.1 18 (10 * c) = 0 ∧ (∀ j, j < 3 → S.2.1 24 (3 * c + j) = 0) ∧ (∀ j, j < 192 → S.2.1 25 (192 * c + j) = 0) ∧ (∀ j, j < 400 → S.2.1 27 (400 * c + j) = 0) ∧ ∀ k, k < 8 → ∀ j, j < 192 → S.2.1 49 (3840 * k + 192 * c + j) = 0) ∧
  ((∀ j, 30720 ≤ j → S.2.1 46 j = 0 ∧ S.2.1 49 j = 0) ∧ (∀ j, 60 ≤ j → S.2.1 24 j = 0) ∧ (∀ j, 3840 ≤ j → S.2.1 25 j = 0) ∧ ∀ j, 8000 ≤ j → S.2.1 27 j = 0)
def WF (E : Nat) (S : ST) : Prop := (S.1 1 0 ≤ 60 ∧ S.1 16 0 ≤ 20 ∧ S.1 44 0 ≤ 8) ∧ (∀ s, s < S.1 1 0 → WFs S s) ∧ (∀ c, c < S.1 16 0 → WFc E S c) ∧ WFz S
/-- the class's kept states -/
def sm (f : Nat → Nat) : Nat → Nat
  | 0 => 0
  | n + 1 => sm f n + f n
/-- of what was kept as k: chain i of its tree; how many values of it lie ahead; how many its sections, its loops have -/
def kch (S : ST) (k i : Nat) : Nat := S.1 73 (20 * k + i)
def ksz (S : ST) (k c : Nat) : Nat := sm (fun p => rln S (S.1 18 (10 * c + p)) + 1) (S.1 51 (20 * k + c)) + sm (fun i => S.1 23 (3 * c + i)) (S.1 52 (20 * k + c))
def RK (S : ST) (A : AT) (C : CT) : Prop := ∀ k, k < S.1 44 0 →
  (C.1 (A 48 k) = 4 ∧ C.2.2.2.2.1 48 (A 48 k) 0 = some (A 1 (S.1 45 k)) ∧ C.2.2.2.2.1 49 (A 48 k) 0 = some (A 49 k) ∧ C.2.2.2.2.1 50 (A 48 k) 0 = some (A 50 k)) ∧
  (S.1 45 k < S.1 16 0 ∧ 1 ≤ S.1 72 k ∧ S.1 72 k ≤ 20 ∧ kch S k 0 = S.1 45 k ∧ (∀ i, i < S.1 72 k → kch S k i < S.1 16 0 ∧ S.1 51 (20 * k + kch S k i) ≤ S.1 17 (kch S k i) ∧ S.1 52 (20 * k + kch S k i) ≤ S.1 20 (kch S k i)) ∧ KT S k) ∧
  (C.1 (A 49 k) = 20 ∧ C.2.1 (A 49 k) = 3 * S.1 72 k ∧ ∀ i, i < S.1 72 k → C.2.2.1 900 (A 49 k) (3 * i) = i32 (kch S k i) ∧ C.2.2.1 900 (A 49 k) (3 * i + 1) = i32 (S.1 51 (20 * k + kch S k i)) ∧ C.2.2.1 900 (A 49 k) (3 * i + 2) = i32 (S.1 52 (20 * k + kch S k i))) ∧
  (C.1 (A 50 k) = 21 ∧ C.2.1 (A 50 k) = sm (fun i => ksz S k (kch S k i)) (S.1 72 k) ∧ ∀ i, i < S.1 72 k →
    (∀ p, p < S.1 51 (20 * k + kch S k i) → C.2.2.2.1 900 (A 50 k) (sm (fun i => ksz S k (kch S k i)) i + sm (fun p => rln S (S.1 18 (10 * kch S k i + p)) + 1) p) = S.2.1 48 (60 * k + S.1 18 (10 * kch S k i + p)) ∧
      ∀ j, j < rln S (S.1 18 (10 * kch S k i + p)) → C.2.2.2.1 900 (A 50 k) (sm (fun i => ksz S k (kch S k i)) i + sm (fun p => rln S (S.1 18 (10 * kch S k i + p)) + 1) p + 1 + j) = S.2.1 46 (64 * (60 * k + S.1 18 (10 * kch S k i + p)) + (S.1 47 (60 * k + S.1 18 (10 * kch S k i + p)) + j) % rln S (S.1 18 (10 * kch S k i + p)))) ∧
    (∀ q, q < S.1 52 (20 * k + kch S k i) → ∀ j, j < S.1 23 (3 * kch S k i + q) → C.2.2.2.1 900 (A 50 k) (sm (fun i => ksz S k (kch S k i)) i + sm (fun p => rln S (S.1 18 (10 * kch S k i + p)) + 1) (S.1 51 (20 * k + kch S k i)) + sm (fun i' => S.1 23 (3 * kch S k i + i')) q + j) = S.2.1 49 (64 * (60 * k + (3 * kch S k i + q)) + (S.1 50 (60 * k + (3 * kch S k i + q)) + j) % S.1 23 (3 * kch S k i + q))))
/-- the tables of dead cycles that were made last: G says what they are of -/
def RD (G : Int64 → Int32 → Int32 → Int32 → (Nat → Int32) → (Nat → Int64) → Prop) (A : AT) (C : CT) : Prop :=
  ((C.2.2.2.2.1 37 (A 2 0) 0 = none ∧ C.2.2.2.2.1 38 (A 2 0) 0 = none ∧ C.2.2.2.2.2.1 (A 2 0) = false) ∨
    (C.2.2.2.2.1 37 (A 2 0) 0 = some (A 0 1) ∧ C.2.2.2.2.1 38 (A 2 0) 0 = some (A 0 2) ∧ C.1 (A 0 1) = 20 ∧ C.2.1 (A 0 1) = 65536 ∧ C.1 (A 0 2) = 21 ∧ C.2.1 (A 0 2) = 65536 ∧
      (C.2.2.2.2.2.1 (A 2 0) = true → G (C.2.2.2.1 33 (A 2 0) 0) (C.2.2.1 34 (A 2 0) 0) (C.2.2.1 35 (A 2 0) 0) (C.2.2.1 36 (A 2 0) 0) (C.2.2.1 900 (A 0 1)) (C.2.2.2.1 900 (A 0 2)))))
/-- room: what the counters may have come to; D more than else -/
def RO (D B : Nat) (S : ST) (A : AT) (C : CT) : Prop := ∀ z, z = (match C.2.2.2.2.1 37 (A 2 0) 0 with | none => 1 | some _ => 0) →
  (ck C).1 + 10 * (60 - S.1 1 0) + 40 * (20 - S.1 16 0) + 10 * (8 - S.1 44 0) + 2 * z + 10 * sm (fun c => 3 - S.1 20 c) (S.1 16 0) ≤ B + 5000 + D ∧ (ck C).2 + 300 * (60 - S.1 1 0) + 2000 * (20 - S.1 16 0) + 20000 * (8 - S.1 44 0) + 131072 * z + 100 * sm (fun c => 3 - S.1 20 c) (S.1 16 0) ≤ 1500000 + 1000 * D
abbrev GT : Type := Int64 → Int32 → Int32 → Int32 → (Nat → Int32) → (Nat → Int64) → Prop
/-- the reference lies apart, and is there -/
def lsp (m : Nat) (ad : Nat → Nat) (C : CT) : Prop := lsep m ad C ∧ m < (ck C).1 ∧ ∀ k, k ∈ marrs → ad k < (ck C).1
/-- THE COUPLING -/
def JJ (G : GT) (E B bx m : Nat) (ad : Nat → Nat) (S : ST) (A : AT) (C : CT) (T : MT) : Prop :=
  (CW B C ∧ lsp m ad C ∧ RO (ad 0) B S A C) ∧ RC bx S A C ∧ RT S T ∧ WF E S ∧ RK S A C ∧ RD G A C
def II (G : GT) (E B bx m : Nat) (ad : Nat → Nat) (C : CT) (T : MT) : Prop := ∃ (S : ST) (A : AT), JJ G E B bx m ad S A C T
