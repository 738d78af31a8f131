/-! rounding: what is lost may show in the last bit -/
def stk (A B : Nat) : Nat := if A % B = 0 then A / B else A / B + (1 - A / B % 2)
theorem stk_ge (A B : Nat) : A / B ≤ stk A B := by unfold stk; split <;> omega
theorem stk_lt {A B h : Nat} (hB : 0 < B) : stk A B < 2 * h ↔ A < B * (2 * h) := by
  rw [Nat.mul_comm B, ← Nat.div_lt_iff_lt_mul hB]
  unfold stk
  split <;> omega
theorem nearest_stk {A B k : Nat} (hB : 0 < B) (hk : 2 ≤ k) : FP.Core.nearest A (B * 2 ^ k) = FP.Core.nearest (stk A B) (2 ^ k) := by
  obtain ⟨g, hg, hg0⟩ : ∃ g, 2 ^ k = 2 * (2 * g) ∧ 0 < g := ⟨2 ^ (k - 2), by rw [show 2 * (2 * 2 ^ (k - 2)) = 2 ^ (k - 2) * 2 ^ 2 by omega, ← Nat.pow_add]; congr 1; omega, Nat.two_pow_pos _⟩
  rw [hg]
  have e1 : A / (B * (2 * (2 * g))) = A / B / (2 * (2 * g)) := (Nat.div_div_eq_div_mul _ _ _).symm
  have e2 : A % (B * (2 * (2 * g))) = A % B + B * (A / B % (2 * (2 * g))) := Nat.mod_mul
  have hr := Nat.mod_lt A hB
  have hm := Nat.mod_lt (A / B) (show 0 < 2 * (2 * g) by omega)
  have hd := Nat.div_add_mod (A / B) (2 * (2 * g))
  have hx : 2 * (2 * g) * (A / B / (2 * (2 * g))) = 2 * (2 * g * (A / B / (2 * (2 * g)))) := Nat.mul_assoc _ _ _
  have e3 : stk A B / (2 * (2 * g)) = A / B / (2 * (2 * g)) ∧ stk A B % (2 * (2 * g)) = (if A % B = 0 then A / B % (2 * (2 * g)) else A / B % (2 * (2 * g)) + (1 - A / B % 2)) := by
    unfold stk
    by_cases h0 : A % B = 0
    · rw [if_pos h0, if_pos h0]; exact ⟨rfl, rfl⟩
    · rw [if_neg h0, if_neg h0]
      by_cases h1 : A / B % 2 = 1
      · rw [h1]; exact ⟨rfl, rfl⟩
      · have h2 : A / B % 2 = 0 := by omega
        rw [h2]
        have e4 : A / B + (1 - 0) = (A / B % (2 * (2 * g)) + 1) + 2 * (2 * g) * (A / B / (2 * (2 * g))) := by omega
        rw [e4, Nat.add_mul_div_left _ _ (by omega), Nat.add_mul_mod_self_left, Nat.div_eq_of_lt (by omega), Nat.mod_eq_of_lt (by omega), Nat.zero_add]
        exact ⟨rfl, rfl⟩
  have hpar : A / B % 2 = A / B % (2 * (2 * g)) % 2 := by omega
  unfold FP.Core.nearest
  rw [e1, e2, e3.1, e3.2]
  generalize A / B / (2 * (2 * g)) = d at *
  generalize A / B % (2 * (2 * g)) = r at *
  generalize A / B % 2 = w at *
  generalize A % B = z at *
  have em : B * (2 * (2 * g)) = 2 * (B * (2 * g)) := Nat.mul_left_comm _ _ _
  rw [em]
  by_cases c1 : r < 2 * g
  · have m1 : B * (r + 1) ≤ B * (2 * g) := Nat.mul_le_mul_left B c1
    rw [Nat.mul_add, Nat.mul_one] at m1
    rw [if_pos (by omega), if_pos (by split <;> omega)]
  · by_cases c2 : r = 2 * g
    · subst c2
      by_cases c3 : z = 0
      · rw [if_neg (by omega), if_neg (by omega), if_neg (by rw [if_pos c3]; omega), if_neg (by rw [if_pos c3]; omega)]
      · rw [if_neg (by omega), if_pos (by omega), if_neg (by rw [if_neg c3]; omega), if_pos (by rw [if_neg c3]; omega)]
    · have m1 : B * (2 * g + 1) ≤ B * r := Nat.mul_le_mul_left B (by omega)
      rw [Nat.mul_add, Nat.mul_one] at m1
      rw [if_neg (by omega), if_pos (by omega), if_neg (by split <;> omega), if_pos (by split <;> omega)]
theorem below_nat (A B n : Nat) : FP.Core.Below A B (n : Int) ↔ A < B * 2 ^ n := by
  unfold FP.Core.Below
  rw [show (-(n : Int)).toNat = 0 by omega, show ((n : Int)).toNat = n by omega, Nat.pow_zero, Nat.mul_one]
theorem round_stk {f : FP.Core.Fmt} {s : Bool} {A B : Nat} {X : Int} (hB : 0 < B) (hW : 2 ^ (f.p + 1) ≤ A / B) (hp : 1 ≤ f.p) : FP.Core.roundRatio f s A B X = FP.Core.roundRatio f s (stk A B) 1 X := by
  have hp0 := Nat.two_pow_pos (f.p + 1)
  have hge := stk_ge A B
  have hA : ¬ A = 0 := fun h => by rw [h, Nat.zero_div] at hW; omega
  have hM : ¬ stk A B = 0 := by omega
  have bel : ∀ n : Nat, 1 ≤ n → (FP.Core.Below A B (n : Int) ↔ FP.Core.Below (stk A B) 1 (n : Int)) := fun n hn => by
    rw [below_nat, below_nat, Nat.one_mul]
    have e : 2 ^ n = 2 * 2 ^ (n - 1) := by rw [← Nat.pow_succ']; congr 1; omega
    rw [e]
    exact (stk_lt hB).symm
  unfold FP.Core.roundRatio
  rw [if_neg hA, if_neg hM]
  have b1 := FP.Core.quantum_below (f := f) (A := stk A B) (B := 1) (by omega) (by decide) X
  have b2 := FP.Core.quantum_not_below (f := f) (A := stk A B) (B := 1) (by omega) (by decide) X
  have b3 := FP.Core.quantum_ge f (stk A B) 1 X
  generalize hq : FP.Core.quantum f (stk A B) 1 X = q at *
  have hk : ((f.p + 1 : Nat) : Int) < q - X + f.p := by
    by_cases h : q - X + f.p ≤ ((f.p + 1 : Nat) : Int)
    · have := (below_nat _ _ _).mp (FP.Core.below_mono h b1)
      omega
    · omega
  obtain ⟨k, hk'⟩ : ∃ k : Nat, q - X = k := ⟨(q - X).toNat, by omega⟩
  have hk2 : 2 ≤ k := by omega
  have e1 : q - X + f.p = ((k + f.p : Nat) : Int) := by omega
  have e2 : q - X + ((f.p : Int) - 1) = ((k + f.p - 1 : Nat) : Int) := by omega
  have hq2 : FP.Core.quantum f A B X = q := by
    refine FP.Core.quantum_eq (by omega) hB b3 ?_ ?_
    · rw [e1] at b1 ⊢
      exact (bel _ (by omega)).mpr b1
    · rcases b2 with b2 | b2
      · exact Or.inl b2
      · rw [e2] at b2 ⊢
        exact Or.inr (fun z => b2 ((bel _ (by omega)).mp z))
  rw [hq2]
  unfold FP.Core.roundAt FP.Core.unitsNum FP.Core.unitsDen
  rw [show (X - q).toNat = 0 by omega, hk', show ((k : Int)).toNat = k by omega, Nat.pow_zero, Nat.mul_one, Nat.mul_one, Nat.one_mul, nearest_stk hB hk2]
/-- the bits of a rounded number -/
def mgr (f : FP.Core.Fmt) (M : Nat) (X : Int) : Nat :=
  if (f.exps : Int) - 1 ≤ X + 62 + f.emax then (f.exps - 1) * f.tails else if 1 ≤ X + 62 + f.emax then (X + 62 + f.emax - 1).toNat * f.tails + FP.Core.nearest M (2 ^ (63 - f.p)) else FP.Core.nearest M (2 ^ (63 - f.p + (1 - (X + 62 + f.emax)).toNat))
theorem enc_round {f : FP.Core.Fmt} (hf : FP.Core.Good f) (hp : f.p ≤ 60) {s : Bool} {M : Nat} {X : Int} (h1 : 2 ^ 62 ≤ M) (h2 : M < 2 ^ 63) : FP.Core.encode f (FP.Core.roundRatio f s M 1 X) = s.toNat * f.exps * f.tails + mgr f M X := by
  have ex := FP.Core.emax_exps hf
  have em := FP.Core.emax_pos hf
  have tt := FP.Core.two_tails hf
  have hf2 := hf.2
  have hM : ¬ M = 0 := by omega
  have hb63 : FP.Core.Below M 1 ((63 : Nat) : Int) := (below_nat _ _ _).mpr (by omega)
  have hb62 : ¬ FP.Core.Below M 1 ((62 : Nat) : Int) := fun z => by have := (below_nat _ _ _).mp z; omega
  have hqmin : f.qmin = 2 - (f.emax : Int) - f.p := rfl
  have hqmax : f.qmax = (f.emax : Int) - f.p + 1 := rfl
  have hc2 := FP.Core.nearest_units_le (f := f) (A := M) (B := 1) (by omega) (by decide) X
  unfold FP.Core.roundRatio FP.Core.roundAt mgr
  rw [if_neg hM]
  by_cases ht : 1 ≤ X + 62 + f.emax
  · have hq : FP.Core.quantum f M 1 X = X + 63 - f.p := by
      refine FP.Core.quantum_eq (by omega) (by decide) (by omega) ?_ (Or.inr ?_)
      · rw [show X + 63 - f.p - X + f.p = ((63 : Nat) : Int) by omega]; exact hb63
      · rw [show X + 63 - f.p - X + ((f.p : Int) - 1) = ((62 : Nat) : Int) by omega]; exact hb62
    rw [hq] at hc2 ⊢
    unfold FP.Core.unitsNum FP.Core.unitsDen at hc2 ⊢
    rw [show (X - (X + 63 - f.p)).toNat = 0 by omega, show (X + 63 - f.p - X).toNat = 63 - f.p by omega, Nat.pow_zero, Nat.mul_one, Nat.one_mul] at hc2 ⊢
    have hc1 : f.tails ≤ FP.Core.nearest M (2 ^ (63 - f.p)) := FP.Core.nearest_ge (Nat.two_pow_pos _) (by
      unfold FP.Core.Fmt.tails
      rw [← Nat.pow_add, show f.p - 1 + (63 - f.p) = 62 by omega]; exact h1)
    generalize FP.Core.nearest M (2 ^ (63 - f.p)) = c at *
    by_cases ho : (f.exps : Int) - 1 ≤ X + 62 + f.emax
    · rw [if_pos ho]
      have hi : FP.Core.settle f s c (X + 63 - f.p) = .inf s := by
        unfold FP.Core.settle FP.Core.bound
        rw [if_neg (show ¬ X + 63 - (f.p : Int) ≤ f.qmax by omega), if_neg (show ¬ X + 63 - (f.p : Int) + 1 ≤ f.qmax by omega)]
        split <;> rfl
      rw [hi]
      show FP.Core.assemble f s (f.exps - 1) 0 = _
      unfold FP.Core.assemble
      rw [Nat.add_mul, Nat.add_zero]
    · rw [if_neg ho, if_pos ht]
      obtain ⟨n, hn⟩ : ∃ n, (X + 62 + f.emax - 1).toNat = n := ⟨_, rfl⟩
      unfold FP.Core.settle FP.Core.bound
      by_cases hc : c < 2 ^ f.p
      · rw [if_pos hc, if_pos (show X + 63 - (f.p : Int) ≤ f.qmax by omega)]
        show (if c < f.tails then _ else FP.Core.assemble f s ((X + 63 - (f.p : Int) - f.qmin).toNat + 1) (c - f.tails)) = _
        rw [if_neg (by omega), show (X + 63 - (f.p : Int) - f.qmin).toNat = n by omega, hn]
        unfold FP.Core.assemble
        rw [Nat.add_mul, Nat.add_mul n 1, Nat.one_mul]
        omega
      · rw [if_neg hc]
        by_cases hm : X + 63 - (f.p : Int) + 1 ≤ f.qmax
        · rw [if_pos hm]
          show (if f.tails < f.tails then _ else FP.Core.assemble f s ((X + 63 - (f.p : Int) + 1 - f.qmin).toNat + 1) (f.tails - f.tails)) = _
          rw [if_neg (by omega), show (X + 63 - (f.p : Int) + 1 - f.qmin).toNat = n + 1 by omega, hn]
          unfold FP.Core.assemble
          rw [Nat.add_mul, Nat.add_mul (n + 1) 1, Nat.add_mul n 1, Nat.one_mul]
          omega
        · rw [if_neg hm]
          show FP.Core.assemble f s (f.exps - 1) 0 = _
          unfold FP.Core.assemble
          rw [show f.exps - 1 = n + 1 + 1 by omega, hn, Nat.add_mul, Nat.add_mul (n + 1) 1, Nat.add_mul n 1, Nat.one_mul]
          omega
  · have hq : FP.Core.quantum f M 1 X = f.qmin := by
      refine FP.Core.quantum_eq (by omega) (by decide) (Int.le_refl _) ?_ (Or.inl rfl)
      exact FP.Core.below_mono (by omega) hb63
    rw [hq] at hc2 ⊢
    unfold FP.Core.unitsNum FP.Core.unitsDen at hc2 ⊢
    rw [show (X - f.qmin).toNat = 0 by omega, show (f.qmin - X).toNat = 63 - f.p + (1 - (X + 62 + f.emax)).toNat by omega, Nat.pow_zero, Nat.mul_one, Nat.one_mul] at hc2 ⊢
    generalize FP.Core.nearest M (2 ^ (63 - f.p + (1 - (X + 62 + f.emax)).toNat)) = c at *
    rw [if_neg (by omega), if_neg ht]
    unfold FP.Core.settle FP.Core.bound
    by_cases hc : c < 2 ^ f.p
    · rw [if_pos hc, if_pos (show f.qmin ≤ f.qmax by omega)]
      show (if c < f.tails then FP.Core.assemble f s 0 c else FP.Core.assemble f s ((f.qmin - f.qmin).toNat + 1) (c - f.tails)) = _
      by_cases hct : c < f.tails
      · rw [if_pos hct]
        unfold FP.Core.assemble
        rw [Nat.add_zero]
      · rw [if_neg hct, show (f.qmin - f.qmin).toNat = 0 by omega]
        unfold FP.Core.assemble
        rw [Nat.add_mul, Nat.zero_add, Nat.one_mul]
        omega
    · rw [if_neg hc, if_pos (show f.qmin + 1 ≤ f.qmax by omega)]
      show (if f.tails < f.tails then _ else FP.Core.assemble f s ((f.qmin + 1 - f.qmin).toNat + 1) (f.tails - f.tails)) = _
      rw [if_neg (by omega), show (f.qmin + 1 - f.qmin).toNat = 1 by omega]
      unfold FP.Core.assemble
      rw [Nat.add_mul, Nat.add_mul 1 1, Nat.one_mul]
      omega
theorem mgr_lt {f : FP.Core.Fmt} (hf : FP.Core.Good f) (hp : f.p ≤ 60) {M : Nat} {X : Int} (h1 : 2 ^ 62 ≤ M) (h2 : M < 2 ^ 63) : mgr f M X < f.exps * f.tails := by
  have h := enc_round hf hp (s := false) (X := X) h1 h2
  have h3 := FP.Core.encode_lt hf _ (FP.Core.roundRatio_fits hf false M (B := 1) (by decide) X)
  have e := enc_round hf hp (s := true) (X := X) h1 h2
  have h4 := FP.Core.encode_lt hf _ (FP.Core.roundRatio_fits hf true M (B := 1) (by decide) X)
  rw [e] at h4
  have : (true : Bool).toNat = 1 := rfl
  rw [this, Nat.one_mul, Nat.mul_assoc] at h4
  omega
