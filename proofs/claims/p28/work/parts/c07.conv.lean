/-! convert, told out: shorts as doubles and back; what is made anew -/
theorem lg_form {n : Nat} (h0 : n ≠ 0) (h : n < 2 ^ 16) : ∃ l, l ≤ 15 ∧ 2 ^ l ≤ n ∧ n < 2 ^ (l + 1) := by
  have h1 := (Nat.lt_log2_self (n := n))
  have h2 := Nat.log2_self_le h0
  have h3 : n.log2 < 16 := (Nat.log2_lt h0).mpr h
  exact ⟨n.log2, by omega, h2, h1⟩
theorem fx_form {x : Int64} (hv : vb 2 x) (pl : Bool) : ∃ k : Nat, 0 < k ∧ mnD 2 pl x = .fin (decide (x.toInt < 0)) (x.toInt.natAbs * 2 ^ k) ((if pl = true then 0 else -14) - (k : Int)) := by
  have hb : -32768 ≤ x.toInt ∧ x.toInt ≤ 32767 := by
    obtain ⟨h1, h2⟩ := (hv : -32768 ≤ x ∧ x ≤ 32767)
    rw [Int64.le_iff_toInt_le] at h1 h2
    exact ⟨h1, h2⟩
  obtain ⟨n, hn⟩ : ∃ n, n = x.toInt.natAbs := ⟨_, rfl⟩
  have hn16 : n ≤ 32768 := by omega
  have em : ∀ (k : Nat), FP.Core.fits FP.Core.b64 (.fin (decide (x.toInt < 0)) (n * 2 ^ k) ((if pl = true then 0 else -14) - (k : Int))) → mnD 2 pl x = .fin (decide (x.toInt < 0)) (n * 2 ^ k) ((if pl = true then 0 else -14) - (k : Int)) := fun k hf => by
    unfold mnD
    rw [if_neg (by decide), ← hn]
    refine FP.Core.roundRatio_exact FP.Core.good_b64 (by decide) hf ?_
    generalize (if pl = true then (0 : Int) else -14) = e
    rw [show (e - (e - (k : Int))).toNat = k by omega, show (e - (k : Int) - e).toNat = 0 by omega, Nat.mul_one]
    exact (Nat.mul_one _).symm
  rw [← hn]
  by_cases h0 : n = 0
  · obtain ⟨k, hk⟩ : ∃ k : Nat, (k : Int) = (if pl = true then 0 else -14) + 1074 := ⟨((if pl = true then (0 : Int) else -14) + 1074).toNat, by cases pl <;> simp⟩
    have hk0 : 0 < k := by
      have : (0 : Int) < k := by rw [hk]; cases pl <;> simp
      omega
    have hq : (if pl = true then (0 : Int) else -14) - (k : Int) = FP.Core.b64.qmin := by
      show _ = (-1074 : Int)
      omega
    refine ⟨k, hk0, em k ?_⟩
    rw [h0, Nat.zero_mul, hq]
    exact ⟨by decide, by decide, by decide, Or.inl rfl⟩
  · obtain ⟨l, l1, l2, l3⟩ := lg_form h0 (by omega)
    refine ⟨52 - l, by omega, em (52 - l) ⟨?_, ?_, ?_, Or.inr ?_⟩⟩
    · show n * 2 ^ (52 - l) < 2 ^ 53
      have : (2 : Nat) ^ 53 = 2 ^ (l + 1) * 2 ^ (52 - l) := by rw [← Nat.pow_add]; congr 1; omega
      rw [this]
      exact Nat.mul_lt_mul_of_pos_right l3 (Nat.two_pow_pos _)
    · show (-1074 : Int) ≤ _
      cases pl <;> simp <;> omega
    · show _ ≤ (971 : Int)
      cases pl <;> simp <;> omega
    · show 2 ^ 52 ≤ n * 2 ^ (52 - l)
      have : (2 : Nat) ^ 52 = 2 ^ l * 2 ^ (52 - l) := by rw [← Nat.pow_add]; congr 1; omega
      rw [this]
      exact Nat.mul_le_mul_right _ l2
theorem tr_there {x : Int64} (pl : Bool) : trB 2 0 pl x = ev FP.Core.b64 (mnD 2 pl x) := by
  unfold trB
  rw [if_pos (by decide)]
  show ev FP.Core.b64 (FP.Core.round FP.Core.b64 (mnD 2 pl x)) = _
  rw [FP.Core.round_of_fits FP.Core.good_b64 (mnD_fits 2 pl x)]
theorem tr_vb {x : Int64} (pl : Bool) : vb 0 (trB 2 0 pl x) := by
  rw [tr_there]
  exact ev_vb (so := 0) (by decide) (mnD_fits 2 pl x)
theorem tr_back {x : Int64} (hv : vb 2 x) (pl : Bool) : trB 0 2 pl (trB 2 0 pl x) = x := by
  obtain ⟨k, k0, hk⟩ := fx_form hv pl
  have hb : -32768 ≤ x.toInt ∧ x.toInt ≤ 32767 := by
    obtain ⟨h1, h2⟩ := (hv : -32768 ≤ x ∧ x ≤ 32767)
    rw [Int64.le_iff_toInt_le] at h1 h2
    exact ⟨h1, h2⟩
  have hd : dt 0 (trB 2 0 pl x) = mnD 2 pl x := by
    rw [tr_there]
    exact dt_ev (so := 0) (mnD_fits 2 pl x)
  have hm : mnD 0 pl (trB 2 0 pl x) = mnD 2 pl x := by
    show (if 0 < 2 then FP.Core.round FP.Core.b64 (dt 0 (trB 2 0 pl x)) else _) = _
    rw [if_pos (by decide), hd]
    exact FP.Core.round_of_fits FP.Core.good_b64 (mnD_fits 2 pl x)
  have e : trB 0 2 pl (trB 2 0 pl x) = nrD pl (mnD 0 pl (trB 2 0 pl x)) := if_neg (by decide)
  rw [e, hm, hk]
  have hq : (if pl = true then (0 : Int) else -14) - (k : Int) + zo pl = -(k : Int) := by
    unfold zo
    cases pl <;> simp <;> omega
  show (if (if pl = true then (0 : Int) else -14) - (k : Int) + zo pl < 0 then (if decide (x.toInt < 0) = true then -(j64 (FP.Core.nearest (x.toInt.natAbs * 2 ^ k) (2 ^ (-((if pl = true then (0 : Int) else -14) - (k : Int) + zo pl)).toNat))) else j64 (FP.Core.nearest (x.toInt.natAbs * 2 ^ k) (2 ^ (-((if pl = true then (0 : Int) else -14) - (k : Int) + zo pl)).toNat))) else 1099511627776) = x
  rw [hq, if_pos (by omega), show (-(-(k : Int))).toNat = k by omega, FP.Core.nearest_exact _ (Nat.two_pow_pos k)]
  have ej : (j64 x.toInt.natAbs).toInt = (x.toInt.natAbs : Int) := by
    show (Int64.ofNat x.toInt.natAbs).toInt = _
    exact Int64.toInt_ofNat_of_lt (by omega)
  by_cases hx : x.toInt < 0
  · rw [if_pos (by simpa using hx)]
    refine Int64.toInt_inj.mp ?_
    rw [Int64.toInt_neg, ej]
    rw [show (-(x.toInt.natAbs : Int)) = x.toInt by omega]
    exact Int.bmod_eq_of_le (by omega) (by omega)
  · rw [if_neg (by simpa using hx)]
    refine Int64.toInt_inj.mp ?_
    rw [ej]; omega
theorem ok_there {x : Int64} (pl : Bool) : okB 2 0 pl x = true := if_pos (by decide)
theorem ok_back {x : Int64} (hv : vb 2 x) (pl : Bool) : okB 0 2 pl (trB 2 0 pl x) = true := by
  unfold okB
  rw [if_neg (by decide), tr_back hv]
  exact (isShort_iff x).mpr hv
/-! what convert makes of a chain with none within it -/
section CONVF
variable {G : GT} {E B bx m c s st : Nat} {ad : Nat → Nat} {S S0 X : ST} {A : AT} {C : CT}
theorem cf7_at {n j : Nat} {Y : ST} : ∀ {i : Nat}, j < i → (cfS S0 st s n i Y).2.1 7 (5 * n + j) = trB (S0.1 3 s) st (g_R_isPlain (i32 (S0.1 2 s))) (S0.2.1 7 (5 * s + j))
  | 0, h => absurd h (Nat.not_lt_zero _)
  | i + 1, h => by
    show up2 (cfS S0 st s n i Y).2.1 7 (5 * n + i) _ 7 (5 * n + j) = _
    by_cases e : j = i
    · subst e; rw [up2_same]
    · rw [up2_j _ _ _ (by omega)]; exact cf7_at (by omega)
theorem cf7_off {n j : Nat} {Y : ST} : ∀ {i : Nat}, (∀ y, y < i → j ≠ 5 * n + y) → (cfS S0 st s n i Y).2.1 7 j = Y.2.1 7 j
  | 0, _ => rfl
  | i + 1, h => by
    show up2 (cfS S0 st s n i Y).2.1 7 (5 * n + i) _ 7 j = _
    rw [up2_j _ _ _ (h i (by omega))]
    exact cf7_off fun y hy => h y (by omega)
theorem cf_k {n k : Nat} {Y : ST} (hk : k ≠ 7) : ∀ {i : Nat}, (cfS S0 st s n i Y).2.1 k = Y.2.1 k
  | 0 => rfl
  | i + 1 => by
    have h : (cfS S0 st s n (i + 1) Y).2.1 k = (cfS S0 st s n i Y).2.1 k := funext fun j => up2_k _ _ _ _ hk
    rw [h]; exact cf_k hk
/-- one section made anew, of another sort -/
def CPF (S0 : ST) (st s : Nat) (S S' : ST) : Prop :=
  S'.1 1 0 = S.1 1 0 + 1 ∧ (∀ k, k ∉ [1, 2, 3, 5, 6, 8, 9, 10, 14, 70] → S'.1 k = S.1 k) ∧ (∀ k j, k ∈ [2, 3, 5, 6, 8, 9, 10, 14, 70] → j ≠ S.1 1 0 → S'.1 k j = S.1 k j) ∧
  (∀ k, k ∉ [7, 15] → S'.2.1 k = S.2.1 k) ∧ (∀ j, j ≠ S.1 1 0 → S'.2.1 15 j = S.2.1 15 j) ∧ (∀ j, j < 5 * S.1 1 0 ∨ 5 * S.1 1 0 + 5 ≤ j → S'.2.1 7 j = S.2.1 7 j) ∧ (∀ k j, j ≠ S.1 1 0 → S'.2.2 k j = S.2.2 k j) ∧
  (S'.1 2 (S.1 1 0) = S0.1 2 s ∧ S'.1 3 (S.1 1 0) = st ∧ S'.1 5 (S.1 1 0) = 0 ∧ S'.1 6 (S.1 1 0) = 0 ∧ S'.1 10 (S.1 1 0) = 0 ∧ S'.1 14 (S.1 1 0) = 0 ∧ S'.2.2 4 (S.1 1 0) = S0.2.2 4 s ∧ S'.2.2 11 (S.1 1 0) = 0 ∧ S'.2.2 12 (S.1 1 0) = 0 ∧ S'.2.1 15 (S.1 1 0) = 0) ∧
  (∀ j, j < 5 → S'.2.1 7 (5 * S.1 1 0 + j) = if j < nfac (S0.1 2 s) then trB (S0.1 3 s) st (g_R_isPlain (i32 (S0.1 2 s))) (S0.2.1 7 (5 * s + j)) else S.2.1 7 (5 * S.1 1 0 + j))
theorem cp_cpf (h : ¬ (S0.1 3 s = 2 ∧ st = 2)) : CPF S0 st s S (cpS S0 st s S) := by
  have h5 := nfac_5 (S0.1 2 s)
  have e : cpS S0 st s S = cfS S0 st s (S.1 1 0) (nfac (S0.1 2 s)) (secS S (S0.1 2 s) st (S0.2.2 4 s)) := if_neg h
  rw [e]
  unfold CPF
  rw [cfS_1, cfS_I]
  refine ⟨secS_1, fun k hk => secS_k (fun q => hk (List.mem_cons_of_mem _ q)) (fun q => hk (by rw [q]; decide)), fun k j hk hj => secS_ne hj (fun q => absurd hk (by rw [q]; decide)), fun k hk => ?_, fun j hj => ?_, fun j hj => ?_, fun k j hj => secS_I hj, ⟨by simp [secS], by simp [secS], by simp [secS], by simp [secS], by simp [secS], by simp [secS], by simp [secS], by simp [secS], by simp [secS], ?_⟩, fun j hj => ?_⟩
  · rw [cf_k (fun q => hk (by rw [q]; decide)), secS_J (fun q => hk (by rw [q]; decide))]
  · rw [cf_k (by decide)]
    exact if_neg (fun q => hj q.2)
  · rw [cf7_off (fun y hy => by omega), secS_J (by decide)]
  · rw [cf_k (by decide)]
    exact if_pos ⟨rfl, rfl⟩
  · by_cases q : j < nfac (S0.1 2 s)
    · rw [if_pos q, cf7_at q]
    · rw [if_neg q, cf7_off (fun y hy => by omega), secS_J (by decide)]
/-- the members made anew, one behind another -/
def CMF (S0 : ST) (st c : Nat) (S : ST) (p : Nat) (x : CM) : Prop :=
  (x.1.1 1 0 = S.1 1 0 + p ∧ (∀ q, q < p → x.2.1 q = S.1 1 0 + q) ∧ ∀ q, x.2.2 q = 0) ∧ (∀ k, k ∉ [1, 2, 3, 5, 6, 8, 9, 10, 14, 70] → x.1.1 k = S.1 k) ∧ (∀ k j, k ∈ [2, 3, 5, 6, 8, 9, 10, 14, 70] → j < S.1 1 0 → x.1.1 k j = S.1 k j) ∧
  (∀ k, k ∉ [7, 15] → x.1.2.1 k = S.2.1 k) ∧ (∀ j, j < S.1 1 0 → x.1.2.1 15 j = S.2.1 15 j) ∧ (∀ j, j < 5 * S.1 1 0 ∨ 5 * (S.1 1 0 + p) ≤ j → x.1.2.1 7 j = S.2.1 7 j) ∧ (∀ k j, j < S.1 1 0 → x.1.2.2 k j = S.2.2 k j) ∧
  ∀ q, q < p → (x.1.1 2 (S.1 1 0 + q) = S0.1 2 (S0.1 18 (10 * c + q)) ∧ x.1.1 3 (S.1 1 0 + q) = st ∧ x.1.1 5 (S.1 1 0 + q) = 0 ∧ x.1.1 6 (S.1 1 0 + q) = 0 ∧ x.1.1 10 (S.1 1 0 + q) = 0 ∧ x.1.1 14 (S.1 1 0 + q) = 0 ∧ x.1.2.2 4 (S.1 1 0 + q) = S0.2.2 4 (S0.1 18 (10 * c + q)) ∧ x.1.2.2 11 (S.1 1 0 + q) = 0 ∧ x.1.2.2 12 (S.1 1 0 + q) = 0 ∧ x.1.2.1 15 (S.1 1 0 + q) = 0) ∧
    ∀ j, j < 5 → x.1.2.1 7 (5 * (S.1 1 0 + q) + j) = if j < nfac (S0.1 2 (S0.1 18 (10 * c + q))) then trB (S0.1 3 (S0.1 18 (10 * c + q))) st (g_R_isPlain (i32 (S0.1 2 (S0.1 18 (10 * c + q))))) (S0.2.1 7 (5 * S0.1 18 (10 * c + q) + j)) else S.2.1 7 (5 * (S.1 1 0 + q) + j)
theorem cm_cmf {rec : Nat → ST → ST} : ∀ {p : Nat}, (∀ q, q < p → S0.1 10 (S0.1 18 (10 * c + q)) = 0 ∧ ¬ (S0.1 3 (S0.1 18 (10 * c + q)) = 2 ∧ st = 2)) → CMF S0 st c S p (cmS rec S0 st c p S)
  | 0, _ => ⟨⟨rfl, fun q h => absurd h (Nat.not_lt_zero _), fun _ => rfl⟩, fun _ _ => rfl, fun _ _ _ _ => rfl, fun _ _ => rfl, fun _ _ => rfl, fun _ _ => rfl, fun _ _ _ => rfl, fun q h => absurd h (Nat.not_lt_zero _)⟩
  | p + 1, h => by
    obtain ⟨⟨i1, i2, i3⟩, i4, i5, i6, i7, i8, i9, iA⟩ := cm_cmf (rec := rec) (p := p) (fun q hq => h q (by omega))
    obtain ⟨h10, hst⟩ := h p (by omega)
    have e1 : (cmS rec S0 st c (p + 1) S).1 = cpS S0 st (S0.1 18 (10 * c + p)) (cmS rec S0 st c p S).1 := by
      show cpS S0 st (S0.1 18 (10 * c + p)) (if S0.1 10 (S0.1 18 (10 * c + p)) = 0 then _ else _) = _
      rw [if_pos h10]
    have e2 : (cmS rec S0 st c (p + 1) S).2.1 = up1 (cmS rec S0 st c p S).2.1 p ((cmS rec S0 st c p S).1.1 1 0) := by
      show up1 _ p ((if S0.1 10 (S0.1 18 (10 * c + p)) = 0 then (cmS rec S0 st c p S).1 else _).1 1 0) = _
      rw [if_pos h10]
    have e3 : (cmS rec S0 st c (p + 1) S).2.2 = up1 (cmS rec S0 st c p S).2.2 p 0 := by
      show up1 _ p (if S0.1 10 (S0.1 18 (10 * c + p)) = 0 then 0 else _) = _
      rw [if_pos h10]
    obtain ⟨c1, c2, c3, c4, c5, c6, c7, c8, c9⟩ := cp_cpf (s := S0.1 18 (10 * c + p)) (S := (cmS rec S0 st c p S).1) hst
    unfold CMF
    rw [e1, e2, e3]
    rw [i1] at c1 c3 c5 c6 c7 c8 c9
    refine ⟨⟨by rw [c1]; omega, fun q hq => ?_, fun q => ?_⟩, fun k hk => (c2 k hk).trans (i4 k hk), fun k j hk hj => (c3 k j hk (by omega)).trans (i5 k j hk hj), fun k hk => (c4 k hk).trans (i6 k hk), fun j hj => (c5 j (by omega)).trans (i7 j hj), fun j hj => (c6 j (by omega)).trans (i8 j (by omega)), fun k j hj => (c7 k j (by omega)).trans (i9 k j hj), fun q hq => ?_⟩
    · unfold up1
      by_cases e : q = p
      · rw [if_pos e, i1, e]
      · rw [if_neg e]; exact i2 q (by omega)
    · unfold up1
      by_cases e : q = p
      · rw [if_pos e]
      · rw [if_neg e]; exact i3 q
    · by_cases e : q = p
      · subst e
        refine ⟨c8, fun j hj => ?_⟩
        rw [c9 j hj, i8 _ (by omega)]
      · obtain ⟨⟨a1, a2, a3, a4, a5, a6, a7, a8, a9, aA⟩, b⟩ := iA q (by omega)
        refine ⟨⟨(c3 2 _ (by decide) (by omega)).trans a1, (c3 3 _ (by decide) (by omega)).trans a2, (c3 5 _ (by decide) (by omega)).trans a3, (c3 6 _ (by decide) (by omega)).trans a4, (c3 10 _ (by decide) (by omega)).trans a5, (c3 14 _ (by decide) (by omega)).trans a6, (c7 4 _ (by omega)).trans a7, (c7 11 _ (by omega)).trans a8, (c7 12 _ (by omega)).trans a9, (c5 _ (by omega)).trans aA⟩, fun j hj => ?_⟩
        rw [c6 _ (by omega)]
        exact b j hj
/-- what convert comes to -/
def CVF (S : ST) (c st : Nat) (Z : ST) : Prop :=
  (Z.1 1 0 = S.1 1 0 + S.1 17 c ∧ Z.1 16 0 = S.1 16 0 + 1 ∧ Z.1 17 (S.1 16 0) = S.1 17 c ∧ Z.1 19 (S.1 16 0) = 0 ∧ Z.1 20 (S.1 16 0) = S.1 20 c ∧ Z.1 28 (S.1 16 0) = 0 ∧ ∀ q, q < S.1 17 c → Z.1 18 (10 * S.1 16 0 + q) = S.1 1 0 + q) ∧
  (∀ i, i < S.1 20 c → (Z.1 21 (3 * S.1 16 0 + i) = S.1 21 (3 * c + i) ∧ Z.1 22 (3 * S.1 16 0 + i) = S.1 22 (3 * c + i) ∧ Z.1 23 (3 * S.1 16 0 + i) = S.1 23 (3 * c + i) ∧ Z.1 26 (3 * S.1 16 0 + i) = 0) ∧ Z.2.1 24 (3 * S.1 16 0 + i) = trB (cso S c) st false (S.2.1 24 (3 * c + i)) ∧ ∀ j, j < 64 → Z.2.1 25 (64 * (3 * S.1 16 0 + i) + j) = 0) ∧
  (∀ q, q < S.1 17 c → (Z.1 2 (S.1 1 0 + q) = S.1 2 (S.1 18 (10 * c + q)) ∧ Z.1 3 (S.1 1 0 + q) = st ∧ Z.1 5 (S.1 1 0 + q) = 0 ∧ Z.1 6 (S.1 1 0 + q) = 0 ∧ Z.1 10 (S.1 1 0 + q) = 0 ∧ Z.1 14 (S.1 1 0 + q) = 0 ∧ Z.2.2 4 (S.1 1 0 + q) = S.2.2 4 (S.1 18 (10 * c + q)) ∧ Z.2.2 11 (S.1 1 0 + q) = 0 ∧ Z.2.2 12 (S.1 1 0 + q) = 0 ∧ Z.2.1 15 (S.1 1 0 + q) = 0) ∧
    (∀ j, j < 5 → Z.2.1 7 (5 * (S.1 1 0 + q) + j) = if j < nfac (S.1 2 (S.1 18 (10 * c + q))) then trB (S.1 3 (S.1 18 (10 * c + q))) st (g_R_isPlain (i32 (S.1 2 (S.1 18 (10 * c + q))))) (S.2.1 7 (5 * S.1 18 (10 * c + q) + j)) else 0) ∧ ∀ j, j < 64 → Z.2.1 13 (64 * (S.1 1 0 + q) + j) = 0) ∧
  (∀ k, k ∈ [44, 45, 51, 52, 72, 73] → Z.1 k = S.1 k)
theorem o_convert {N M : Nat} (hN : 1000 ≤ N) (hM : 20 ≤ M) (J : JF G E B bx m ad S A C) (hc : c < S.1 16 0) (h0 : S.1 17 c ≠ 0) (h19 : S.1 19 c = 0) (s3 : st < 3) (ha : ∀ q, q < S.1 17 c → S.1 10 (S.1 18 (10 * c + q)) = 0) (hne : ¬ (cso S c = 2 ∧ st = 2)) (hok : okc S st c = true) (h60 : S.1 1 0 + S.1 17 c ≤ 60) (h20 : S.1 16 0 + 1 ≤ 20) :
    ∃ S' C', c_B_convert N M bx (i32 c) (i32 st) C = some (i32 (S.1 16 0), C') ∧ JE G E B bx m ad S' C' ∧ Ex S S' ∧ CVF S c st S' := by
  have hb := jj_b J
  have ho : cob C bx 0 = true := cob_of (rb_tag hb)
  have hn := jj_n J
  have wc := jj_wc J hc
  have et := tre_alone ha
  obtain ⟨C1, g1, g2, g3, g4⟩ := gather_of (N := N) (by omega) J hc
  have ho1 : cob C1 bx 0 = true := cob_of (rb_tag (jj_b g2))
  have ht := ti_bound g4 hc hn.2.1
  have hd := tre_ok J hc h0 g4
  have k1 : c_B_canRemake_12 N N bx (some (A 5 st)) (i32 (tre S c).1) 0 0 C1 = _ := can12_go g2 s3 (N := N) (by omega) ht g3 hd (tre S c).1 N 0 (by omega) (by omega)
  have wno : ∀ (w : Nat → Nat) (f : Nat) (p : Nat), p ≤ S.1 17 c → wti (wt w S f) S c p = 0 := fun w f p => by
    induction p with
    | zero => exact fun _ => rfl
    | succ p ih =>
      intro hp
      show wti (wt w S f) S c p + (if S.1 10 (S.1 18 (10 * c + p)) = 0 then 0 else _) = 0
      rw [ih (by omega), if_pos (ha p (by omega))]
  have w20 : ∀ w : Nat → Nat, wt w S 20 c = w c := fun w => by
    show w c + wti (wt w S 19) S c (S.1 17 c) = _
    rw [wno w 19 _ (Nat.le_refl _), Nat.add_zero]
  have hall : (allR (fun i => okc S st ((tre S c).2 i)) 0 (tre S c).1 && fitT S (tre S c).1 (sm (szt S (tre S c)) (tre S c).1)) = true := by
    rw [et, Bool.and_eq_true]
    refine ⟨allR_iff.mpr fun i _ _ => hok, ?_⟩
    unfold fitT
    rw [Bool.and_eq_true, decide_eq_true_eq, decide_eq_true_eq]
    refine ⟨?_, h20⟩
    show S.1 1 0 + (0 + S.1 17 c) ≤ 60
    omega
  have hbad : wt (bad S st) S 20 c = 0 := by rw [w20]; exact if_pos hok
  obtain ⟨A', V', C', x1, x2, x3, x4, x5, x6⟩ := crm_all J s3 (N := N) (by omega) 20 c M 0 S A C1 C1 (fun _ => False) (fun _ => False) ad (by omega) hc h0 hbad (Ex.refl S) (jj_T g2 (rt_tOf S)) pd_none (fun a h => h.elim) (fun a h => h.elim) (by rw [w20]; omega) (by rw [w20]; exact h20) (by omega) hM
  have eV := pd_eq x3
  subst eV
  obtain ⟨p1, p2, p3, p4, p5⟩ := pu_all J s3 20 c S (by omega) hc h0 hbad (Ex.refl S) J.2.2.2.1 (by rw [w20]; omega) (by rw [w20]; exact h20)
  rw [w20] at p4
  have p4 : (cvS S st 20 c S).1 16 0 = S.1 16 0 + 1 := p4
  refine ⟨cvS S st 20 c S, C', ?_, je_of x2, p2, ?_⟩
  · unfold c_B_convert c_B_canRemake
    rw [ho, jgd_true, fed_fix J hc h0 h19, obd_some, jgd_true, numbersOf_some hb s3, obd_some, jon_some, jon_some, jgd_true, jgd_true, g1, cbd2_some, k1, cbd2_some, if_pos hall, ho1, jgd_true, show (0 : Int32) = i32 0 from rfl, x1, cbd2_some]
    have hno := numberOf_of x2 (n := (cvS S st 20 c S).1 16 0 - 1 + 1) (by omega)
    have hno : c_B_numberOf (some (A' 1 ((cvS S st 20 c S).1 16 0 - 1))) C' = some (im ((cvS S st 20 c S).1 16 0 - 1 + 1)) := hno
    rw [hno, obd_some, im_succ, p4, Nat.add_sub_cancel]
  · obtain ⟨f1, f2, -, -⟩ := cm_facts J s3 (f := 19) (S := S) (pu_all J s3 19) (by omega) hc hok (wno _ 19 _ (Nat.le_refl _)) (Ex.refl S) J.2.2.2.1 (by rw [wno _ 19 _ (Nat.le_refl _)]; omega) (by rw [wno _ 19 _ (Nat.le_refl _)]; omega) (S.1 17 c) (Nat.le_refl _)
    have F := fn_FX f2
    have hso : ∀ q, q < S.1 17 c → S.1 3 (S.1 18 (10 * c + q)) = cso S c := fun q hq => (wc.2.1 q hq).2.2.2
    obtain ⟨⟨i1, i2, i3⟩, i4, i5, i6, i7, i8, i9, iA⟩ := cm_cmf (rec := cvS S st 19) (S0 := S) (S := S) (st := st) (c := c) (p := S.1 17 c) (fun q hq => ⟨ha q hq, by rw [hso q hq]; exact hne⟩)
    have ec : cvS S st 20 c S = fnS S st c (cmS (cvS S st 19) S st c (S.1 17 c) S) := rfl
    rw [ec]
    obtain ⟨x, hx⟩ : ∃ x, x = cmS (cvS S st 19) S st c (S.1 17 c) S := ⟨_, rfl⟩
    rw [← hx] at F i1 i2 i3 i4 i5 i6 i7 i8 i9 iA ⊢
    have e16 : x.1.1 16 0 = S.1 16 0 := congrFun (i4 16 (by decide)) 0
    obtain ⟨F1, F2, F3, F4, F5, F6, F7, F8, F9, FA, FB, FC, FD⟩ := F
    rw [e16] at F1 F2 F3
    have hwz := J.2.2.2.1.2.2.2.1
    refine ⟨⟨?_, F1.2.1, F1.2.2.1, F1.2.2.2.1, F1.2.2.2.2.1, F1.2.2.2.2.2.1, fun q hq => ?_⟩, fun i hi => ?_, fun q hq => ?_, fun k hk => ?_⟩
    · rw [F1.1, i1]
    · rw [F1.2.2.2.2.2.2 q hq, i2 q hq]
    · obtain ⟨⟨a1, a2, a3, a4, a5⟩, a6, a7⟩ := F2 i hi
      exact ⟨⟨a1, a2, a3, a4⟩, a6, a7⟩
    · obtain ⟨⟨a1, a2, a3, a4, a5, a6, a7, a8, a9, aA⟩, b⟩ := iA q hq
      have h3 := F3 q hq
      rw [i2 q hq, i3] at h3
      have z := hwz (S.1 1 0 + q) (by omega) (by omega)
      refine ⟨⟨(F4 2 _ (by decide)).trans a1, (F4 3 _ (by decide)).trans a2, (F4 5 _ (by decide)).trans a3, (F4 6 _ (by decide)).trans a4, h3.2.2.1, (F4 14 _ (by decide)).trans a6, by rw [FD]; exact a7, by rw [FD]; exact a8, by rw [FD]; exact a9, by rw [FA 15 (by decide) (by decide)]; exact aA⟩, fun j hj => ?_, fun j hj => ?_⟩
      · rw [FA 7 (by decide) (by decide), b j hj]
        by_cases h : j < nfac (S.1 2 (S.1 18 (10 * c + q)))
        · rw [if_pos h, if_pos h]
        · rw [if_neg h, if_neg h]
          exact z.2.2 j hj
      · rw [FA 13 (by decide) (by decide), i6 13 (by decide)]
        exact z.1 j hj
    · funext j
      rw [F4 k j (fun q => by revert q hk; revert k; decide)]
      exact congrFun (i4 k (fun q => by revert q hk; revert k; decide)) j
end CONVF
