/-! the reference is made -/
section RINIT
def rft (k : Nat) : FieldType := match mty k with | 4 => .int | 5 => .long | _ => .double
def rini (B v0 : Nat) : List Nat → JMem → Option JMem
  | [], μ => obd (jpF B 9 54 v0 (.int (-1 : Int32)) μ) fun μ148 => some μ148
  | k :: L, μ => jbd2 (jnA (rft k) (Int32.ofNat (mlen k)) μ) fun a μ2 => obd (jpF B 9 k v0 (rv (some a)) μ2) fun μ3 => rini B v0 L μ3
set_option maxRecDepth 10000 in
theorem rini_eq (B v0 : Nat) (μ : JMem) : g_R_init B v0 μ = rini B v0 marrs μ := rfl
/-- the reference's first state -/
def mT0 : MT := (fun k j => if k = 54 ∧ j = 0 then -1 else 0, fun _ _ => 0, fun _ _ => 0, fun _ => false)
def mad (m k : Nat) : Nat := if k = 0 then 0 else m + 1 + marrs.idxOf k
/-- its memory, up to its i-th row -/
def rgm (m : Nat) (h : Nat → Option JCell) (i : Nat) : Nat → Option JCell := fun a =>
  if a = m then some (.inl (9, fun j => if marrs.idxOf j < i then .ref (m + 1 + marrs.idxOf j) else defaultValue (jfty 9 j)))
  else if m < a ∧ a ≤ m + i then some (marr mT0 (marrs.getD (a - m - 1) 0)) else h a
theorem mr_len : marrs.length = 49 := by decide
theorem mr_in : ∀ i, i < 49 → marrs.getD i 0 ∈ marrs := by decide +kernel
theorem mr_idx : ∀ i, i < 49 → marrs.idxOf (marrs.getD i 0) = i := by decide +kernel
theorem mr_get : ∀ k, k ∈ marrs → marrs.getD (marrs.idxOf k) 0 = k := by decide +kernel
theorem mr_lt : ∀ k, k ∈ marrs → marrs.idxOf k < 49 := by decide +kernel
theorem mr_ok : ∀ k, k ∈ marrs → k ≠ 54 ∧ k ≠ 0 ∧ k < 68 ∧ mlen k ≤ 65536 ∧ 4 ≤ mty k ∧ mty k ≤ 6 := by decide +kernel
theorem mr_no : ∀ k, k < 68 → 4 ≤ mty k → k ∈ marrs := by decide +kernel
theorem mr_ft : ∀ k, k < 68 → mty k < 4 → jfty 9 k = (match mty k with | 0 => .int | 1 => .long | 2 => .double | _ => .boolean) := by decide +kernel
theorem mr_marr {k : Nat} (hk : k ∈ marrs) : marr mT0 k = .inr (rft k, mlen k, fun _ => defaultValue (rft k)) := by
  obtain ⟨h1, h2, h3, h4, h5, h6⟩ := mr_ok k hk
  have hz : ∀ j, mT0.1 k j = 0 := fun j => if_neg (fun q => h1 q.1)
  have e : mty k = 4 ∨ mty k = 5 ∨ mty k = 6 := by omega
  unfold marr rft
  rcases e with e | e | e
  · rw [e]
    show (Sum.inr (FieldType.int, mlen k, fun j => Value.int (mT0.1 k j)) : JCell) = _
    rw [show (fun j => Value.int (mT0.1 k j)) = fun _ => Value.int 0 from funext fun j => by rw [hz]]
    rfl
  · rw [e]; rfl
  · rw [e]; rfl
theorem rft_b (k : Nat) : componentBytes (rft k) ≤ 8 := by
  unfold rft
  split <;> decide
theorem rini_go {B m : Nat} {h : Nat → Option JCell} (hB : B ≤ m) : ∀ (q i n : Nat), i + q = 49 → ∃ n', rini B m (marrs.drop i) (rgm m h i, (m + 1 + i, n)) = obd (jpF B 9 54 m (.int (-1)) (rgm m h 49, (m + 50, n'))) (fun μ => some μ) ∧ n' = n + (sm (fun j => mlen (marrs.getD j 0)) 49 - sm (fun j => mlen (marrs.getD j 0)) i)
  | 0, i, n, hi => by
    have e : i = 49 := by omega
    subst e
    exact ⟨n, rfl, by omega⟩
  | q + 1, i, n, hi => by
    have hi49 : i < 49 := by omega
    have hin := mr_in i hi49
    have hix := mr_idx i hi49
    obtain ⟨g1, g2, g3, g4, g5, g6⟩ := mr_ok _ hin
    have hd : marrs.drop i = marrs.getD i 0 :: marrs.drop (i + 1) := by
      have : ∀ i, i < 49 → marrs.drop i = marrs.getD i 0 :: marrs.drop (i + 1) := by decide +kernel
      exact this i hi49
    obtain ⟨n', u1, u2⟩ := rini_go hB (h := h) q (i + 1) (n + mlen (marrs.getD i 0)) (by omega)
    have hmono : ∀ i, i < 49 → sm (fun j => mlen (marrs.getD j 0)) (i + 1) ≤ sm (fun j => mlen (marrs.getD j 0)) 49 := by decide +kernel
    have hm' := hmono i hi49
    have es : sm (fun j => mlen (marrs.getD j 0)) (i + 1) = sm (fun j => mlen (marrs.getD j 0)) i + mlen (marrs.getD i 0) := rfl
    refine ⟨n', ?_, by omega⟩
    rw [hd, ← u1]
    show jbd2 (jnA (rft (marrs.getD i 0)) (i32 (mlen (marrs.getD i 0))) (rgm m h i, (m + 1 + i, n))) (fun a μ2 => obd (jpF B 9 (marrs.getD i 0) m (rv (some a)) μ2) fun μ3 => rini B m (marrs.drop (i + 1)) μ3) = _
    have hb := rft_b (marrs.getD i 0)
    have hnA : jnA (rft (marrs.getD i 0)) (i32 (mlen (marrs.getD i 0))) (rgm m h i, (m + 1 + i, n)) = some (m + 1 + i, (jup (rgm m h i) (m + 1 + i) (.inr (rft (marrs.getD i 0), mlen (marrs.getD i 0), fun _ => defaultValue (rft (marrs.getD i 0)))), m + 1 + i + 1, n + mlen (marrs.getD i 0))) := by
      unfold jnA
      rw [i32_nat (by omega), if_pos ⟨i32_nonneg (by omega), by
        have := Nat.mul_le_mul g4 hb
        omega⟩]
    rw [hnA, jbd2_some]
    have hm : jup (rgm m h i) (m + 1 + i) (.inr (rft (marrs.getD i 0), mlen (marrs.getD i 0), fun _ => defaultValue (rft (marrs.getD i 0)))) m = some (.inl (9, fun j => if marrs.idxOf j < i then .ref (m + 1 + marrs.idxOf j) else defaultValue (jfty 9 j))) := by
      unfold jup
      rw [if_neg (by omega)]
      exact if_pos rfl
    have hpF : ∀ c, jpF B 9 (marrs.getD i 0) m (rv (some (m + 1 + i))) (jup (rgm m h i) (m + 1 + i) (.inr (rft (marrs.getD i 0), mlen (marrs.getD i 0), fun _ => defaultValue (rft (marrs.getD i 0)))), c) = some (rgm m h (i + 1), c) := fun c => by
      unfold jpF
      dsimp only
      rw [hm]
      dsimp only
      rw [if_pos ⟨rfl, hB⟩]
      refine congrArg some (Prod.ext (funext fun a => ?_) rfl)
      show jup (jup (rgm m h i) (m + 1 + i) _) m _ a = rgm m h (i + 1) a
      unfold jup
      by_cases e1 : a = m
      · rw [if_pos e1]
        unfold rgm
        rw [if_pos e1]
        refine congrArg some (congrArg Sum.inl (congrArg (Prod.mk 9) (funext fun j => ?_)))
        unfold updV
        by_cases e2 : j = marrs.getD i 0
        · rw [if_pos e2, e2, hix, if_pos (by omega)]; rfl
        · have e3 : marrs.idxOf j ≠ i := fun z => by
            have hj : j ∈ marrs := List.idxOf_lt_length_iff.mp (by rw [z, mr_len]; exact hi49)
            exact e2 (by rw [← mr_get j hj, z])
          rw [if_neg e2]
          dsimp only
          by_cases e4 : marrs.idxOf j < i
          · rw [if_pos e4, if_pos (by omega)]
          · rw [if_neg e4, if_neg (by omega)]
      · rw [if_neg e1]
        by_cases e2 : a = m + 1 + i
        · rw [if_pos e2]
          unfold rgm
          rw [if_neg e1, if_pos (by omega), show a - m - 1 = i by omega, mr_marr hin]
        · rw [if_neg e2]
          unfold rgm
          rw [if_neg e1, if_neg e1]
          by_cases e3 : m < a ∧ a ≤ m + i
          · rw [if_pos e3, if_pos (by omega)]
          · rw [if_neg e3, if_neg (by omega)]
    rw [hpF, obd_some]
    rfl
theorem mad_ok {B m : Nat} (hB : B ≤ m) : MA B m (mad m) := by
  have e : ∀ k, k ∈ marrs → mad m k = m + 1 + marrs.idxOf k := fun k hk => if_neg (mr_ok k hk).2.1
  refine ⟨hB, fun k hk => by rw [e k hk]; omega, fun k hk k' hk' h => ?_⟩
  rw [e k hk, e k' hk'] at h
  rw [← mr_get k hk, ← mr_get k' hk', show marrs.idxOf k = marrs.idxOf k' by omega]
theorem rgm_obj {m j : Nat} : updV (fun j => if marrs.idxOf j < 49 then .ref (m + 1 + marrs.idxOf j) else defaultValue (jfty 9 j)) 54 (.int (-1)) j = mobj mT0 (mad m) j := by
  unfold updV mobj mval
  by_cases h54 : j = 54
  · subst h54; rfl
  · rw [if_neg h54]
    dsimp only
    by_cases hj : j ∈ marrs
    · obtain ⟨h1, h2, h3, h4, h5, h6⟩ := mr_ok j hj
      rw [if_pos (mr_lt j hj)]
      have e : mty j = 4 ∨ mty j = 5 ∨ mty j = 6 := by omega
      have em : mad m j = m + 1 + marrs.idxOf j := if_neg h2
      rcases e with e | e | e <;> rw [e] <;> exact (congrArg Value.ref em).symm
    · have hlt : ¬ marrs.idxOf j < 49 := fun z => hj (List.idxOf_lt_length_iff.mp (by rw [mr_len]; exact z))
      have hz : mT0.1 j 0 = 0 := if_neg (fun q => h54 q.1)
      rw [if_neg hlt]
      by_cases h68 : j < 68
      · have hm : mty j < 4 := by
          by_cases q : mty j < 4
          · exact q
          · exact absurd (mr_no j h68 (by omega)) hj
        rw [mr_ft j h68 hm]
        have e : mty j = 0 ∨ mty j = 1 ∨ mty j = 2 ∨ mty j = 3 := by omega
        rcases e with e | e | e | e <;> rw [e]
        · exact (congrArg Value.int hz).symm
        · rfl
        · rfl
        · rfl
      · obtain ⟨x, rfl⟩ : ∃ x, j = x + 68 := ⟨j - 68, by omega⟩
        exact (congrArg Value.int hz).symm
/-- the reference is made: its memory -/
theorem rini_of {B m n : Nat} {h : Nat → Option JCell} (hB : B ≤ m) : ∃ n', g_R_init B m (jnO 9 (h, (m, n))) = some (ov m (mad m) mT0 h, (m + 50, n')) ∧ n' = n + jnfl 9 + sm (fun j => mlen (marrs.getD j 0)) 49 := by
  have h0 : jnO 9 (h, (m, n)) = (rgm m h 0, (m + 1 + 0, n + jnfl 9)) := by
    unfold jnO
    refine Prod.ext (funext fun a => ?_) rfl
    show jup h m (.inl (9, fun k => defaultValue (jfty 9 k))) a = rgm m h 0 a
    unfold jup rgm
    by_cases e : a = m
    · rw [if_pos e, if_pos e]
      refine congrArg some (congrArg Sum.inl (congrArg (Prod.mk 9) (funext fun j => ?_)))
      rw [if_neg (Nat.not_lt_zero _)]
    · rw [if_neg e, if_neg e, if_neg (by omega)]
  obtain ⟨n', u1, u2⟩ := rini_go (h := h) hB 49 0 (n + jnfl 9) rfl
  refine ⟨n', ?_, by rw [u2]; rfl⟩
  rw [rini_eq, h0]
  have u1 : rini B m marrs (rgm m h 0, (m + 1 + 0, n + jnfl 9)) = _ := u1
  rw [u1]
  have hm : rgm m h 49 m = some (.inl (9, fun j => if marrs.idxOf j < 49 then .ref (m + 1 + marrs.idxOf j) else defaultValue (jfty 9 j))) := if_pos rfl
  unfold jpF
  dsimp only
  rw [hm]
  dsimp only
  rw [if_pos ⟨rfl, hB⟩, obd_some]
  refine congrArg some (Prod.ext (funext fun a => ?_) rfl)
  show jup (rgm m h 49) m _ a = ov m (mad m) mT0 h a
  unfold jup
  by_cases e : a = m
  · rw [if_pos e, e, ov_obj]
    exact congrArg some (congrArg Sum.inl (congrArg (Prod.mk 9) (funext fun j => rgm_obj)))
  · rw [if_neg e]
    unfold rgm
    rw [if_neg e]
    by_cases e2 : m < a ∧ a ≤ m + 49
    · rw [if_pos e2]
      have hin := mr_in (a - m - 1) (by omega)
      have ea : mad m (marrs.getD (a - m - 1) 0) = a := by
        unfold mad
        rw [if_neg (mr_ok _ hin).2.1, mr_idx _ (by omega)]
        omega
      have := ov_arr (T := mT0) (h0 := h) (mad_ok hB) hin
      rw [ea] at this
      exact this.symm
    · rw [if_neg e2]
      unfold ov
      rw [if_neg e]
      have hf : marrs.find? (fun k => mad m k == a) = none := by
        rw [List.find?_eq_none]
        intro k hk q
        have hq : mad m k = a := beq_iff_eq.mp q
        have h1 := mr_lt k hk
        unfold mad at hq
        rw [if_neg (mr_ok k hk).2.1] at hq
        exact e2 (by omega)
      rw [hf]
end RINIT
