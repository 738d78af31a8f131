/-! the methods that only look up, and the smallest that change -/
section SIMPLE
variable {G : GT} {E B bx m : Nat} {ad : Nat → Nat} {S : ST} {A : AT} {C : CT} {T : MT}
theorem jj_b (J : JJ G E B bx m ad S A C T) : RCb S A C bx := J.2.1.1
theorem jj_s (J : JJ G E B bx m ad S A C T) {s : Nat} (h : s < S.1 1 0) : RCs S A C s := J.2.1.2.1 s h
theorem jj_c (J : JJ G E B bx m ad S A C T) {c : Nat} (h : c < S.1 16 0) : RCc S A C c := J.2.1.2.2.1 c h
theorem jj_n (J : JJ G E B bx m ad S A C T) : S.1 1 0 ≤ 60 ∧ S.1 16 0 ≤ 20 ∧ S.1 44 0 ≤ 8 := J.2.2.2.1.1
theorem jj_ws (J : JJ G E B bx m ad S A C T) {s : Nat} (h : s < S.1 1 0) : WFs S s := J.2.2.2.1.2.1 s h
theorem jj_wc (J : JJ G E B bx m ad S A C T) {c : Nat} (h : c < S.1 16 0) : WFc E S c := J.2.2.2.1.2.2.1 c h
theorem jj_rt (J : JJ G E B bx m ad S A C T) : RT S T := J.2.2.1
theorem jj_N (J : JJ G E B bx m ad S A C T) (k : Nat) (h : k ∈ rtN) (j : Nat) : T.1 k j = i32 (S.1 k j) := J.2.2.1.1 k h j
theorem jj_C (J : JJ G E B bx m ad S A C T) (k : Nat) (h : k ∈ rtC) : T.1 k 0 = i32 (S.1 k 0) := J.2.2.1.2.1 k h
theorem jj_M (J : JJ G E B bx m ad S A C T) (k : Nat) (h : k ∈ rtM) (j : Nat) : T.1 k j = im (S.1 k j) := J.2.2.1.2.2.1 k h j
theorem jj_I (J : JJ G E B bx m ad S A C T) (k : Nat) (h : k ∈ rtI) (j : Nat) : T.1 k j = S.2.2 k j := J.2.2.1.2.2.2.1 k h j
/-- looking up a section, a chain -/
theorem secAt_some (J : JJ G E B bx m ad S A C T) {s : Nat} (h : s < S.1 1 0) : c_B_sectionAt bx (i32 s) C = some (some (A 7 s)) := by
  have hb := jj_b J
  have hn := (jj_n J).1
  unfold c_B_sectionAt
  rw [if_neg (i32_nonneg (by omega)), rb_sectionCount hb, obd_some, if_neg (by rw [i32_le (by omega) (by omega)]; omega), rb_sections hb, obd_some, obd_some,
    cal_of (n := 60) (by rw [hb.2.2.2.1.1]; decide) hb.2.2.2.1.2.1, obd_some, if_pos (by rw [i32_lt (by omega) (by omega)]; omega), obd_some, obd_some,
    caA_of (ci := 7) (n := 60) hb.2.2.2.1.1 (by decide) hb.2.2.2.1.2.1 (by omega) (by decide), obd_some, hb.2.2.2.1.2.2 s (by omega), if_pos h]
theorem secAt_none (J : JJ G E B bx m ad S A C T) {v : Int32} (h : v < 0 ∨ ∃ n, n < 2 ^ 31 ∧ v = i32 n ∧ S.1 1 0 ≤ n) : c_B_sectionAt bx v C = some none := by
  have hb := jj_b J
  have hn := (jj_n J).1
  unfold c_B_sectionAt
  rcases h with h | ⟨n, h1, rfl, h2⟩
  · rw [if_pos h]; rfl
  · rw [if_neg (i32_nonneg h1), rb_sectionCount hb, obd_some, if_pos (by rw [i32_le (by omega) h1]; omega)]; rfl
theorem chAt_some (J : JJ G E B bx m ad S A C T) {c : Nat} (h : c < S.1 16 0) : c_B_chainAt bx (i32 c) C = some (some (A 1 c)) := by
  have hb := jj_b J
  have hn := (jj_n J).2.1
  unfold c_B_chainAt
  rw [if_neg (i32_nonneg (by omega)), rb_chainCount hb, obd_some, if_neg (by rw [i32_le (by omega) (by omega)]; omega), rb_chains hb, obd_some, obd_some,
    cal_of (n := 20) (by rw [hb.2.2.2.2.1.1]; decide) hb.2.2.2.2.1.2.1, obd_some, if_pos (by rw [i32_lt (by omega) (by omega)]; omega), obd_some, obd_some,
    caA_of (ci := 1) (n := 20) hb.2.2.2.2.1.1 (by decide) hb.2.2.2.2.1.2.1 (by omega) (by decide), obd_some, hb.2.2.2.2.1.2.2 c (by omega), if_pos h]
theorem chAt_none (J : JJ G E B bx m ad S A C T) {v : Int32} (h : v < 0 ∨ ∃ n, n < 2 ^ 31 ∧ v = i32 n ∧ S.1 16 0 ≤ n) : c_B_chainAt bx v C = some none := by
  have hb := jj_b J
  have hn := (jj_n J).2.1
  unfold c_B_chainAt
  rcases h with h | ⟨n, h1, rfl, h2⟩
  · rw [if_pos h]; rfl
  · rw [if_neg (i32_nonneg h1), rb_chainCount hb, obd_some, if_pos (by rw [i32_le (by omega) h1]; omega)]; rfl
/-- between two numbers -/
theorem in_i32 {v : Int32} {n : Nat} (hn : n < 2 ^ 31) : (g_R_in v 0 (i32 n - 1) = true ↔ ∃ k, k < n ∧ v = i32 k) := by
  unfold g_R_in
  rcases i32_or v with h | ⟨k, hk, rfl⟩
  · rw [if_pos h]
    refine ⟨fun q => (by cases q), fun ⟨k, h1, h2⟩ => ?_⟩
    subst h2
    exact absurd h (i32_nonneg (by omega))
  · rw [if_neg (i32_nonneg hk)]
    by_cases h0 : n = 0
    · subst h0
      rw [if_pos (by
        show im 0 < i32 k
        rw [im_zero, Int32.lt_iff_toInt_lt, i32_toInt hk]
        have : (-1 : Int32).toInt = -1 := rfl
        omega)]
      exact ⟨fun q => (by cases q), fun ⟨k', h1, _⟩ => absurd h1 (Nat.not_lt_zero _)⟩
    · rw [show i32 n - 1 = i32 (n - 1) from i32_sub (b := 1) (by omega)]
      by_cases h1 : k < n
      · rw [if_neg (by rw [i32_lt (by omega) hk]; omega)]
        exact ⟨fun _ => ⟨k, h1, rfl⟩, fun _ => rfl⟩
      · rw [if_pos (by rw [i32_lt (by omega) hk]; omega)]
        refine ⟨fun q => (by cases q), fun ⟨k', h2, h3⟩ => ?_⟩
        have := (i32_inj hk (by omega)).mp h3
        omega
/-- a section's number is one, or not -/
theorem sec_or (J : JJ G E B bx m ad S A C T) (v : Int32) : (∃ s, s < S.1 1 0 ∧ v = i32 s ∧ h_R_isSection v T = some true ∧ c_B_sectionAt bx v C = some (some (A 7 s))) ∨ (h_R_isSection v T = some false ∧ c_B_sectionAt bx v C = some none) := by
  have hn := (jj_n J).1
  have e : h_R_isSection v T = some (g_R_in v 0 (i32 (S.1 1 0) - 1)) := by
    unfold h_R_isSection
    rw [jj_C J 1 (by decide)]
  cases hq : g_R_in v 0 (i32 (S.1 1 0) - 1) with
  | true =>
    obtain ⟨s, h1, rfl⟩ := (in_i32 (by omega)).mp hq
    exact Or.inl ⟨s, h1, rfl, by rw [e, hq], secAt_some J h1⟩
  | false =>
    refine Or.inr ⟨by rw [e, hq], secAt_none J ?_⟩
    rcases i32_or v with h | ⟨k, hk, rfl⟩
    · exact Or.inl h
    · refine Or.inr ⟨k, hk, rfl, ?_⟩
      by_cases h1 : k < S.1 1 0
      · exact absurd ((in_i32 (by omega)).mpr ⟨k, h1, rfl⟩) (by rw [hq]; decide)
      · omega
theorem ch_or (J : JJ G E B bx m ad S A C T) (v : Int32) : (∃ c, c < S.1 16 0 ∧ v = i32 c ∧ h_R_isChain v T = some true ∧ c_B_chainAt bx v C = some (some (A 1 c))) ∨ (h_R_isChain v T = some false ∧ c_B_chainAt bx v C = some none) := by
  have hn := (jj_n J).2.1
  have e : h_R_isChain v T = some (g_R_in v 0 (i32 (S.1 16 0) - 1)) := by
    unfold h_R_isChain
    rw [jj_C J 16 (by decide)]
  cases hq : g_R_in v 0 (i32 (S.1 16 0) - 1) with
  | true =>
    obtain ⟨s, h1, rfl⟩ := (in_i32 (by omega)).mp hq
    exact Or.inl ⟨s, h1, rfl, by rw [e, hq], chAt_some J h1⟩
  | false =>
    refine Or.inr ⟨by rw [e, hq], chAt_none J ?_⟩
    rcases i32_or v with h | ⟨k, hk, rfl⟩
    · exact Or.inl h
    · refine Or.inr ⟨k, hk, rfl, ?_⟩
      by_cases h1 : k < S.1 16 0
      · exact absurd ((in_i32 (by omega)).mpr ⟨k, h1, rfl⟩) (by rw [hq]; decide)
      · omega
/-- count -/
theorem sim_count {N M : Nat} : ls_23 N M bx (II G E B bx m ad) (II G E B bx m ad) := by
  rintro C T v ⟨S, A, J⟩
  have hb := jj_b J
  have h1 := jj_C J 1 (by decide)
  have h2 := jj_C J 16 (by decide)
  have h3 := jj_C J 44 (by decide)
  refine ⟨if v = 0 then i32 (S.1 1 0) else if v = 1 then i32 (S.1 16 0) else if v = 2 then i32 (S.1 44 0) else -1, C, T, ⟨?_, rfl⟩, ⟨?_, rfl⟩, S, A, J⟩
  · unfold c_B_count
    by_cases e0 : v = 0
    · simp only [e0, if_true, rb_sectionCount hb, obd_some]
    · by_cases e1 : v = 1
      · subst e1; simp only [rb_chainCount hb, obd_some]; rfl
      · by_cases e2 : v = 2
        · subst e2; simp only [rb_keptCount hb, obd_some]; rfl
        · simp only [e0, e1, e2, if_false]
  · unfold h_R_count
    by_cases e0 : v = 0
    · simp only [e0, if_true, h1]
    · by_cases e1 : v = 1
      · subst e1; simp only [h2]; rfl
      · by_cases e2 : v = 2
        · subst e2; simp only [h3]; rfl
        · simp only [e0, e1, e2, if_false]
end SIMPLE
