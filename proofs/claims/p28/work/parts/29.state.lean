/-! state, output -/
theorem div_i32 {a b : Nat} (ha : a < 2 ^ 31) (hb : b < 2 ^ 31) : i32 a / i32 b = i32 (a / b) := by
  apply Int32.toInt_inj.mp
  have h1 : a / b ≤ a := Nat.div_le_self a b
  rw [Int32.toInt_div, i32_toInt ha, i32_toInt hb, i32_toInt (by omega)]
  have : ((a : Int).tdiv (b : Int)) = ((a / b : Nat) : Int) := by
    rw [Int.tdiv_eq_ediv_of_nonneg (by omega)]; rfl
  rw [this]
  generalize a / b = q at h1
  exact Int.bmod_eq_of_le (by omega) (by omega)
theorem rem_i32 {a b : Nat} (ha : a < 2 ^ 31) (hb : b < 2 ^ 31) : i32 a - i32 a / i32 b * i32 b = i32 (a % b) := by
  have h1 := Nat.div_add_mod a b
  have h2 : a / b * b ≤ a := Nat.div_mul_le_self a b
  rw [div_i32 ha hb, i32_mul, i32_sub h2]
  congr 1
  rw [Nat.mul_comm] at h1
  omega
theorem jrem_i32 {a b : Nat} (ha : a < 2 ^ 31) (hb : b < 2 ^ 31) (h0 : b ≠ 0) : jremI (i32 a) (i32 b) = some (i32 (a % b)) := by
  unfold jremI
  rw [if_neg (show ¬ i32 b = 0 from i32_ne (b := 0) hb (by decide) h0), rem_i32 ha hb]
section STATE
variable {G : GT} {E B bx m : Nat} {ad : Nat → Nat} {S : ST} {A : AT} {C : CT} {T : MT}
/-- a length between two numbers is a number -/
theorem len_i32 {v : Int32} {n : Nat} (h1 : 1 ≤ v.toInt) (h2 : v.toInt ≤ n) (hn : n < 2 ^ 31) : v = i32 v.toNatClampNeg ∧ 1 ≤ v.toNatClampNeg ∧ v.toNatClampNeg ≤ n := by
  have e : (v.toNatClampNeg : Int) = v.toInt := by
    show ((v.toInt.toNat : Nat) : Int) = v.toInt
    omega
  refine ⟨?_, by omega, by omega⟩
  apply Int32.toInt_inj.mp
  rw [i32_toInt (by omega)]
  omega
theorem ring_len (J : JJ G E B bx m ad S A C T) {s : Nat} (hs : s < S.1 1 0) (hk : ringy (S.1 2 s) = true) : S.2.2 4 s = i32 (rln S s) ∧ 1 ≤ rln S s ∧ rln S s ≤ 64 := by
  obtain ⟨l1, l2, -⟩ := (jj_ws J hs).1.2.2
  have hk' : S.1 2 s = 6 ∨ S.1 2 s = 7 ∨ S.1 2 s = 8 := by
    unfold ringy at hk
    simp only [Bool.or_eq_true, beq_iff_eq] at hk
    omega
  have e : rln S s = (S.2.2 4 s).toNatClampNeg := by
    unfold rln nrow
    rcases hk' with h | h | h <;> rw [h] <;> rfl
  rw [e]
  rcases hk' with h | h | h
  · have := l1 (Or.inl h)
    exact len_i32 this.1 this.2 (by decide)
  · have := l2 h
    exact len_i32 this.1 (by omega) (by decide)
  · have := l1 (Or.inr h)
    exact len_i32 this.1 this.2 (by decide)
theorem rln_le (J : JJ G E B bx m ad S A C T) {s : Nat} (hs : s < S.1 1 0) : rln S s ≤ 64 := by
  by_cases h : ringy (S.1 2 s) = true
  · exact (ring_len J hs h).2.2
  · have hk := (jj_ws J hs).1.1
    unfold ringy at h
    simp only [Bool.or_eq_true, beq_iff_eq] at h
    unfold rln nrow
    split <;> first | omega | (exfalso; omega)
/-- state 0 to n - 1 of a section that is no ring, as the reference has it -/
theorem st_dv (J : JJ G E B bx m ad S A C T) {s k : Nat} (hs : s < S.1 1 0) (hk : k < 64) : h_R_st (i32 s) (i32 k) T = some (dv (vso S s) (S.2.1 13 (64 * s + k))) := by
  have hn := (jj_n J).1
  unfold h_R_st
  rw [show (64 : Int32) = i32 64 from rfl, i32_mul, i32_add, jrg_i32 (by omega) (by decide), obd_some, (jj_rt J).2.2.2.2.2.2.1, show (64 * s + k) / 64 = s by omega]
theorem vso_ne {s : Nat} (h : S.1 2 s ≠ 12) : vso S s = S.1 3 s := if_neg h
theorem st175 (J : JJ G E B bx m ad S A C T) {s n : Nat} (hs : s < S.1 1 0) (h12 : S.1 2 s ≠ 12) (hn : n ≤ 64) (v : Int32) : h_R_state_175 (i32 s) v (i32 n) T = some (if v.toInt < n ∧ 0 ≤ v.toInt then S.2.1 13 (64 * s + v.toInt.toNat) else 0) := by
  have h60 := (jj_n J).1
  have hws := jj_ws J hs
  unfold h_R_state_175
  cases hg : g_R_in v 0 (i32 n - 1) with
  | true =>
    obtain ⟨k, h1, rfl⟩ := (in_i32 (by omega)).mp hg
    rw [if_pos rfl, jrg_i32 (by omega) (by decide), obd_some, st_dv J hs (by omega), obd_some, jj_N J 3 (by decide), vso_ne h12, bitsOf_dv hws.1.2.1 (by have := hws.2.2.2.2.2.2.2.2.2.1 k (by omega); rw [vso_ne h12] at this; exact this), obd_some, i32_toInt (by omega), if_pos (by omega)]
    rfl
  | false =>
    rw [if_neg (by decide), if_neg]
    intro q
    rcases i32_or v with h | ⟨k, hk, rfl⟩
    · rw [Int32.lt_iff_toInt_lt] at h
      have : (0 : Int32).toInt = 0 := rfl
      omega
    · rw [i32_toInt hk] at q
      have := (in_i32 (n := n) (by omega)).mpr ⟨k, by omega, rfl⟩
      rw [hg] at this; cases this
/-- a section's rest, a row of one -/
theorem rest_ring {s : Nat} (h : RCs S A C s) : ring C (A 98 s) 1 0 (S.2.1 15) s 0 := by
  obtain ⟨-, -, -, -, r5, r6, r7⟩ := h.2.1.2.2.1
  refine ⟨r5, r6, Or.inl rfl, Or.inl rfl, fun k hk => ?_⟩
  have : k = 0 := by omega
  subst this
  exact r7
theorem rest_at {s : Nat} (h : RCs S A C s) : c_Row_at (A 121 s) 0 C = some (S.2.1 15 s) := by
  obtain ⟨-, r2, r3, r4, -⟩ := h.2.1.2.2.1
  have e := ring_at (k := 0) r2 r3 (show C.2.2.1 97 (A 121 s) 0 = i32 0 from r4) (rest_ring h) (by decide) (by decide)
  exact e
/-- a section's row, as the class has it -/
theorem row_at (J : JJ G E B bx m ad S A C T) {s : Nat} (hs : s < S.1 1 0) (v : Int32) : c_Row_at (A 118 s) v C = some (if v.toInt < rln S s ∧ 0 ≤ v.toInt then S.2.1 13 (64 * s + (S.1 14 s + v.toInt.toNat) % rln S s) else 0) := by
  obtain ⟨r1, r2, r3, r4⟩ := (jj_s J hs).2.2.2
  have hl := rln_le J hs
  rcases i32_or v with h | ⟨k, hk, rfl⟩
  · rw [ring_off r1 r2 r4 (Or.inl h) hl, if_neg]
    rw [Int32.lt_iff_toInt_lt] at h
    have : (0 : Int32).toInt = 0 := rfl
    omega
  · rw [i32_toInt hk]
    by_cases q : k < rln S s
    · rw [ring_at r1 r2 r3 r4 q hl, if_pos (by omega)]; rfl
    · rw [ring_off r1 r2 r4 (Or.inr ⟨k, hk, rfl, by omega⟩) hl, if_neg (by omega)]
theorem sim_state {N M : Nat} : ls_11 N M bx (II G E B bx m ad) (II G E B bx m ad) := by
  rintro C T v k ⟨S, A, J⟩
  have hb := jj_b J
  have ho : cob C bx 0 = true := cob_of (rb_tag hb)
  have hn := (jj_n J).1
  rcases sec_or J v with ⟨s, hs, rfl, e1, e2⟩ | ⟨e1, e2⟩
  · have hsr := jj_s J hs
    have hws := jj_ws J hs
    have hj : jrg 60 (i32 s) = some s := jrg_i32 (by omega) (by decide)
    by_cases h100 : k = 100
    · refine ⟨S.2.1 15 s, C, T, ⟨?_, rfl⟩, ⟨?_, rfl⟩, S, A, J⟩
      · unfold c_B_state
        rw [ho, jgd_true, e2, obd_some, jon_some, if_pos h100, rs_rest hsr, obd_some, obd_some, cob_of (show C.1 (A 121 s) = 6 + 1 from hsr.2.1.2.2.1.2.1), jgd_true, rest_at hsr, obd_some]
      · unfold h_R_state
        rw [e1, obd_some, if_pos rfl, if_pos h100, hj, obd_some, (jj_rt J).2.2.2.2.1 15 (by decide)]
    · refine ⟨if k.toInt < rln S s ∧ 0 ≤ k.toInt then S.2.1 13 (64 * s + (S.1 14 s + k.toInt.toNat) % rln S s) else 0, C, T, ⟨?_, rfl⟩, ⟨?_, rfl⟩, S, A, J⟩
      · unfold c_B_state
        rw [ho, jgd_true, e2, obd_some, jon_some, if_neg h100, rs_states hsr, obd_some, obd_some, cob_of (show C.1 (A 118 s) = 6 + 1 from hsr.2.2.2.1), jgd_true, row_at J hs, obd_some]
      · unfold h_R_state
        rw [e1, obd_some, if_pos rfl, if_neg h100, hj, obd_some, jj_N J 2 (by decide)]
        have flat : ∀ n, n ≤ 64 → ringy (S.1 2 s) = false → rln S s = n → S.1 2 s ≠ 12 → h_R_state_175 (i32 s) k (i32 n) T = some (if k.toInt < rln S s ∧ 0 ≤ k.toInt then S.2.1 13 (64 * s + (S.1 14 s + k.toInt.toNat) % rln S s) else 0) := by
          intro n hn2 hr hl h12
          rw [st175 J hs h12 hn2, hl, (hws.2.2.2.2.2.2.2.1 hr).1]
          by_cases q : k.toInt < n ∧ 0 ≤ k.toInt
          · rw [if_pos q, if_pos q, Nat.zero_add, Nat.mod_eq_of_lt (by omega)]
          · rw [if_neg q, if_neg q]
        have ring107 : ringy (S.1 2 s) = true → S.1 2 s ≠ 12 → h_R_state_107 (i32 s) k T = some (if k.toInt < rln S s ∧ 0 ≤ k.toInt then S.2.1 13 (64 * s + (S.1 14 s + k.toInt.toNat) % rln S s) else 0) := by
          intro hr h12
          obtain ⟨l1, l2, l3⟩ := ring_len J hs hr
          have hr14 := hws.2.2.2.2.2.2.1
          unfold h_R_state_107
          rw [hj, obd_some, jj_I J 4 (by decide), l1]
          cases hg : g_R_in k 0 (i32 (rln S s) - 1) with
          | true =>
            obtain ⟨z, h1, rfl⟩ := (in_i32 (by omega)).mp hg
            rw [if_pos rfl, obd_some, obd_some, obd_some, jj_N J 14 (by decide), jj_I J 4 (by decide), l1, i32_add, jrem_i32 (by omega) (by omega) (by omega), obd_some, st_dv J hs (by have := Nat.mod_lt (S.1 14 s + z) (show 0 < rln S s by omega); omega), obd_some, jj_N J 3 (by decide), vso_ne h12,
              bitsOf_dv hws.1.2.1 (by have := hws.2.2.2.2.2.2.2.2.2.1 ((S.1 14 s + z) % rln S s) (by have := Nat.mod_lt (S.1 14 s + z) (show 0 < rln S s by omega); omega); rw [vso_ne h12] at this; exact this), obd_some, i32_toInt (by omega), if_pos (by omega)]
            rfl
          | false =>
            rw [if_neg (by decide), if_neg]
            intro q
            rcases i32_or k with h | ⟨z, hz, rfl⟩
            · rw [Int32.lt_iff_toInt_lt] at h
              have : (0 : Int32).toInt = 0 := rfl
              omega
            · rw [i32_toInt hz] at q
              have := (in_i32 (n := rln S s) (by omega)).mpr ⟨z, by omega, rfl⟩
              rw [hg] at this; cases this
        have hkd := hws.1.1
        have rl : rln S s = nrow (S.1 2 s) (S.2.2 4 s) := rfl
        generalize hK : S.1 2 s = kd at hkd flat ring107 rl
        match kd, hkd with
        | 0, _ => exact flat 0 (by decide) rfl rl (by decide)
        | 1, _ => exact flat 1 (by decide) rfl rl (by decide)
        | 2, _ => exact flat 4 (by decide) rfl rl (by decide)
        | 3, _ => exact flat 2 (by decide) rfl rl (by decide)
        | 4, _ => exact flat 2 (by decide) rfl rl (by decide)
        | 5, _ => exact flat 1 (by decide) rfl rl (by decide)
        | 6, _ => exact ring107 rfl (by decide)
        | 7, _ => exact ring107 rfl (by decide)
        | 8, _ => exact ring107 rfl (by decide)
        | 9, _ => exact flat 0 (by decide) rfl rl (by decide)
        | 10, _ => exact flat 0 (by decide) rfl rl (by decide)
        | 11, _ => exact flat 1 (by decide) rfl rl (by decide)
        | 12, _ =>
          have hr := hws.2.2.2.2.2.2.2.1 (by rw [hK]; rfl)
          have h1 : rln S s = 1 := rl
          have hv := hws.2.2.2.2.2.2.2.2.2.1 0 (by decide)
          have hvs : vso S s = 2 := if_pos hK
          rw [hvs] at hv
          rw [h1, hr.1]
          simp only [show (i32 12 = 1) = False from by simp; decide, show (i32 12 = 2) = False from by simp; decide, show (i32 12 = 3) = False from by simp; decide, show (i32 12 = 4) = False from by simp; decide, show (i32 12 = 5) = False from by simp; decide, show (i32 12 = 6) = False from by simp; decide, show (i32 12 = 7) = False from by simp; decide, show (i32 12 = 8) = False from by simp; decide, show (i32 12 = 9) = False from by simp; decide, show (i32 12 = 10) = False from by simp; decide, show (i32 12 = 11) = False from by simp; decide, show (i32 12 = 12) = True from by simp; decide, if_true, if_false]
          by_cases hk0 : k = 0
          · subst hk0
            rw [if_pos rfl, show (0 : Int32) = i32 0 from rfl, st_dv J hs (by decide), obd_some, hvs, dv2, d2l_l2d' hv.1 hv.2, i32_toInt (by decide), if_pos (by decide)]
            rfl
          · rw [if_neg hk0, if_neg]
            intro q
            apply hk0
            apply Int32.toInt_inj.mp
            have : (0 : Int32).toInt = 0 := rfl
            omega
        | 13, _ => exact flat 0 (by decide) rfl rl (by decide)
        | 14, _ => exact flat 0 (by decide) rfl rl (by decide)
        | 15, _ => exact flat 0 (by decide) rfl rl (by decide)
        | n + 16, h => exact absurd h (by omega)
  · refine ⟨0, C, T, ⟨?_, rfl⟩, ⟨?_, rfl⟩, S, A, J⟩
    · unfold c_B_state
      rw [ho, jgd_true, e2, obd_some, jon_none]
    · unfold h_R_state
      rw [e1]; rfl
end STATE
