/-! output -/
section OUTPUT
variable {G : GT} {E B bx m : Nat} {ad : Nat → Nat} {S : ST} {A : AT} {C : CT} {T : MT}
/-- the latest but k, as the class tells it -/
theorem before_of (J : JJ G E B bx m ad S A C T) {c k : Nat} (hc : c < S.1 16 0) (hk : k < 2 ^ 31) : c_Chain_madeBefore (A 1 c) (i32 k) C = some (if k < min (S.1 28 c) 400 then S.2.1 27 (400 * c + (S.1 28 c - 1 - k) % 400) else 0) := by
  have hr := jj_c J hc
  have ht := (jj_wc J hc).2.2.2.2.2.2
  unfold c_Chain_madeBefore
  rw [if_neg (i32_nonneg hk), rc_held hr, obd_some]
  by_cases q : k < min (S.1 28 c) 400
  · have hm := Nat.mod_lt (S.1 28 c) (show 0 < 400 by decide)
    have e0 : (i32 (S.1 28 c % 400) - 1 - i32 k).toInt = ((S.1 28 c % 400 : Nat) : Int) - 1 - k := by
      rw [Int32.toInt_sub, Int32.toInt_sub, i32_toInt (by omega), i32_toInt hk]
      have : (1 : Int32).toInt = 1 := rfl
      rw [this, Int.bmod_eq_of_le (n := ((S.1 28 c % 400 : Nat) : Int) - 1) (by omega) (by omega)]
      exact Int.bmod_eq_of_le (by omega) (by omega)
    have end38 : ∀ at_, at_ < 400 → c_Chain_madeBefore_38 (A 1 c) (i32 at_) C = some (S.2.1 27 (400 * c + at_)) := by
      intro at_ h
      unfold c_Chain_madeBefore_38
      rw [if_neg (i32_nonneg (by omega)), rc_made hr, obd_some, obd_some, cal_of (n := 400) (by rw [hr.2.2.2.1.1]; decide) hr.2.2.2.1.2.1, obd_some, if_pos (by rw [i32_lt (by omega) (by omega)]; exact h), obd_some, obd_some,
        caJ_of hr.2.2.2.1.1 hr.2.2.2.1.2.1 h (by decide), obd_some, hr.2.2.2.1.2.2 at_ h]
    rw [if_pos (by rw [i32_lt hk (by omega)]; exact q), if_pos q, rc_next hr, obd_some]
    by_cases w : (k : Int) ≤ ((S.1 28 c % 400 : Nat) : Int) - 1
    · have e1 : i32 (S.1 28 c % 400) - 1 - i32 k = i32 (S.1 28 c % 400 - 1 - k) := by
        apply Int32.toInt_inj.mp
        rw [e0, i32_toInt (by omega)]
        omega
      rw [if_pos (by rw [e1]; rw [← Int32.not_lt]; exact i32_nonneg (by omega)), e1, end38 _ (by omega), show S.1 28 c % 400 - 1 - k = (S.1 28 c - 1 - k) % 400 by omega]
    · have e2 : ¬ (0 ≤ i32 (S.1 28 c % 400) - 1 - i32 k) := by
        rw [Int32.le_iff_toInt_le, e0]
        have : (0 : Int32).toInt = 0 := rfl
        omega
      have e1 : i32 (S.1 28 c % 400) - 1 - i32 k + i32 400 = i32 (S.1 28 c % 400 + 400 - 1 - k) := by
        apply Int32.toInt_inj.mp
        rw [Int32.toInt_add, e0, i32_toInt (n := 400) (by decide), i32_toInt (n := S.1 28 c % 400 + 400 - 1 - k) (by omega)]
        rw [Int.bmod_eq_of_le (by omega) (by omega)]
        omega
      rw [if_neg e2, rc_made hr, obd_some, obd_some, cal_of (n := 400) (by rw [hr.2.2.2.1.1]; decide) hr.2.2.2.1.2.1, obd_some, e1, end38 _ (by omega), show S.1 28 c % 400 + 400 - 1 - k = (S.1 28 c - 1 - k) % 400 by omega]
  · rw [if_neg (by rw [i32_lt hk (by omega)]; exact q), if_neg q]
theorem sim_output {N M : Nat} : ls_10 N M bx (II G E B bx m ad) (II G E B bx m ad) := by
  rintro C T v w ⟨S, A, J⟩
  have hb := jj_b J
  have ho : cob C bx 0 = true := cob_of (rb_tag hb)
  have hn := (jj_n J).2.1
  rcases ch_or J v with ⟨c, hc, rfl, e1, e2⟩ | ⟨e1, e2⟩
  · have hr := jj_c J hc
    have hwc := jj_wc J hc
    have ht := hwc.2.2.2.2.2.2
    have hj : jrg 20 (i32 c) = some c := jrg_i32 (by omega) (by decide)
    have hs := sort_of J hc
    rcases i32_or w with h0 | ⟨i, hi, rfl⟩
    · refine ⟨0, C, T, ⟨?_, rfl⟩, ⟨?_, rfl⟩, S, A, J⟩
      · unfold c_B_output c_Chain_madeAs
        rw [ho, jgd_true, e2, obd_some, jon_some, cob_of (rc_tag hr), jgd_true, if_pos h0]; rfl
      · unfold h_R_output h_R_isKeptOut
        rw [e1, obd_some, if_pos rfl, if_pos h0]; rfl
    · by_cases q1 : i < S.1 28 c
      · have es : i32 (S.1 28 c) - 1 - i32 i = i32 (S.1 28 c - 1 - i) := by
          rw [show (1 : Int32) = i32 1 from rfl, i32_sub (by omega), i32_sub (by omega)]
        have cl : c_B_output bx (i32 c) (i32 i) C = some (if S.1 28 c - 1 - i < min (S.1 28 c) 400 then S.2.1 27 (400 * c + (S.1 28 c - 1 - (S.1 28 c - 1 - i)) % 400) else 0) := by
          unfold c_B_output c_Chain_madeAs
          rw [ho, jgd_true, e2, obd_some, jon_some, cob_of (rc_tag hr), jgd_true, if_neg (i32_nonneg hi), rc_total hr, obd_some, if_pos (by rw [i32_lt hi (by omega)]; exact q1), obd_some, jgd_true, es, before_of J hc (by omega), obd_some, obd_some]
        have lt400 : (i32 i < i32 (S.1 28 c) - 400) ↔ i + 400 < S.1 28 c := by
          rw [Int32.lt_iff_toInt_lt, Int32.toInt_sub, i32_toInt hi, i32_toInt (by omega)]
          have : (400 : Int32).toInt = 400 := rfl
          rw [this, Int.bmod_eq_of_le (by omega) (by omega)]
          omega
        by_cases q2 : i + 400 < S.1 28 c
        · refine ⟨0, C, T, ⟨?_, rfl⟩, ⟨?_, rfl⟩, S, A, J⟩
          · rw [cl, if_neg (by omega)]
          · unfold h_R_output h_R_isKeptOut
            rw [e1, obd_some, if_pos rfl, if_neg (i32_nonneg hi), hj, obd_some, jj_N J 28 (by decide), if_neg (by rw [i32_le (by omega) hi]; omega), obd_some, jj_N J 28 (by decide), if_pos (lt400.mpr q2)]; rfl
        · have hm0 : S.1 17 c ≠ 0 := fun h => by have := (hwc.2.2.2.1 h).2.1; omega
          have hso : cso S c < 3 := by
            have := places_lt J hc (p := 0) (by omega)
            exact (jj_ws J this).1.2.1
          refine ⟨S.2.1 27 (400 * c + i % 400), C, T, ⟨?_, rfl⟩, ⟨?_, rfl⟩, S, A, J⟩
          · rw [cl, if_pos (by omega), show S.1 28 c - 1 - (S.1 28 c - 1 - i) = i by omega]
          · unfold h_R_output h_R_isKeptOut
            rw [e1, obd_some, if_pos rfl, if_neg (i32_nonneg hi), hj, obd_some, jj_N J 28 (by decide), if_neg (by rw [i32_le (by omega) hi]; omega), obd_some, jj_N J 28 (by decide), if_neg (fun z => q2 (lt400.mp z)), obd_some, if_pos rfl, hs.2, if_neg hm0, obd_some,
              show (400 : Int32) = i32 400 from rfl, rem_i32 hi (by decide), i32_mul, i32_add, jrg_i32 (by have := Nat.mod_lt i (show 0 < 400 by decide); omega) (by decide), obd_some, (jj_rt J).2.2.2.2.2.2.2.2.2.1,
              show (400 * c + i % 400) / 400 = c by omega, bitsOf_dv hso (hwc.2.2.2.2.2.1 (i % 400) (by omega)), obd_some]
      · refine ⟨0, C, T, ⟨?_, rfl⟩, ⟨?_, rfl⟩, S, A, J⟩
        · unfold c_B_output c_Chain_madeAs
          rw [ho, jgd_true, e2, obd_some, jon_some, cob_of (rc_tag hr), jgd_true, if_neg (i32_nonneg hi), rc_total hr, obd_some, if_neg (by rw [i32_lt hi (by omega)]; exact q1)]; rfl
        · unfold h_R_output h_R_isKeptOut
          rw [e1, obd_some, if_pos rfl, if_neg (i32_nonneg hi), hj, obd_some, jj_N J 28 (by decide), if_pos (by rw [i32_le (by omega) hi]; omega)]; rfl
  · refine ⟨0, C, T, ⟨?_, rfl⟩, ⟨?_, rfl⟩, S, A, J⟩
    · unfold c_B_output
      rw [ho, jgd_true, e2, obd_some, jon_none]
    · unfold h_R_output
      rw [e1]; rfl
end OUTPUT
