/-! what is told of sections and chains -/
section READ
variable {G : GT} {E B bx m : Nat} {ad : Nat → Nat} {S : ST} {A : AT} {C : CT} {T : MT}
theorem numberOf_of (J : JJ G E B bx m ad S A C T) {n : Nat} (h : n ≤ S.1 16 0) : c_B_numberOf (oA A 1 n) C = some (im n) := by
  unfold c_B_numberOf
  cases n with
  | zero => rfl
  | succ n =>
    show jon (some (A 1 n)) _ _ = _
    rw [jon_some, rc_number (jj_c J (by omega)), obd_some, im_succ]
theorem home_le (J : JJ G E B bx m ad S A C T) {s : Nat} (hs : s < S.1 1 0) : S.1 8 s ≤ S.1 16 0 := by
  have := (jj_ws J hs).2.2.2.2.1
  cases e : S.1 8 s with
  | zero => omega
  | succ n => have := (this n e).1; omega
theorem inner_le (J : JJ G E B bx m ad S A C T) {s : Nat} (hs : s < S.1 1 0) : S.1 10 s ≤ S.1 16 0 := by
  have := (jj_ws J hs).2.2.2.2.2.1
  cases e : S.1 10 s with
  | zero => omega
  | succ n => have := (this n e).2.1; omega
theorem sim_about {N M : Nat} : ls_12 N M bx (II G E B bx m ad) (II G E B bx m ad) := by
  rintro C T v w ⟨S, A, J⟩
  have hb := jj_b J
  have ho : cob C bx 0 = true := cob_of (rb_tag hb)
  have hn := (jj_n J).1
  rcases sec_or J v with ⟨s, hs, rfl, e1, e2⟩ | ⟨e1, e2⟩
  · have hsr := jj_s J hs
    have hj : jrg 60 (i32 s) = some s := jrg_i32 (by omega) (by decide)
    refine ⟨if w = 0 then i32 (S.1 2 s) else if w = 1 then i32 (S.1 3 s) else if w = 2 then S.2.2 4 s else if w = 3 then im (S.1 8 s) else if w = 4 then im (S.1 9 s) else if w = 5 then S.2.2 11 s else if w = 6 then S.2.2 12 s else if w = 7 then im (S.1 10 s) else if w = 8 then i32 (S.1 5 s) else if w = 9 then i32 (S.1 6 s) else -1, C, T, ⟨?_, rfl⟩, ⟨?_, rfl⟩, S, A, J⟩
    · unfold c_B_about
      rw [ho, jgd_true, e2, obd_some, jon_some, rs_kind hsr, rs_sort hsr, rs_length hsr, rs_home hsr, rs_place hsr, rs_overs hsr, rs_touches hsr, rs_inner hsr, rs_rounding hsr, rs_limit hsr]
      simp only [obd_some, numberOf_of J (home_le J hs), numberOf_of J (inner_le J hs), apply_ite (some (α := Int32))]
    · unfold h_R_about
      rw [e1, obd_some, if_pos rfl, hj]
      simp only [obd_some]
      rw [jj_N J 2 (by decide), jj_N J 3 (by decide), jj_I J 4 (by decide), jj_M J 8 (by decide), jj_M J 9 (by decide), jj_I J 11 (by decide), jj_I J 12 (by decide), jj_M J 10 (by decide), jj_N J 5 (by decide), jj_N J 6 (by decide)]
      simp only [apply_ite (some (α := Int32))]
  · refine ⟨-1, C, T, ⟨?_, rfl⟩, ⟨?_, rfl⟩, S, A, J⟩
    · unfold c_B_about
      rw [ho, jgd_true, e2, obd_some, jon_none]
    · unfold h_R_about
      rw [e1]; rfl
/-- the members of a chain -/
theorem member_of (J : JJ G E B bx m ad S A C T) {c p : Nat} (hc : c < S.1 16 0) (hp : p < 2 ^ 31) : c_Chain_memberAt (A 1 c) (i32 p) C = some (if p < S.1 17 c then some (A 7 (S.1 18 (10 * c + p))) else none) := by
  have hr := jj_c J hc
  have h10 := (jj_wc J hc).1.1
  unfold c_Chain_memberAt
  rw [if_neg (i32_nonneg hp), rc_size hr, obd_some]
  by_cases h : p < S.1 17 c
  · rw [if_neg (by rw [i32_le (by omega) hp]; omega), rc_members hr, obd_some, obd_some, cal_of (n := 10) (by rw [hr.2.1.1]; decide) hr.2.1.2.1, obd_some, if_pos (by rw [i32_lt hp (by omega)]; omega), obd_some, obd_some,
      caA_of (ci := 7) (n := 10) hr.2.1.1 (by decide) hr.2.1.2.1 (by omega) (by decide), obd_some, hr.2.1.2.2 p (by omega)]
  · rw [if_pos (by rw [i32_le (by omega) hp]; omega), if_neg h]; rfl
theorem places_lt (J : JJ G E B bx m ad S A C T) {c p : Nat} (hc : c < S.1 16 0) (hp : p < S.1 17 c) : S.1 18 (10 * c + p) < S.1 1 0 := ((jj_wc J hc).2.1 p hp).1
/-- the sort of a chain, of both -/
theorem sort_of (J : JJ G E B bx m ad S A C T) {c : Nat} (hc : c < S.1 16 0) : c_Chain_sort (A 1 c) C = some (if S.1 17 c = 0 then -1 else i32 (cso S c)) ∧ h_R_sortOf (i32 c) T = some (if S.1 17 c = 0 then -1 else i32 (cso S c)) := by
  have hr := jj_c J hc
  have hn := (jj_n J)
  have h10 := (jj_wc J hc).1.1
  constructor
  · unfold c_Chain_sort
    rw [cob_of (rc_tag hr), jgd_true, show (0 : Int32) = i32 0 from rfl, member_of J hc (by decide), obd_some]
    by_cases h : S.1 17 c = 0
    · rw [if_neg (by omega), if_pos h, jon_none]
    · rw [if_pos (by omega), if_neg h, jon_some, rs_sort (jj_s J (places_lt J hc (by omega))), obd_some]
      rfl
  · unfold h_R_sortOf
    rw [jrg_i32 (by omega) (by decide), obd_some, jj_N J 17 (by decide)]
    by_cases h : S.1 17 c = 0
    · rw [if_pos h, h, if_pos (by rfl)]
    · rw [if_neg h, if_neg (show ¬ i32 (S.1 17 c) = 0 from i32_ne (b := 0) (by omega) (by decide) h), show (10 : Int32) = i32 10 from rfl, i32_mul, jrg_i32 (by omega) (by decide), obd_some, jj_N J 18 (by decide),
        jrg_i32 (by have := places_lt J hc (p := 0) (by omega); rw [Nat.add_zero] at this; omega) (by decide), obd_some, jj_N J 3 (by decide)]
      rfl
theorem sim_chain2 {N M : Nat} : ls_24 N M bx (II G E B bx m ad) (II G E B bx m ad) := by
  rintro C T v w ⟨S, A, J⟩
  have hb := jj_b J
  have ho : cob C bx 0 = true := cob_of (rb_tag hb)
  have hn := (jj_n J).2.1
  rcases ch_or J v with ⟨c, hc, rfl, e1, e2⟩ | ⟨e1, e2⟩
  · have hr := jj_c J hc
    have hj : jrg 20 (i32 c) = some c := jrg_i32 (by omega) (by decide)
    have hs := sort_of J hc
    refine ⟨if w = 0 then i32 (S.1 17 c) else if w = 1 then i32 (S.1 20 c) else if w = 2 then i32 (S.1 28 c) else if w = 3 then im (S.1 19 c) else if w = 4 then (if S.1 17 c = 0 then -1 else i32 (cso S c)) else -1, C, T, ⟨?_, rfl⟩, ⟨?_, rfl⟩, S, A, J⟩
    · unfold c_B_chain_2
      rw [ho, jgd_true, e2, obd_some, jon_some, rc_size hr, rc_loopCount hr, rc_total hr, rc_holder hr, cob_of (rc_tag hr), hs.1]
      simp only [obd_some, jgd_true]
      by_cases w0 : w = 0
      · rw [if_pos w0, if_pos w0]
      · rw [if_neg w0, if_neg w0]
        by_cases w1 : w = 1
        · rw [if_pos w1, if_pos w1]
        · rw [if_neg w1, if_neg w1]
          by_cases w2 : w = 2
          · rw [if_pos w2, if_pos w2]
          · rw [if_neg w2, if_neg w2]
            by_cases w3 : w = 3
            · rw [if_pos w3, if_pos w3]
              cases e : S.1 19 c with
              | zero => rfl
              | succ n =>
                have hlt := ((jj_wc J hc).2.2.1 n e).1
                show jon (some (A 7 n)) _ _ = _
                rw [jon_some]
                show obd (some (A 7 n)) _ = _
                rw [obd_some, rs_number (jj_s J hlt), obd_some, im_succ]
            · rw [if_neg w3, if_neg w3]
              by_cases w4 : w = 4
              · rw [if_pos w4, if_pos w4]
              · rw [if_neg w4, if_neg w4]
    · unfold h_R_chain_2
      rw [e1, obd_some, if_pos rfl, hj, hs.2]
      simp only [obd_some]
      rw [jj_N J 17 (by decide), jj_N J 20 (by decide), jj_N J 28 (by decide), jj_M J 19 (by decide)]
      by_cases w0 : w = 0
      · rw [if_pos w0, if_pos w0]
      · rw [if_neg w0, if_neg w0]
        by_cases w1 : w = 1
        · rw [if_pos w1, if_pos w1]
        · rw [if_neg w1, if_neg w1]
          by_cases w2 : w = 2
          · rw [if_pos w2, if_pos w2]
          · rw [if_neg w2, if_neg w2]
            by_cases w3 : w = 3
            · rw [if_pos w3, if_pos w3]
            · rw [if_neg w3, if_neg w3]
              by_cases w4 : w = 4
              · rw [if_pos w4, if_pos w4]
              · rw [if_neg w4, if_neg w4]
  · refine ⟨-1, C, T, ⟨?_, rfl⟩, ⟨?_, rfl⟩, S, A, J⟩
    · unfold c_B_chain_2
      rw [ho, jgd_true, e2, obd_some, jon_none]
    · unfold h_R_chain_2
      rw [e1]; rfl
/-- a cell of a ring -/
theorem ring_at {a n e k base r : Nat} {f : Nat → Int64} {row : Nat} (hrow : C.1 row = 7) (hc : C.2.2.2.2.1 96 row 0 = some a) (he : C.2.2.1 97 row 0 = i32 e) (h : ring C a n e f base r) (hk : k < n) (hn : n ≤ 64) : c_Row_at row (i32 k) C = some (f (base + (r + k) % n)) := by
  obtain ⟨h1, h2, h3, h4, h5⟩ := h
  have ga : cgA C row 6 0 = some (some a) := (if_pos hrow).trans (congrArg some hc)
  have gi : cgI C row 6 1 = some (i32 e) := (if_pos hrow).trans (congrArg some he)
  have gl : cal C a = some (i32 n) := cal_of (by rw [h1]; decide) h2
  have hix : c_Row_index row (i32 k) C = some (i32 ((e + k) % n)) := by
    unfold c_Row_index
    rw [gi, obd_some, ga, obd_some, obd_some, gl, obd_some, i32_add]
    by_cases q : e + k < n
    · rw [if_pos (by rw [i32_lt (by omega) (by omega)]; exact q), Nat.mod_eq_of_lt q]
    · rw [if_neg (by rw [i32_lt (by omega) (by omega)]; exact q), obd_some, obd_some, gl, obd_some, i32_sub (by omega)]
      have : (e + k) % n = e + k - n := by
        rw [Nat.mod_eq_sub_mod (by omega), Nat.mod_eq_of_lt (by omega)]
      rw [this]
  unfold c_Row_at
  rw [if_neg (i32_nonneg (by omega)), ga, obd_some, obd_some, gl, obd_some, if_pos (by rw [i32_lt (by omega) (by omega)]; exact hk), obd_some, cob_of hrow, jgd_true, hix, obd_some, obd_some,
    caJ_of h1 h2 (Nat.mod_lt _ (by omega)) (by omega), obd_some, h5 k hk]
theorem ring_off {a n e base r : Nat} {f : Nat → Int64} {row : Nat} {v : Int32} (hrow : C.1 row = 7) (hc : C.2.2.2.2.1 96 row 0 = some a) (h : ring C a n e f base r) (hk : v < 0 ∨ ∃ k, k < 2 ^ 31 ∧ v = i32 k ∧ n ≤ k) (hn : n ≤ 64) : c_Row_at row v C = some 0 := by
  have ga : cgA C row 6 0 = some (some a) := (if_pos hrow).trans (congrArg some hc)
  have gl : cal C a = some (i32 n) := cal_of (by rw [h.1]; decide) h.2.1
  unfold c_Row_at
  rcases hk with hk | ⟨k, h1, rfl, h2⟩
  · rw [if_pos hk]; rfl
  · rw [if_neg (i32_nonneg h1), ga, obd_some, obd_some, gl, obd_some, if_neg (by rw [i32_lt h1 (by omega)]; omega)]; rfl
end READ
