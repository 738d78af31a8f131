/-! any section but a spreader or a MIX that waits at work -/
section STEPS
variable {G : GT} {E B bx m s : Nat} {ad : Nat → Nat} {S : ST} {A : AT} {C : CT} {T : MT} {x made : Int64}
theorem stp_1 {N : Nat} (J : JJ G E B bx m ad S A C T) (hs : s < S.1 1 0) (hk : S.1 2 s = 1) {y : Int64} {C' : CT} (h : c_Section_pole (A 7 s) x C = some (y, C')) : c_Section_step N (A 7 s) x made C = some (y, C') := by
  have hr := jj_s J hs
  unfold c_Section_step
  rw [rs_kind hr, obd_some, hk, if_neg (by decide : ¬ (i32 1 : Int32) = 0), if_pos (by rfl : (i32 1 : Int32) = 1), cob_of (ci := 7) (rs_tag hr), jgd_true, h, cbd2_some]
theorem stp_2 {N : Nat} (J : JJ G E B bx m ad S A C T) (hs : s < S.1 1 0) (hk : S.1 2 s = 2) {y : Int64} {C' : CT} (h : c_Section_direct (A 7 s) x C = some (y, C')) : c_Section_step N (A 7 s) x made C = some (y, C') := by
  have hr := jj_s J hs
  unfold c_Section_step
  rw [rs_kind hr, obd_some, hk, if_neg (by decide : ¬ (i32 2 : Int32) = 0), if_neg (by decide : ¬ (i32 2 : Int32) = 1), if_pos (by rfl : (i32 2 : Int32) = 2), cob_of (ci := 7) (rs_tag hr), jgd_true, h, cbd2_some]
theorem stp_3 {N : Nat} (J : JJ G E B bx m ad S A C T) (hs : s < S.1 1 0) (hk : S.1 2 s = 3) {y : Int64} {C' : CT} (h : c_Section_second (A 7 s) x C = some (y, C')) : c_Section_step N (A 7 s) x made C = some (y, C') := by
  have hr := jj_s J hs
  unfold c_Section_step
  rw [rs_kind hr, obd_some, hk, if_neg (by decide : ¬ (i32 3 : Int32) = 0), if_neg (by decide : ¬ (i32 3 : Int32) = 1), if_neg (by decide : ¬ (i32 3 : Int32) = 2), if_pos (by rfl : (i32 3 : Int32) = 3), cob_of (ci := 7) (rs_tag hr), jgd_true, h, cbd2_some]
theorem stp_4 {N : Nat} (J : JJ G E B bx m ad S A C T) (hs : s < S.1 1 0) (hk : S.1 2 s = 4) {y : Int64} {C' : CT} (h : c_Section_turned (A 7 s) x C = some (y, C')) : c_Section_step N (A 7 s) x made C = some (y, C') := by
  have hr := jj_s J hs
  unfold c_Section_step
  rw [rs_kind hr, obd_some, hk, if_neg (by decide : ¬ (i32 4 : Int32) = 0), if_neg (by decide : ¬ (i32 4 : Int32) = 1), if_neg (by decide : ¬ (i32 4 : Int32) = 2), if_neg (by decide : ¬ (i32 4 : Int32) = 3), if_pos (by rfl : (i32 4 : Int32) = 4), cob_of (ci := 7) (rs_tag hr), jgd_true, h, cbd2_some]
theorem stp_5 {N : Nat} (J : JJ G E B bx m ad S A C T) (hs : s < S.1 1 0) (hk : S.1 2 s = 5) {y : Int64} {C' : CT} (h : c_Section_pass (A 7 s) x C = some (y, C')) : c_Section_step N (A 7 s) x made C = some (y, C') := by
  have hr := jj_s J hs
  unfold c_Section_step
  rw [rs_kind hr, obd_some, hk, if_neg (by decide : ¬ (i32 5 : Int32) = 0), if_neg (by decide : ¬ (i32 5 : Int32) = 1), if_neg (by decide : ¬ (i32 5 : Int32) = 2), if_neg (by decide : ¬ (i32 5 : Int32) = 3), if_neg (by decide : ¬ (i32 5 : Int32) = 4), if_pos (by rfl : (i32 5 : Int32) = 5), cob_of (ci := 7) (rs_tag hr), jgd_true, h, cbd2_some]
theorem stp_6 {N : Nat} (J : JJ G E B bx m ad S A C T) (hs : s < S.1 1 0) (hk : S.1 2 s = 6) {y : Int64} {C' : CT} (h : c_Section_delayed (A 7 s) x C = some (y, C')) : c_Section_step N (A 7 s) x made C = some (y, C') := by
  have hr := jj_s J hs
  unfold c_Section_step
  rw [rs_kind hr, obd_some, hk, if_neg (by decide : ¬ (i32 6 : Int32) = 0), if_neg (by decide : ¬ (i32 6 : Int32) = 1), if_neg (by decide : ¬ (i32 6 : Int32) = 2), if_neg (by decide : ¬ (i32 6 : Int32) = 3), if_neg (by decide : ¬ (i32 6 : Int32) = 4), if_neg (by decide : ¬ (i32 6 : Int32) = 5), if_pos (by rfl : (i32 6 : Int32) = 6), cob_of (ci := 7) (rs_tag hr), jgd_true, h, cbd2_some]
theorem stp_7 {N : Nat} (J : JJ G E B bx m ad S A C T) (hs : s < S.1 1 0) (hk : S.1 2 s = 7) {y : Int64} {C' : CT} (h : c_Section_mean N (A 7 s) x C = some (y, C')) : c_Section_step N (A 7 s) x made C = some (y, C') := by
  have hr := jj_s J hs
  unfold c_Section_step
  rw [rs_kind hr, obd_some, hk, if_neg (by decide : ¬ (i32 7 : Int32) = 0), if_neg (by decide : ¬ (i32 7 : Int32) = 1), if_neg (by decide : ¬ (i32 7 : Int32) = 2), if_neg (by decide : ¬ (i32 7 : Int32) = 3), if_neg (by decide : ¬ (i32 7 : Int32) = 4), if_neg (by decide : ¬ (i32 7 : Int32) = 5), if_neg (by decide : ¬ (i32 7 : Int32) = 6), if_pos (by rfl : (i32 7 : Int32) = 7), cob_of (ci := 7) (rs_tag hr), jgd_true, h, cbd2_some]
theorem stp_8 {N : Nat} (J : JJ G E B bx m ad S A C T) (hs : s < S.1 1 0) (hk : S.1 2 s = 8) {y : Int64} {C' : CT} (h : c_Section_comb (A 7 s) x C = some (y, C')) : c_Section_step N (A 7 s) x made C = some (y, C') := by
  have hr := jj_s J hs
  unfold c_Section_step
  rw [rs_kind hr, obd_some, hk, if_neg (by decide : ¬ (i32 8 : Int32) = 0), if_neg (by decide : ¬ (i32 8 : Int32) = 1), if_neg (by decide : ¬ (i32 8 : Int32) = 2), if_neg (by decide : ¬ (i32 8 : Int32) = 3), if_neg (by decide : ¬ (i32 8 : Int32) = 4), if_neg (by decide : ¬ (i32 8 : Int32) = 5), if_neg (by decide : ¬ (i32 8 : Int32) = 6), if_neg (by decide : ¬ (i32 8 : Int32) = 7), if_pos (by rfl : (i32 8 : Int32) = 8), cob_of (ci := 7) (rs_tag hr), jgd_true, h, cbd2_some]
theorem stp_9 {N : Nat} (J : JJ G E B bx m ad S A C T) (hs : s < S.1 1 0) (hk : S.1 2 s = 9) {y : Int64} {C' : CT} (h : c_Section_clipped (A 7 s) x C = some (y, C')) : c_Section_step N (A 7 s) x made C = some (y, C') := by
  have hr := jj_s J hs
  unfold c_Section_step
  rw [rs_kind hr, obd_some, hk, if_neg (by decide : ¬ (i32 9 : Int32) = 0), if_neg (by decide : ¬ (i32 9 : Int32) = 1), if_neg (by decide : ¬ (i32 9 : Int32) = 2), if_neg (by decide : ¬ (i32 9 : Int32) = 3), if_neg (by decide : ¬ (i32 9 : Int32) = 4), if_neg (by decide : ¬ (i32 9 : Int32) = 5), if_neg (by decide : ¬ (i32 9 : Int32) = 6), if_neg (by decide : ¬ (i32 9 : Int32) = 7), if_neg (by decide : ¬ (i32 9 : Int32) = 8), if_pos (by rfl : (i32 9 : Int32) = 9), cob_of (ci := 7) (rs_tag hr), jgd_true, h, cbd2_some]
theorem stp_10 {N : Nat} (J : JJ G E B bx m ad S A C T) (hs : s < S.1 1 0) (hk : S.1 2 s = 10) {y : Int64} {C' : CT} (h : c_Section_deadened (A 7 s) x C = some (y, C')) : c_Section_step N (A 7 s) x made C = some (y, C') := by
  have hr := jj_s J hs
  unfold c_Section_step
  rw [rs_kind hr, obd_some, hk, if_neg (by decide : ¬ (i32 10 : Int32) = 0), if_neg (by decide : ¬ (i32 10 : Int32) = 1), if_neg (by decide : ¬ (i32 10 : Int32) = 2), if_neg (by decide : ¬ (i32 10 : Int32) = 3), if_neg (by decide : ¬ (i32 10 : Int32) = 4), if_neg (by decide : ¬ (i32 10 : Int32) = 5), if_neg (by decide : ¬ (i32 10 : Int32) = 6), if_neg (by decide : ¬ (i32 10 : Int32) = 7), if_neg (by decide : ¬ (i32 10 : Int32) = 8), if_neg (by decide : ¬ (i32 10 : Int32) = 9), if_pos (by rfl : (i32 10 : Int32) = 10), cob_of (ci := 7) (rs_tag hr), jgd_true, h, cbd2_some]
theorem stp_11 {N : Nat} (J : JJ G E B bx m ad S A C T) (hs : s < S.1 1 0) (hk : S.1 2 s = 11) {y : Int64} {C' : CT} (h : c_Section_peak (A 7 s) x C = some (y, C')) : c_Section_step N (A 7 s) x made C = some (y, C') := by
  have hr := jj_s J hs
  unfold c_Section_step
  rw [rs_kind hr, obd_some, hk, if_neg (by decide : ¬ (i32 11 : Int32) = 0), if_neg (by decide : ¬ (i32 11 : Int32) = 1), if_neg (by decide : ¬ (i32 11 : Int32) = 2), if_neg (by decide : ¬ (i32 11 : Int32) = 3), if_neg (by decide : ¬ (i32 11 : Int32) = 4), if_neg (by decide : ¬ (i32 11 : Int32) = 5), if_neg (by decide : ¬ (i32 11 : Int32) = 6), if_neg (by decide : ¬ (i32 11 : Int32) = 7), if_neg (by decide : ¬ (i32 11 : Int32) = 8), if_neg (by decide : ¬ (i32 11 : Int32) = 9), if_neg (by decide : ¬ (i32 11 : Int32) = 10), if_pos (by rfl : (i32 11 : Int32) = 11), cob_of (ci := 7) (rs_tag hr), jgd_true, h, cbd2_some]
theorem step_ref {N : Nat} (hN : 100 ≤ N) (J : JJ G E B bx m ad S A C T) (hs : s < S.1 1 0) (hk : S.1 2 s < 12 ∨ S.1 2 s = 15) (hm : S.1 2 s = 15 → made = 0) (hv : vb (S.1 3 s) x) : ∃ y S' C' T', c_Section_step N (A 7 s) x made C = some (y, C') ∧ h_R_works N (i32 s) (dv (S.1 3 s) x) T = some (dv (S.1 3 s) y, T') ∧ JJ G E B bx m ad S' A C' T' ∧ vb (S.1 3 s) y ∧ Dys S S' s ∧ Mf T T' := by
  rcases hk with hk | hk
  · have h0 : S.1 2 s = 0 ∨ S.1 2 s = 1 ∨ S.1 2 s = 2 ∨ S.1 2 s = 3 ∨ S.1 2 s = 4 ∨ S.1 2 s = 5 ∨ S.1 2 s = 6 ∨ S.1 2 s = 7 ∨ S.1 2 s = 8 ∨ S.1 2 s = 9 ∨ S.1 2 s = 10 ∨ S.1 2 s = 11 := by omega
    rcases h0 with h | h | h | h | h | h | h | h | h | h | h | h
    · exact wk_0 J hs h hv
    · obtain ⟨y, S', C', T', u1, u⟩ := wk_1 (N := N) J hs h hv
      exact ⟨y, S', C', T', stp_1 J hs h u1, u⟩
    · obtain ⟨y, S', C', T', u1, u⟩ := wk_2 (N := N) J hs h hv
      exact ⟨y, S', C', T', stp_2 J hs h u1, u⟩
    · obtain ⟨y, S', C', T', u1, u⟩ := wk_3 (N := N) J hs h hv
      exact ⟨y, S', C', T', stp_3 J hs h u1, u⟩
    · obtain ⟨y, S', C', T', u1, u⟩ := wk_4 (N := N) J hs h hv
      exact ⟨y, S', C', T', stp_4 J hs h u1, u⟩
    · obtain ⟨y, S', C', T', u1, u⟩ := wk_5 (N := N) J hs h hv
      exact ⟨y, S', C', T', stp_5 J hs h u1, u⟩
    · obtain ⟨y, S', C', T', u1, u⟩ := wk_6 (N := N) J hs h hv
      exact ⟨y, S', C', T', stp_6 J hs h u1, u⟩
    · obtain ⟨y, S', C', T', u1, u⟩ := wk_7 (N := N) hN J hs h hv
      exact ⟨y, S', C', T', stp_7 J hs h u1, u⟩
    · obtain ⟨y, S', C', T', u1, u⟩ := wk_8 (N := N) J hs h hv
      exact ⟨y, S', C', T', stp_8 J hs h u1, u⟩
    · obtain ⟨y, S', C', T', u1, u⟩ := wk_9 (N := N) J hs h hv
      exact ⟨y, S', C', T', stp_9 J hs h u1, u⟩
    · obtain ⟨y, S', C', T', u1, u⟩ := wk_10 (N := N) J hs h hv
      exact ⟨y, S', C', T', stp_10 J hs h u1, u⟩
    · obtain ⟨y, S', C', T', u1, u⟩ := wk_11 (N := N) J hs h hv
      exact ⟨y, S', C', T', stp_11 J hs h u1, u⟩
  · rw [hm hk]
    exact wk_15 J hs hk hv
end STEPS
