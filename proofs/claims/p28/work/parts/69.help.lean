/-! what a section reads -/
section HELP
variable {G : GT} {E B bx m s k so : Nat} {ad : Nat → Nat} {S : ST} {A : AT} {C : CT} {T : MT} {acc v : Int64}
theorem factor_of (J : JJ G E B bx m ad S A C T) (hs : s < S.1 1 0) (hk : k < nfac (S.1 2 s)) : c_Section_factor (A 7 s) (i32 k) C = some (S.2.1 7 (5 * s + k)) := by
  rcases fac_or J hs (i32 k) with ⟨j, hj, e, -, -, h⟩ | h
  · have h5 := nfac_5 (S.1 2 s)
    have := (i32_inj (by omega) (by omega)).mp e
    rw [h, this]
  · exfalso
    have hr := jj_s J hs
    have h5 := nfac_5 (S.1 2 s)
    have g : c_Section_hasFactor (A 7 s) (i32 k) C = some true := by
      unfold c_Section_hasFactor
      rw [if_neg (i32_nonneg (by omega)), rs_factors hr, obd_some, obd_some, cal_of (n := nfac (S.1 2 s)) (by rw [hr.2.2.1.1]; decide) hr.2.2.1.2.1, obd_some]
      first
        | rw [if_pos (by rw [i32_lt (by omega) (by omega)]; exact hk)]
        | rw [if_neg (by rw [i32_le (by omega) (by omega)]; omega)]
    have h2 := h.2.1
    rw [g] at h2
    cases h2
theorem cf_vb (J : JJ G E B bx m ad S A C T) (hs : s < S.1 1 0) (hk : k < 5) : vb (S.1 3 s) (S.2.1 7 (5 * s + k)) := by
  obtain ⟨g1, g2, g3, g4, g5, g6, g7, g8, g9, gA, gB, gC, gD⟩ := jj_ws J hs
  exact g9 k hk
theorem st_vb (J : JJ G E B bx m ad S A C T) (hs : s < S.1 1 0) (hk : k < 64) : vb (vso S s) (S.2.1 13 (64 * s + k)) := (ws_of (jj_ws J hs)).2.2.2.1 k hk
theorem so_lt (J : JJ G E B bx m ad S A C T) (hs : s < S.1 1 0) : S.1 3 s < 3 := (jj_ws J hs).1.2.1
theorem times_of (J : JJ G E B bx m ad S A C T) (hs : s < S.1 1 0) (hk : k < nfac (S.1 2 s)) (hv : S.1 3 s < 2 → vb (S.1 3 s) v) : c_Section_times (A 7 s) (i32 k) v C = some (prB (S.1 3 s) (S.2.1 7 (5 * s + k)) v) := by
  have hr := jj_s J hs
  have h5 := nfac_5 (S.1 2 s)
  unfold c_Section_times
  rw [rs_numbers hr, obd_some, cob_of (ci := 7) (rs_tag hr), jgd_true, factor_of J hs hk, obd_some, obd_some, nums_product (jj_b J) (so_lt J hs) (fun _ => cf_vb J hs (by omega)) hv, obd_some]
theorem less_of (J : JJ G E B bx m ad S A C T) (hs : s < S.1 1 0) (hk : k < nfac (S.1 2 s)) (hv : S.1 3 s < 2 → vb (S.1 3 s) v) : c_Section_lessTimes (A 7 s) (i32 k) v C = some (opB (S.1 3 s) (prB (S.1 3 s) (S.2.1 7 (5 * s + k)) v)) := by
  have hr := jj_s J hs
  have h5 := nfac_5 (S.1 2 s)
  have h3 := so_lt J hs
  unfold c_Section_lessTimes
  rw [rs_numbers hr, obd_some, obd_some, cob_of (ci := 7) (rs_tag hr), jgd_true, factor_of J hs hk, obd_some, obd_some, nums_product (jj_b J) h3 (fun _ => cf_vb J hs (by omega)) hv, obd_some, obd_some]
  by_cases h2 : S.1 3 s < 2
  · have hp := rp_of (jj_b J) h2
    unfold c_Real_opposite
    rw [if_pos (cob_of (ci := 5) hp.1), cob_of (ci := 5) hp.1, jgd_true, real_negative (jj_b J) h2 (prB_vb h2 _ _), obd_some, obd_some]
  · have e : S.1 3 s = 2 := by omega
    rw [e]
    rw [if_neg (by rw [(shorts_cob (jj_b J)).1]; decide), (shorts_cob (jj_b J)).2, jgd_true]
    rfl
theorem nums_term (hb : RCb S A C bx) (h3 : so < 3) (v : Int64) : (if cob C (A 5 so) 5 = true then some (g_Real_term (A 5 so) v) else jgd (cob C (A 5 so) 8) (some (g_Shorts_term (A 5 so) v))) = some (tmB so v) := by
  by_cases h2 : so < 2
  · have hp := rp_of hb h2
    rw [if_pos (cob_of (ci := 5) hp.1)]
    unfold tmB
    rw [if_pos h2]; rfl
  · have : so = 2 := by omega
    subst this
    rw [if_neg (by rw [(shorts_cob hb).1]; decide), (shorts_cob hb).2, jgd_true]; rfl
theorem at_of (J : JJ G E B bx m ad S A C T) (hs : s < S.1 1 0) (hk : k < rln S s) : c_Row_at (A 118 s) (i32 k) C = some (S.2.1 13 (64 * s + (S.1 14 s + k) % rln S s)) := by
  have hle := rln_le J hs
  rw [row_at J hs, i32_toInt (by omega), if_pos ⟨by omega, by omega⟩]
  congr 3
theorem at_flat (J : JJ G E B bx m ad S A C T) (hs : s < S.1 1 0) (hr : ringy (S.1 2 s) = false) (hk : k < rln S s) : c_Row_at (A 118 s) (i32 k) C = some (S.2.1 13 (64 * s + k)) := by
  rw [at_of J hs hk, ((ws_of (jj_ws J hs)).2.2.1 hr).1, Nat.zero_add, Nat.mod_eq_of_lt hk]
theorem put_flat (J : JJ G E B bx m ad S A C T) (hs : s < S.1 1 0) (hr : ringy (S.1 2 s) = false) (h12 : S.1 2 s ≠ 12) (hk : k < rln S s) (hv : vb (S.1 3 s) v) :
    ∃ C', c_Row_put (A 118 s) (i32 k) v C = some C' ∧ h_R_st_2 (i32 s) (i32 k) (dv (S.1 3 s) v) T = some (tsD T 13 (64 * s + k) (dv (S.1 3 s) v)) ∧ JJ G E B bx m ad (uJ S 13 (64 * s + k) v) A C' (tsD T 13 (64 * s + k) (dv (S.1 3 s) v)) := by
  have w := ws_of (jj_ws J hs)
  have e14 := (w.2.2.1 hr).1
  have hle := rln_le J hs
  have h60 := (jj_n J).1
  have ev : vso S s = S.1 3 s := vso_ne h12
  obtain ⟨u1, u2⟩ := jj_put (v := v) J hs hk (by rw [ev]; exact hv) (fun q => absurd q h12)
  rw [e14, Nat.zero_add, Nat.mod_eq_of_lt hk, ev] at u2
  refine ⟨_, u1, ?_, u2⟩
  unfold h_R_st_2
  rw [show (64 : Int32) * i32 s + i32 k = i32 (64 * s + k) from by rw [show (64 : Int32) = i32 64 from rfl, i32_mul, i32_add], jrg_i32 (by omega) (by decide), obd_some]
  rfl
/-- settling keeps what a sum is made of -/
theorem sl_J {S' : ST} (h : Sl s S S') {k : Nat} (hk : k ≠ 15) : S'.2.1 k = S.2.1 k := funext fun j => h.2.1 k j (fun q => hk q.1)
theorem sl_rln {S' : ST} (h : Sl s S S') : rln S' = rln S := dy_rln h.dy
theorem comes_put {j : Nat} {x : UInt64} {y : UInt64} {T' : MT} (h : h_R_comes T = some (y, T')) : h_R_comes (tsD T 13 j x) = some (y, tsD T' 13 j x) := by
  have g : ∀ (u : Int32) (q : Int64) (T0 : MT) {y : UInt64} {T' : MT}, h_R_comes_105 u q T0 = some (y, T') → h_R_comes_105 u q (tsD T0 13 j x) = some (y, tsD T' 13 j x) := by
    intro u q T0 y T' h0
    unfold h_R_comes_105 at h0 ⊢
    by_cases c : g_R_isValue 2 q = true
    · rw [if_pos c] at h0 ⊢
      cases h0; rfl
    · rw [if_neg c] at h0 ⊢
      cases hj : jrg 60 u with
      | none => rw [hj] at h0; cases h0
      | some n => rw [hj] at h0; cases h0; rfl
  unfold h_R_comes at h ⊢
  have e1 : (tsD T 13 j x).1 = T.1 := rfl
  have e2 : (tsD T 13 j x).2.1 = T.2.1 := rfl
  rw [e1, e2]
  cases hj : jrg 60 (T.1 29 0) with
  | none => rw [hj] at h; cases h
  | some n =>
    rw [hj, obd_some] at h
    rw [obd_some]
    by_cases c3 : T.1 3 n = 2
    · rw [if_pos c3, obd_some] at h
      rw [if_pos c3, obd_some]
      by_cases c0 : T.1 5 n = 0
      · rw [if_pos c0] at h ⊢
        cases hf : g_R_floor (T.2.1 32 0 + 8192) 16384 with
        | none => rw [hf] at h; cases h
        | some q => rw [hf, obd_some] at h; rw [obd_some]; exact g _ _ _ h
      · rw [if_neg c0, obd_some] at h
        rw [if_neg c0, obd_some]
        by_cases c1 : T.1 5 n = 1
        · rw [if_pos c1] at h ⊢
          exact g _ _ _ h
        · rw [if_neg c1, obd_some] at h
          rw [if_neg c1, obd_some]
          exact g _ _ (tsJ T 15 n _) h
    · rw [if_neg c3] at h ⊢
      cases h; rfl
end HELP
