/-! poles: the call -/
section SIMPOLES
variable {G : GT} {E B bx m : Nat} {ad : Nat → Nat} {S : ST} {A : AT} {C : CT} {T : MT}
theorem plain_false : ∀ kd, kd ≤ 5 → g_R_isPlain (i32 kd) = false := by decide
theorem sim_poles {N M : Nat} : ls_18 N M bx (II G E B bx m ad) (II G E B bx m ad) := by
  rintro C T v ⟨S, A, J⟩
  have hb := jj_b J
  have ho : cob C bx 0 = true := cob_of (rb_tag hb)
  have hn := (jj_n J).1
  obtain ⟨u, hu⟩ : ∃ u : Nat, u = 2 ^ 1021 := ⟨_, rfl⟩
  rcases sec_or J v with ⟨s, hs, rfl, e1, e2⟩ | ⟨e1, e2⟩
  · have hsr := jj_s J hs
    have hws := jj_ws J hs
    have h3 := jj_N J 3 (by decide) s
    have h2k := jj_N J 2 (by decide) s
    have hso := hws.1.2.1
    have hkd := hws.1.1
    have hj : jrg 60 (i32 s) = some s := jrg_i32 (by omega) (by decide)
    -- the reference, up to the coefficients
    have r0 : 1 ≤ S.1 2 s → S.1 2 s ≤ 5 → h_R_poles (i32 s) T = h_R_poles_41 (i32 s) (unitB (S.1 3 s)) T := by
      intro a1 a2
      have g : g_R_in (i32 (S.1 2 s)) 1 5 = true := by
        unfold g_R_in
        rw [if_neg (by show ¬ i32 (S.1 2 s) < i32 1; rw [i32_lt (by omega) (by decide)]; omega), if_neg (by show ¬ i32 5 < i32 (S.1 2 s); rw [i32_lt (by decide) (by omega)]; omega)]
      unfold h_R_poles unitB
      rw [e1, obd_some, if_pos (show true = true from rfl), hj, obd_some, h2k, if_pos g, obd_some, h3]
      by_cases h2 : S.1 3 s = 2
      · rw [h2, if_pos (by rfl), if_pos rfl]
      · rw [if_neg (show ¬ i32 (S.1 3 s) = (2 : Int32) from i32_ne (b := 2) (by omega) (by decide) h2), if_neg h2]
    have pair : ∀ k, k = 2 ∨ k = 3 ∨ k = 4 → S.1 2 s = k → ∃ r, c_B_poles bx (i32 s) C = some r ∧ h_R_poles (i32 s) T = some r := by
      intro k hk hkk
      have hnf : nfac (S.1 2 s) = 5 := by rw [hkk]; rcases hk with rfl | rfl | rfl <;> rfl
      have pl := plain_false (S.1 2 s) (by omega)
      have m3 := meaning_of J hs (k := 3) (by omega)
      have m4 := meaning_of J hs (k := 4) (by omega)
      rw [pl] at m3 m4
      have c3 := coef_dv J hs (j := 3) (by decide)
      have c4 := coef_dv J hs (j := 4) (by decide)
      have v3 := cf_vb J hs (k := 3) (by decide)
      have v4 := cf_vb J hs (k := 4) (by decide)
      have hb2 : h_R_poles (i32 s) T = some (PR ((2 ^ 53 * u : Nat) : Int) (mnD (S.1 3 s) false (S.2.1 7 (5 * s + 3))) (mnD (S.1 3 s) false (S.2.1 7 (5 * s + 4)))) := by
        rw [r0 (by omega) (by omega)]
        unfold h_R_poles_41
        rw [hj, obd_some, h2k, if_neg (show ¬ i32 (S.1 2 s) = (1 : Int32) from i32_ne (b := 1) (by omega) (by decide) (by omega)), obd_some, h2k, if_neg (show ¬ i32 (S.1 2 s) = (5 : Int32) from i32_ne (b := 5) (by omega) (by decide) (by omega)), show (3 : Int32) = i32 3 from rfl, c3, obd_some]
        unfold h_R_poles_86
        have g : g_R_in (i32 (S.1 2 s)) 2 4 = true := by rw [hkk]; rcases hk with rfl | rfl | rfl <;> rfl
        rw [hj, obd_some, h2k, if_pos g, show (4 : Int32) = i32 4 from rfl, c4, obd_some]
        exact poles112_ref hso v3 v4 hu T
      refine ⟨_, ?_, hb2⟩
      · have t74 : c_B_poles_74 bx (A 7 s) C = some (PR ((2 ^ 53 * u : Nat) : Int) (mnD (S.1 3 s) false (S.2.1 7 (5 * s + 3))) (mnD (S.1 3 s) false (S.2.1 7 (5 * s + 4)))) := by
          unfold c_B_poles_74
          rw [ho, jgd_true, show (3 : Int32) = i32 3 from rfl, m3, obd_some, jgd_true, show (4 : Int32) = i32 4 from rfl, m4, obd_some, jgd_true, jpair_of hb (mnD_fits _ _ _) (mnD_fits _ _ _) hu, obd_some]
        unfold c_B_poles
        rw [ho, jgd_true, e2, obd_some, jon_some, rs_kind hsr, obd_some, hkk]
        rcases hk with rfl | rfl | rfl
        · rw [if_neg (by decide), if_pos (by decide), t74]
        · rw [if_neg (by decide), if_neg (by decide), if_pos (by decide), t74]
        · rw [if_neg (by decide), if_neg (by decide), if_neg (by decide), if_pos (by decide), t74]
    have hall : ∃ r, c_B_poles bx (i32 s) C = some r ∧ h_R_poles (i32 s) T = some r := by
      by_cases k1 : S.1 2 s = 1
      · have hnf : nfac (S.1 2 s) = 2 := by rw [k1]; rfl
        have pl := plain_false (S.1 2 s) (by omega)
        have m1 := meaning_of J hs (k := 1) (by omega)
        rw [pl] at m1
        have c1 := coef_dv J hs (j := 1) (by decide)
        have v1 := cf_vb J hs (k := 1) (by decide)
        refine ⟨PR ((2 ^ 53 * u : Nat) : Int) (mnD (S.1 3 s) false (S.2.1 7 (5 * s + 1))) (mnD (S.1 3 s) false 0), ?_, ?_⟩
        · unfold c_B_poles
          rw [ho, jgd_true, e2, obd_some, jon_some, rs_kind hsr, obd_some, k1, if_pos (by decide), show (1 : Int32) = i32 1 from rfl, m1, obd_some, jgd_true, jpole_of hb (mnD_fits _ _ _) (mn_zero hso) hu, obd_some, jgd_true]
        · rw [r0 (by omega) (by omega)]
          unfold h_R_poles_41
          rw [hj, obd_some, h2k, if_pos (show i32 (S.1 2 s) = (1 : Int32) by rw [k1]; rfl), show (1 : Int32) = i32 1 from rfl, c1, obd_some]
          unfold h_R_poles_86
          have g : ¬ g_R_in (i32 (S.1 2 s)) 2 4 = true := by rw [k1]; decide
          rw [hj, obd_some, h2k, if_neg g, ← dv_zero (S.1 3 s)]
          exact poles112_ref hso v1 (vb_zero _) hu T
      · by_cases k5 : S.1 2 s = 5
        · have hnf : nfac (S.1 2 s) = 1 := by rw [k5]; rfl
          have pl := plain_false (S.1 2 s) (by omega)
          have m1 := meaning_of J hs (k := 0) (by omega)
          rw [pl] at m1
          have c1 := coef_dv J hs (j := 0) (by decide)
          have v1 := cf_vb J hs (k := 0) (by decide)
          refine ⟨PR ((2 ^ 53 * u : Nat) : Int) (mnD (S.1 3 s) false (S.2.1 7 (5 * s + 0))) (mnD (S.1 3 s) false 0), ?_, ?_⟩
          · unfold c_B_poles
            rw [ho, jgd_true, e2, obd_some, jon_some, rs_kind hsr, obd_some, k5, if_neg (by decide), if_neg (by decide), if_neg (by decide), if_neg (by decide), if_pos (by decide), show (0 : Int32) = i32 0 from rfl, m1, obd_some, jgd_true, jpole_of hb (mnD_fits _ _ _) (mn_zero hso) hu, obd_some, jgd_true]
          · rw [r0 (by omega) (by omega)]
            unfold h_R_poles_41
            rw [hj, obd_some, h2k, if_neg (show ¬ i32 (S.1 2 s) = (1 : Int32) by rw [k5]; decide), obd_some, h2k, if_pos (show i32 (S.1 2 s) = (5 : Int32) by rw [k5]; rfl), show (0 : Int32) = i32 0 from rfl, c1, obd_some]
            unfold h_R_poles_86
            have g : ¬ g_R_in (i32 (S.1 2 s)) 2 4 = true := by rw [k5]; decide
            rw [hj, obd_some, h2k, if_neg g, ← dv_zero (S.1 3 s)]
            exact poles112_ref hso v1 (vb_zero _) hu T
        · by_cases kk : S.1 2 s = 2 ∨ S.1 2 s = 3 ∨ S.1 2 s = 4
          · exact pair _ kk rfl
          · refine ⟨-1, ?_, ?_⟩
            · have nk : ∀ k, k < 6 → 0 < k → ¬ i32 (S.1 2 s) = i32 k := fun k h1 h2 => i32_ne (by omega) (by omega) (by omega)
              unfold c_B_poles
              rw [ho, jgd_true, e2, obd_some, jon_some, rs_kind hsr, obd_some, if_neg (show ¬ i32 (S.1 2 s) = (1 : Int32) from nk 1 (by decide) (by decide)), if_neg (show ¬ i32 (S.1 2 s) = (2 : Int32) from nk 2 (by decide) (by decide)), if_neg (show ¬ i32 (S.1 2 s) = (3 : Int32) from nk 3 (by decide) (by decide)), if_neg (show ¬ i32 (S.1 2 s) = (4 : Int32) from nk 4 (by decide) (by decide)), if_neg (show ¬ i32 (S.1 2 s) = (5 : Int32) from nk 5 (by decide) (by decide))]
            · have g : ¬ g_R_in (i32 (S.1 2 s)) 1 5 = true := by
                unfold g_R_in
                by_cases z : S.1 2 s = 0
                · rw [z]; decide
                · rw [if_neg (by show ¬ i32 (S.1 2 s) < i32 1; rw [i32_lt (by omega) (by decide)]; omega), if_pos (by show i32 5 < i32 (S.1 2 s); rw [i32_lt (by decide) (by omega)]; omega)]
                  decide
              unfold h_R_poles
              rw [e1, obd_some, if_pos (show true = true from rfl), hj, obd_some, h2k, if_neg g]
    obtain ⟨r, r1, r2⟩ := hall
    exact ⟨r, C, T, ⟨r1, rfl⟩, ⟨r2, rfl⟩, S, A, J⟩
  · refine ⟨-1, C, T, ⟨?_, rfl⟩, ⟨?_, rfl⟩, S, A, J⟩
    · unfold c_B_poles
      rw [ho, jgd_true, e2, obd_some, jon_none]
    · unfold h_R_poles
      rw [e1, obd_some]; rfl
end SIMPOLES
