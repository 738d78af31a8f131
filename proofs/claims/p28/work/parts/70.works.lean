/-! what sections of the kinds without rings make of a sample (printed by a program) -/
section WORKS
variable {G : GT} {E B bx m s : Nat} {ad : Nat → Nat} {S : ST} {A : AT} {C : CT} {T : MT} {x : Int64}
set_option maxHeartbeats 4000000 in
theorem wk_0 {N : Nat} {made : Int64} (J : JJ G E B bx m ad S A C T) (hs : s < S.1 1 0) (hk : S.1 2 s = 0) (hv : vb (S.1 3 s) x) : ∃ y S' C' T', c_Section_step N (A 7 s) x made C = some (y, C') ∧ h_R_works N (i32 s) (dv (S.1 3 s) x) T = some (dv (S.1 3 s) y, T') ∧ JJ G E B bx m ad S' A C' T' ∧ vb (S.1 3 s) y ∧ Dys S S' s ∧ Mf T T' := by
  have hs60 : s < 60 := by have := (jj_n J).1; omega
  have h3 := so_lt J hs
  have k12 : S.1 2 s ≠ 12 := by rw [hk]; decide
  have ev : vso S s = S.1 3 s := vso_ne k12
  have hrg : ringy (S.1 2 s) = false := by rw [hk]; rfl
  have hrl : rln S s = 0 := by unfold rln; rw [hk]; rfl
  have hnf : nfac (S.1 2 s) = 1 := by rw [hk]; rfl
  have c_0 : vb (S.1 3 s) (S.2.1 7 (5 * s + 0)) := cf_vb J hs (by decide)
  have e60 : jrg 60 (i32 s) = some s := jrg_i32 hs60 (by decide)
  have ek : T.1 2 s = i32 0 := by rw [jj_N J 2 (by decide), hk]
  have J0 := J
  have p0 : S.1 = S.1 := rfl
  have hs0 := hs
  have q70 : S.2.1 7 = S.2.1 7 := rfl
  have D0 := Dys.refl s S
  have M0 := Mf.refl T
  have rl0 : rln S s = 0 := hrl
  have hr0 := jj_s J0 hs0
  have hb0 := jj_b J0
  have n5_0 : A 5 (S.1 3 s) = A 5 (S.1 3 s) := rfl
  have nu_0 : cgA C (A 7 s) 7 4 = some (some (A 5 (S.1 3 s))) := by rw [rs_numbers hr0]
  have ss_0 : cgA C (A 7 s) 7 6 = some (some (A 118 s)) := rs_states hr0
  have cb7_0 : cob C (A 7 s) 7 = true := cob_of (ci := 7) (rs_tag hr0)
  have cb6_0 : cob C (A 118 s) 6 = true := cob_of (ci := 6) hr0.2.2.2.1
  obtain ⟨B0, ab0, mb0, fb0⟩ := begins_ref (jj_rt J0) hs60
  have JB0_0 := jj_T J0 (rt_Sc (jj_rt J0) fb0)
  have rc0_0 : h_R_c (i32 s) (0 : Int32) B0 = some (dv (S.1 3 s) (S.2.1 7 (5 * s + 0))) := by
    have h := coef_dv JB0_0 hs0 (j := 0) (by decide)
    exact h
  obtain ⟨U0_0, au0_0, mu0_0, fu0_0⟩ := term_ref h3 mb0 (by decide) c_0 hv (off := false) (fun _ => ⟨rfl, fun _ => rfl⟩)
  have mu0_0 : MS U0_0 s (S.1 3 s) 1 (prB (S.1 3 s) (S.2.1 7 (5 * s + 0)) x) := mu0_0
  have tc0_0 : c_Section_times (A 7 s) (0 : Int32) x C = some (prB (S.1 3 s) (S.2.1 7 (5 * s + 0)) x) := by
    have h := times_of (k := 0) J0 hs0 (v := x) (by rw [hnf]; decide) (fun _ => by exact hv)
    exact h
  obtain ⟨y1, S1, C1, T1, uc1, ur1, J1, v_y1, sl1, mf1⟩ := settle (jj_T J0 (rt_Sc (jj_rt J0) (fb0.trans fu0_0))) hs0 rfl mu0_0 (by decide)
  have p1 : S1.1 = S.1 := sl1.1.trans p0
  have hs1 : s < S1.1 1 0 := by rw [p1]; exact hs
  have q71 : S1.2.1 7 = S.2.1 7 := (sl_J sl1 (by decide)).trans q70
  have D1 : Dys S S1 s := D0.trans sl1.dys
  have M1 : Mf T T1 := M0.trans (Mf.trans (Sc.mf (fb0.trans fu0_0)) mf1)
  have vv1 : vso S1 s = S.1 3 s := by rw [dy_vso D1.dy]; exact ev
  have rl1 : rln S1 s = 0 := (congrFun (dy_rln D1.dy) s).trans hrl
  have hr1 := jj_s J1 hs1
  have hb1 := jj_b J1
  have n5_1 : A 5 (S1.1 3 s) = A 5 (S.1 3 s) := by rw [p1]
  have nu_1 : cgA C1 (A 7 s) 7 4 = some (some (A 5 (S.1 3 s))) := by rw [rs_numbers hr1, n5_1]
  have ss_1 : cgA C1 (A 7 s) 7 6 = some (some (A 118 s)) := rs_states hr1
  have cb7_1 : cob C1 (A 7 s) 7 = true := cob_of (ci := 7) (rs_tag hr1)
  have cb6_1 : cob C1 (A 118 s) 6 = true := cob_of (ci := 6) hr1.2.2.2.1
  refine ⟨y1, S1, C1, T1, ?_, ?_, J1, v_y1, D1, M1⟩
  · unfold c_Section_step
    rw [rs_kind hr0, obd_some, hk, if_pos (by rfl)]
    simp only [nu_0, ss_0, cb7_0, cb6_0, tc0_0, uc1, nu_1, ss_1, cb7_1, cb6_1, obd_some, jgd_true, cbd2_some]
  · unfold h_R_works
    rw [e60, obd_some, ek,  if_pos (by rfl : (i32 0 : Int32) = 0)]
    simp only [ab0, rc0_0, au0_0, ur1, obd_some, tbd2_some]
set_option maxHeartbeats 4000000 in
theorem wk_1 {N : Nat} (J : JJ G E B bx m ad S A C T) (hs : s < S.1 1 0) (hk : S.1 2 s = 1) (hv : vb (S.1 3 s) x) : ∃ y S' C' T', c_Section_pole (A 7 s) x C = some (y, C') ∧ h_R_works N (i32 s) (dv (S.1 3 s) x) T = some (dv (S.1 3 s) y, T') ∧ JJ G E B bx m ad S' A C' T' ∧ vb (S.1 3 s) y ∧ Dys S S' s ∧ Mf T T' := by
  have hs60 : s < 60 := by have := (jj_n J).1; omega
  have h3 := so_lt J hs
  have k12 : S.1 2 s ≠ 12 := by rw [hk]; decide
  have ev : vso S s = S.1 3 s := vso_ne k12
  have hrg : ringy (S.1 2 s) = false := by rw [hk]; rfl
  have hrl : rln S s = 1 := by unfold rln; rw [hk]; rfl
  have hnf : nfac (S.1 2 s) = 2 := by rw [hk]; rfl
  have c_0 : vb (S.1 3 s) (S.2.1 7 (5 * s + 0)) := cf_vb J hs (by decide)
  have c_1 : vb (S.1 3 s) (S.2.1 7 (5 * s + 1)) := cf_vb J hs (by decide)
  have s_0 : vb (S.1 3 s) (S.2.1 13 (64 * s + 0)) := by rw [← ev]; exact st_vb J hs (by decide)
  have e60 : jrg 60 (i32 s) = some s := jrg_i32 hs60 (by decide)
  have ek : T.1 2 s = i32 1 := by rw [jj_N J 2 (by decide), hk]
  have J0 := J
  have p0 : S.1 = S.1 := rfl
  have hs0 := hs
  have q70 : S.2.1 7 = S.2.1 7 := rfl
  have D0 := Dys.refl s S
  have M0 := Mf.refl T
  have rl0 : rln S s = 1 := hrl
  have g0_0 : S.2.1 13 (64 * s + 0) = (S.2.1 13 (64 * s + 0)) := rfl
  have hr0 := jj_s J0 hs0
  have hb0 := jj_b J0
  have n5_0 : A 5 (S.1 3 s) = A 5 (S.1 3 s) := rfl
  have nu_0 : cgA C (A 7 s) 7 4 = some (some (A 5 (S.1 3 s))) := by rw [rs_numbers hr0]
  have ss_0 : cgA C (A 7 s) 7 6 = some (some (A 118 s)) := rs_states hr0
  have cb7_0 : cob C (A 7 s) 7 = true := cob_of (ci := 7) (rs_tag hr0)
  have cb6_0 : cob C (A 118 s) 6 = true := cob_of (ci := 6) hr0.2.2.2.1
  have at_0_0 : c_Row_at (A 118 s) (0 : Int32) C = some (S.2.1 13 (64 * s + 0)) := by
    have h := at_flat (k := 0) J0 hs0 hrg (by rw [rl0]; decide)
    rw [g0_0] at h; exact h
  obtain ⟨B0, ab0, mb0, fb0⟩ := begins_ref (jj_rt J0) hs60
  have JB0_0 := jj_T J0 (rt_Sc (jj_rt J0) fb0)
  have rc0_0 : h_R_c (i32 s) (0 : Int32) B0 = some (dv (S.1 3 s) (S.2.1 7 (5 * s + 0))) := by
    have h := coef_dv JB0_0 hs0 (j := 0) (by decide)
    exact h
  obtain ⟨U0_0, au0_0, mu0_0, fu0_0⟩ := term_ref h3 mb0 (by decide) c_0 hv (off := false) (fun _ => ⟨rfl, fun _ => rfl⟩)
  have mu0_0 : MS U0_0 s (S.1 3 s) 1 (prB (S.1 3 s) (S.2.1 7 (5 * s + 0)) x) := mu0_0
  have tc0_0 : c_Section_times (A 7 s) (0 : Int32) x C = some (prB (S.1 3 s) (S.2.1 7 (5 * s + 0)) x) := by
    have h := times_of (k := 0) J0 hs0 (v := x) (by rw [hnf]; decide) (fun _ => by exact hv)
    exact h
  have JB0_1 := jj_T J0 (rt_Sc (jj_rt J0) (fb0.trans fu0_0))
  have rs0_1 : h_R_st (i32 s) (0 : Int32) U0_0 = some (dv (S.1 3 s) (S.2.1 13 (64 * s + 0))) := by
    have h := st_dv JB0_1 hs0 (k := 0) (by decide)
    rw [ev] at h; exact h
  have rc0_1 : h_R_c (i32 s) (1 : Int32) U0_0 = some (dv (S.1 3 s) (S.2.1 7 (5 * s + 1))) := by
    have h := coef_dv JB0_1 hs0 (j := 1) (by decide)
    exact h
  obtain ⟨U0_1, au0_1, mu0_1, fu0_1⟩ := term_ref h3 mu0_0 (by decide) c_1 s_0 (off := false) (fun q => absurd q (by decide))
  have mu0_1 : MS U0_1 s (S.1 3 s) 2 (plB (S.1 3 s) (prB (S.1 3 s) (S.2.1 7 (5 * s + 0)) x) (prB (S.1 3 s) (S.2.1 7 (5 * s + 1)) (S.2.1 13 (64 * s + 0)))) := mu0_1
  have tc0_1 : c_Section_times (A 7 s) (1 : Int32) (S.2.1 13 (64 * s + 0)) C = some (prB (S.1 3 s) (S.2.1 7 (5 * s + 1)) (S.2.1 13 (64 * s + 0))) := by
    have h := times_of (k := 1) J0 hs0 (v := (S.2.1 13 (64 * s + 0))) (by rw [hnf]; decide) (fun _ => by exact s_0)
    exact h
  have pl0_1 := nums_plus (so := S.1 3 s) hb0 h3 (c := (prB (S.1 3 s) (S.2.1 7 (5 * s + 0)) x)) (v := (prB (S.1 3 s) (S.2.1 7 (5 * s + 1)) (S.2.1 13 (64 * s + 0)))) (fun h2 => prB_vb h2 _ _) (fun h2 => prB_vb h2 _ _)
  obtain ⟨y1, S1, C1, T1, uc1, ur1, J1, v_y1, sl1, mf1⟩ := settle (jj_T J0 (rt_Sc (jj_rt J0) ((fb0.trans fu0_0).trans fu0_1))) hs0 rfl mu0_1 (by decide)
  have p1 : S1.1 = S.1 := sl1.1.trans p0
  have hs1 : s < S1.1 1 0 := by rw [p1]; exact hs
  have q71 : S1.2.1 7 = S.2.1 7 := (sl_J sl1 (by decide)).trans q70
  have D1 : Dys S S1 s := D0.trans sl1.dys
  have M1 : Mf T T1 := M0.trans (Mf.trans (Sc.mf ((fb0.trans fu0_0).trans fu0_1)) mf1)
  have vv1 : vso S1 s = S.1 3 s := by rw [dy_vso D1.dy]; exact ev
  have rl1 : rln S1 s = 1 := (congrFun (dy_rln D1.dy) s).trans hrl
  have g1_0 : S1.2.1 13 (64 * s + 0) = (S.2.1 13 (64 * s + 0)) := (congrFun (sl_J sl1 (by decide)) _).trans g0_0
  have hr1 := jj_s J1 hs1
  have hb1 := jj_b J1
  have n5_1 : A 5 (S1.1 3 s) = A 5 (S.1 3 s) := by rw [p1]
  have nu_1 : cgA C1 (A 7 s) 7 4 = some (some (A 5 (S.1 3 s))) := by rw [rs_numbers hr1, n5_1]
  have ss_1 : cgA C1 (A 7 s) 7 6 = some (some (A 118 s)) := rs_states hr1
  have cb7_1 : cob C1 (A 7 s) 7 = true := cob_of (ci := 7) (rs_tag hr1)
  have cb6_1 : cob C1 (A 118 s) 6 = true := cob_of (ci := 6) hr1.2.2.2.1
  have at_1_0 : c_Row_at (A 118 s) (0 : Int32) C1 = some (S.2.1 13 (64 * s + 0)) := by
    have h := at_flat (k := 0) J1 hs1 (by rw [p1]; exact hrg) (by rw [rl1]; decide)
    rw [g1_0] at h; exact h
  obtain ⟨C2, uc2, ur2, J2⟩ := put_flat (k := 0) (v := y1) J1 hs1 (by rw [p1]; exact hrg) (by rw [p1]; exact k12) (by rw [rl1]; decide) (by rw [p1]; exact v_y1)
  rw [p1] at ur2 J2
  have p2 : (uJ S1 13 (64 * s + 0) y1).1 = S.1 := p1
  have hs2 : s < (uJ S1 13 (64 * s + 0) y1).1 1 0 := hs1
  have q72 : (uJ S1 13 (64 * s + 0) y1).2.1 7 = S.2.1 7 := (uJ_k (by decide) : (uJ S1 13 (64 * s + 0) y1).2.1 7 = S1.2.1 7).trans q71
  have D2 : Dys S (uJ S1 13 (64 * s + 0) y1) s := D1.trans ⟨fun _ _ _ => rfl, fun k j h1 h2 => (if_neg (fun q => h2 ⟨q.1, by omega, by omega⟩) : up2 S1.2.1 13 (64 * s + 0) y1 k j = S1.2.1 k j), fun _ _ _ => rfl⟩
  have M2 : Mf T (tsD T1 13 (64 * s + 0) (dv (S.1 3 s) y1)) := M1.trans (mf_D (by decide))
  have vv2 : vso (uJ S1 13 (64 * s + 0) y1) s = S.1 3 s := by rw [dy_vso D2.dy]; exact ev
  have rl2 : rln (uJ S1 13 (64 * s + 0) y1) s = 1 := (congrFun (dy_rln D2.dy) s).trans hrl
  have g2_0 : (uJ S1 13 (64 * s + 0) y1).2.1 13 (64 * s + 0) = y1 := up2_same _ _ _ _
  have uc2 : c_Row_put (A 118 s) (0 : Int32) y1 C1 = some C2 := uc2
  have ur2 : h_R_st_2 (i32 s) (0 : Int32) (dv (S.1 3 s) y1) T1 = some (tsD T1 13 (64 * s + 0) (dv (S.1 3 s) y1)) := ur2
  have hr2 := jj_s J2 hs2
  have hb2 := jj_b J2
  have n5_2 : A 5 ((uJ S1 13 (64 * s + 0) y1).1 3 s) = A 5 (S.1 3 s) := by rw [p2]
  have nu_2 : cgA C2 (A 7 s) 7 4 = some (some (A 5 (S.1 3 s))) := by rw [rs_numbers hr2, n5_2]
  have ss_2 : cgA C2 (A 7 s) 7 6 = some (some (A 118 s)) := rs_states hr2
  have cb7_2 : cob C2 (A 7 s) 7 = true := cob_of (ci := 7) (rs_tag hr2)
  have cb6_2 : cob C2 (A 118 s) 6 = true := cob_of (ci := 6) hr2.2.2.2.1
  have at_2_0 : c_Row_at (A 118 s) (0 : Int32) C2 = some y1 := by
    have h := at_flat (k := 0) J2 hs2 (by rw [p2]; exact hrg) (by rw [rl2]; decide)
    rw [g2_0] at h; exact h
  refine ⟨y1, (uJ S1 13 (64 * s + 0) y1), C2, (tsD T1 13 (64 * s + 0) (dv (S.1 3 s) y1)), ?_, ?_, J2, v_y1, D2, M2⟩
  · unfold c_Section_pole
    simp only [nu_0, ss_0, cb7_0, cb6_0, at_0_0, tc0_0, tc0_1, pl0_1, uc1, nu_1, ss_1, cb7_1, cb6_1, at_1_0, uc2, nu_2, ss_2, cb7_2, cb6_2, at_2_0, obd_some, jgd_true, cbd2_some]
  · unfold h_R_works
    rw [e60, obd_some, ek, if_neg (by decide : ¬ (i32 1 : Int32) = 0), if_pos (by rfl : (i32 1 : Int32) = 1)]
    simp only [ab0, rc0_0, au0_0, rs0_1, rc0_1, au0_1, ur1, ur2, obd_some, tbd2_some]
set_option maxHeartbeats 4000000 in
theorem wk_2 {N : Nat} (J : JJ G E B bx m ad S A C T) (hs : s < S.1 1 0) (hk : S.1 2 s = 2) (hv : vb (S.1 3 s) x) : ∃ y S' C' T', c_Section_direct (A 7 s) x C = some (y, C') ∧ h_R_works N (i32 s) (dv (S.1 3 s) x) T = some (dv (S.1 3 s) y, T') ∧ JJ G E B bx m ad S' A C' T' ∧ vb (S.1 3 s) y ∧ Dys S S' s ∧ Mf T T' := by
  have hs60 : s < 60 := by have := (jj_n J).1; omega
  have h3 := so_lt J hs
  have k12 : S.1 2 s ≠ 12 := by rw [hk]; decide
  have ev : vso S s = S.1 3 s := vso_ne k12
  have hrg : ringy (S.1 2 s) = false := by rw [hk]; rfl
  have hrl : rln S s = 4 := by unfold rln; rw [hk]; rfl
  have hnf : nfac (S.1 2 s) = 5 := by rw [hk]; rfl
  have c_0 : vb (S.1 3 s) (S.2.1 7 (5 * s + 0)) := cf_vb J hs (by decide)
  have c_1 : vb (S.1 3 s) (S.2.1 7 (5 * s + 1)) := cf_vb J hs (by decide)
  have c_2 : vb (S.1 3 s) (S.2.1 7 (5 * s + 2)) := cf_vb J hs (by decide)
  have c_3 : vb (S.1 3 s) (S.2.1 7 (5 * s + 3)) := cf_vb J hs (by decide)
  have c_4 : vb (S.1 3 s) (S.2.1 7 (5 * s + 4)) := cf_vb J hs (by decide)
  have s_0 : vb (S.1 3 s) (S.2.1 13 (64 * s + 0)) := by rw [← ev]; exact st_vb J hs (by decide)
  have s_1 : vb (S.1 3 s) (S.2.1 13 (64 * s + 1)) := by rw [← ev]; exact st_vb J hs (by decide)
  have s_2 : vb (S.1 3 s) (S.2.1 13 (64 * s + 2)) := by rw [← ev]; exact st_vb J hs (by decide)
  have s_3 : vb (S.1 3 s) (S.2.1 13 (64 * s + 3)) := by rw [← ev]; exact st_vb J hs (by decide)
  have e60 : jrg 60 (i32 s) = some s := jrg_i32 hs60 (by decide)
  have ek : T.1 2 s = i32 2 := by rw [jj_N J 2 (by decide), hk]
  have J0 := J
  have p0 : S.1 = S.1 := rfl
  have hs0 := hs
  have q70 : S.2.1 7 = S.2.1 7 := rfl
  have D0 := Dys.refl s S
  have M0 := Mf.refl T
  have rl0 : rln S s = 4 := hrl
  have g0_0 : S.2.1 13 (64 * s + 0) = (S.2.1 13 (64 * s + 0)) := rfl
  have g0_1 : S.2.1 13 (64 * s + 1) = (S.2.1 13 (64 * s + 1)) := rfl
  have g0_2 : S.2.1 13 (64 * s + 2) = (S.2.1 13 (64 * s + 2)) := rfl
  have g0_3 : S.2.1 13 (64 * s + 3) = (S.2.1 13 (64 * s + 3)) := rfl
  have hr0 := jj_s J0 hs0
  have hb0 := jj_b J0
  have n5_0 : A 5 (S.1 3 s) = A 5 (S.1 3 s) := rfl
  have nu_0 : cgA C (A 7 s) 7 4 = some (some (A 5 (S.1 3 s))) := by rw [rs_numbers hr0]
  have ss_0 : cgA C (A 7 s) 7 6 = some (some (A 118 s)) := rs_states hr0
  have cb7_0 : cob C (A 7 s) 7 = true := cob_of (ci := 7) (rs_tag hr0)
  have cb6_0 : cob C (A 118 s) 6 = true := cob_of (ci := 6) hr0.2.2.2.1
  have at_0_0 : c_Row_at (A 118 s) (0 : Int32) C = some (S.2.1 13 (64 * s + 0)) := by
    have h := at_flat (k := 0) J0 hs0 hrg (by rw [rl0]; decide)
    rw [g0_0] at h; exact h
  have at_0_1 : c_Row_at (A 118 s) (1 : Int32) C = some (S.2.1 13 (64 * s + 1)) := by
    have h := at_flat (k := 1) J0 hs0 hrg (by rw [rl0]; decide)
    rw [g0_1] at h; exact h
  have at_0_2 : c_Row_at (A 118 s) (2 : Int32) C = some (S.2.1 13 (64 * s + 2)) := by
    have h := at_flat (k := 2) J0 hs0 hrg (by rw [rl0]; decide)
    rw [g0_2] at h; exact h
  have at_0_3 : c_Row_at (A 118 s) (3 : Int32) C = some (S.2.1 13 (64 * s + 3)) := by
    have h := at_flat (k := 3) J0 hs0 hrg (by rw [rl0]; decide)
    rw [g0_3] at h; exact h
  obtain ⟨B0, ab0, mb0, fb0⟩ := begins_ref (jj_rt J0) hs60
  have JB0_0 := jj_T J0 (rt_Sc (jj_rt J0) fb0)
  have rc0_0 : h_R_c (i32 s) (0 : Int32) B0 = some (dv (S.1 3 s) (S.2.1 7 (5 * s + 0))) := by
    have h := coef_dv JB0_0 hs0 (j := 0) (by decide)
    exact h
  obtain ⟨U0_0, au0_0, mu0_0, fu0_0⟩ := term_ref h3 mb0 (by decide) c_0 hv (off := false) (fun _ => ⟨rfl, fun _ => rfl⟩)
  have mu0_0 : MS U0_0 s (S.1 3 s) 1 (prB (S.1 3 s) (S.2.1 7 (5 * s + 0)) x) := mu0_0
  have tc0_0 : c_Section_times (A 7 s) (0 : Int32) x C = some (prB (S.1 3 s) (S.2.1 7 (5 * s + 0)) x) := by
    have h := times_of (k := 0) J0 hs0 (v := x) (by rw [hnf]; decide) (fun _ => by exact hv)
    exact h
  have JB0_1 := jj_T J0 (rt_Sc (jj_rt J0) (fb0.trans fu0_0))
  have rs0_1 : h_R_st (i32 s) (0 : Int32) U0_0 = some (dv (S.1 3 s) (S.2.1 13 (64 * s + 0))) := by
    have h := st_dv JB0_1 hs0 (k := 0) (by decide)
    rw [ev] at h; exact h
  have rc0_1 : h_R_c (i32 s) (1 : Int32) U0_0 = some (dv (S.1 3 s) (S.2.1 7 (5 * s + 1))) := by
    have h := coef_dv JB0_1 hs0 (j := 1) (by decide)
    exact h
  obtain ⟨U0_1, au0_1, mu0_1, fu0_1⟩ := term_ref h3 mu0_0 (by decide) c_1 s_0 (off := false) (fun q => absurd q (by decide))
  have mu0_1 : MS U0_1 s (S.1 3 s) 2 (plB (S.1 3 s) (prB (S.1 3 s) (S.2.1 7 (5 * s + 0)) x) (prB (S.1 3 s) (S.2.1 7 (5 * s + 1)) (S.2.1 13 (64 * s + 0)))) := mu0_1
  have tc0_1 : c_Section_times (A 7 s) (1 : Int32) (S.2.1 13 (64 * s + 0)) C = some (prB (S.1 3 s) (S.2.1 7 (5 * s + 1)) (S.2.1 13 (64 * s + 0))) := by
    have h := times_of (k := 1) J0 hs0 (v := (S.2.1 13 (64 * s + 0))) (by rw [hnf]; decide) (fun _ => by exact s_0)
    exact h
  have pl0_1 := nums_plus (so := S.1 3 s) hb0 h3 (c := (prB (S.1 3 s) (S.2.1 7 (5 * s + 0)) x)) (v := (prB (S.1 3 s) (S.2.1 7 (5 * s + 1)) (S.2.1 13 (64 * s + 0)))) (fun h2 => prB_vb h2 _ _) (fun h2 => prB_vb h2 _ _)
  have JB0_2 := jj_T J0 (rt_Sc (jj_rt J0) ((fb0.trans fu0_0).trans fu0_1))
  have rs0_2 : h_R_st (i32 s) (1 : Int32) U0_1 = some (dv (S.1 3 s) (S.2.1 13 (64 * s + 1))) := by
    have h := st_dv JB0_2 hs0 (k := 1) (by decide)
    rw [ev] at h; exact h
  have rc0_2 : h_R_c (i32 s) (2 : Int32) U0_1 = some (dv (S.1 3 s) (S.2.1 7 (5 * s + 2))) := by
    have h := coef_dv JB0_2 hs0 (j := 2) (by decide)
    exact h
  obtain ⟨U0_2, au0_2, mu0_2, fu0_2⟩ := term_ref h3 mu0_1 (by decide) c_2 s_1 (off := false) (fun q => absurd q (by decide))
  have mu0_2 : MS U0_2 s (S.1 3 s) 3 (plB (S.1 3 s) (plB (S.1 3 s) (prB (S.1 3 s) (S.2.1 7 (5 * s + 0)) x) (prB (S.1 3 s) (S.2.1 7 (5 * s + 1)) (S.2.1 13 (64 * s + 0)))) (prB (S.1 3 s) (S.2.1 7 (5 * s + 2)) (S.2.1 13 (64 * s + 1)))) := mu0_2
  have tc0_2 : c_Section_times (A 7 s) (2 : Int32) (S.2.1 13 (64 * s + 1)) C = some (prB (S.1 3 s) (S.2.1 7 (5 * s + 2)) (S.2.1 13 (64 * s + 1))) := by
    have h := times_of (k := 2) J0 hs0 (v := (S.2.1 13 (64 * s + 1))) (by rw [hnf]; decide) (fun _ => by exact s_1)
    exact h
  have pl0_2 := nums_plus (so := S.1 3 s) hb0 h3 (c := (plB (S.1 3 s) (prB (S.1 3 s) (S.2.1 7 (5 * s + 0)) x) (prB (S.1 3 s) (S.2.1 7 (5 * s + 1)) (S.2.1 13 (64 * s + 0))))) (v := (prB (S.1 3 s) (S.2.1 7 (5 * s + 2)) (S.2.1 13 (64 * s + 1)))) (fun h2 => plB_vb h2 _ _) (fun h2 => prB_vb h2 _ _)
  have JB0_3 := jj_T J0 (rt_Sc (jj_rt J0) (((fb0.trans fu0_0).trans fu0_1).trans fu0_2))
  have rs0_3 : h_R_st (i32 s) (2 : Int32) U0_2 = some (dv (S.1 3 s) (S.2.1 13 (64 * s + 2))) := by
    have h := st_dv JB0_3 hs0 (k := 2) (by decide)
    rw [ev] at h; exact h
  have rc0_3 : h_R_c (i32 s) (3 : Int32) U0_2 = some (dv (S.1 3 s) (S.2.1 7 (5 * s + 3))) := by
    have h := coef_dv JB0_3 hs0 (j := 3) (by decide)
    exact h
  obtain ⟨U0_3, au0_3, mu0_3, fu0_3⟩ := term_ref h3 mu0_2 (by decide) c_3 s_2 (off := true) (fun q => absurd q (by decide))
  have mu0_3 : MS U0_3 s (S.1 3 s) 4 (plB (S.1 3 s) (plB (S.1 3 s) (plB (S.1 3 s) (prB (S.1 3 s) (S.2.1 7 (5 * s + 0)) x) (prB (S.1 3 s) (S.2.1 7 (5 * s + 1)) (S.2.1 13 (64 * s + 0)))) (prB (S.1 3 s) (S.2.1 7 (5 * s + 2)) (S.2.1 13 (64 * s + 1)))) (opB (S.1 3 s) (prB (S.1 3 s) (S.2.1 7 (5 * s + 3)) (S.2.1 13 (64 * s + 2))))) := mu0_3
  have tc0_3 : c_Section_lessTimes (A 7 s) (3 : Int32) (S.2.1 13 (64 * s + 2)) C = some (opB (S.1 3 s) (prB (S.1 3 s) (S.2.1 7 (5 * s + 3)) (S.2.1 13 (64 * s + 2)))) := by
    have h := less_of (k := 3) J0 hs0 (v := (S.2.1 13 (64 * s + 2))) (by rw [hnf]; decide) (fun _ => by exact s_2)
    exact h
  have pl0_3 := nums_plus (so := S.1 3 s) hb0 h3 (c := (plB (S.1 3 s) (plB (S.1 3 s) (prB (S.1 3 s) (S.2.1 7 (5 * s + 0)) x) (prB (S.1 3 s) (S.2.1 7 (5 * s + 1)) (S.2.1 13 (64 * s + 0)))) (prB (S.1 3 s) (S.2.1 7 (5 * s + 2)) (S.2.1 13 (64 * s + 1))))) (v := (opB (S.1 3 s) (prB (S.1 3 s) (S.2.1 7 (5 * s + 3)) (S.2.1 13 (64 * s + 2))))) (fun h2 => plB_vb h2 _ _) (fun h2 => opB_vb h2 _)
  have JB0_4 := jj_T J0 (rt_Sc (jj_rt J0) ((((fb0.trans fu0_0).trans fu0_1).trans fu0_2).trans fu0_3))
  have rs0_4 : h_R_st (i32 s) (3 : Int32) U0_3 = some (dv (S.1 3 s) (S.2.1 13 (64 * s + 3))) := by
    have h := st_dv JB0_4 hs0 (k := 3) (by decide)
    rw [ev] at h; exact h
  have rc0_4 : h_R_c (i32 s) (4 : Int32) U0_3 = some (dv (S.1 3 s) (S.2.1 7 (5 * s + 4))) := by
    have h := coef_dv JB0_4 hs0 (j := 4) (by decide)
    exact h
  obtain ⟨U0_4, au0_4, mu0_4, fu0_4⟩ := term_ref h3 mu0_3 (by decide) c_4 s_3 (off := true) (fun q => absurd q (by decide))
  have mu0_4 : MS U0_4 s (S.1 3 s) 5 (plB (S.1 3 s) (plB (S.1 3 s) (plB (S.1 3 s) (plB (S.1 3 s) (prB (S.1 3 s) (S.2.1 7 (5 * s + 0)) x) (prB (S.1 3 s) (S.2.1 7 (5 * s + 1)) (S.2.1 13 (64 * s + 0)))) (prB (S.1 3 s) (S.2.1 7 (5 * s + 2)) (S.2.1 13 (64 * s + 1)))) (opB (S.1 3 s) (prB (S.1 3 s) (S.2.1 7 (5 * s + 3)) (S.2.1 13 (64 * s + 2))))) (opB (S.1 3 s) (prB (S.1 3 s) (S.2.1 7 (5 * s + 4)) (S.2.1 13 (64 * s + 3))))) := mu0_4
  have tc0_4 : c_Section_lessTimes (A 7 s) (4 : Int32) (S.2.1 13 (64 * s + 3)) C = some (opB (S.1 3 s) (prB (S.1 3 s) (S.2.1 7 (5 * s + 4)) (S.2.1 13 (64 * s + 3)))) := by
    have h := less_of (k := 4) J0 hs0 (v := (S.2.1 13 (64 * s + 3))) (by rw [hnf]; decide) (fun _ => by exact s_3)
    exact h
  have pl0_4 := nums_plus (so := S.1 3 s) hb0 h3 (c := (plB (S.1 3 s) (plB (S.1 3 s) (plB (S.1 3 s) (prB (S.1 3 s) (S.2.1 7 (5 * s + 0)) x) (prB (S.1 3 s) (S.2.1 7 (5 * s + 1)) (S.2.1 13 (64 * s + 0)))) (prB (S.1 3 s) (S.2.1 7 (5 * s + 2)) (S.2.1 13 (64 * s + 1)))) (opB (S.1 3 s) (prB (S.1 3 s) (S.2.1 7 (5 * s + 3)) (S.2.1 13 (64 * s + 2)))))) (v := (opB (S.1 3 s) (prB (S.1 3 s) (S.2.1 7 (5 * s + 4)) (S.2.1 13 (64 * s + 3))))) (fun h2 => plB_vb h2 _ _) (fun h2 => opB_vb h2 _)
  obtain ⟨y1, S1, C1, T1, uc1, ur1, J1, v_y1, sl1, mf1⟩ := settle (jj_T J0 (rt_Sc (jj_rt J0) (((((fb0.trans fu0_0).trans fu0_1).trans fu0_2).trans fu0_3).trans fu0_4))) hs0 rfl mu0_4 (by decide)
  have p1 : S1.1 = S.1 := sl1.1.trans p0
  have hs1 : s < S1.1 1 0 := by rw [p1]; exact hs
  have q71 : S1.2.1 7 = S.2.1 7 := (sl_J sl1 (by decide)).trans q70
  have D1 : Dys S S1 s := D0.trans sl1.dys
  have M1 : Mf T T1 := M0.trans (Mf.trans (Sc.mf (((((fb0.trans fu0_0).trans fu0_1).trans fu0_2).trans fu0_3).trans fu0_4)) mf1)
  have vv1 : vso S1 s = S.1 3 s := by rw [dy_vso D1.dy]; exact ev
  have rl1 : rln S1 s = 4 := (congrFun (dy_rln D1.dy) s).trans hrl
  have g1_0 : S1.2.1 13 (64 * s + 0) = (S.2.1 13 (64 * s + 0)) := (congrFun (sl_J sl1 (by decide)) _).trans g0_0
  have g1_1 : S1.2.1 13 (64 * s + 1) = (S.2.1 13 (64 * s + 1)) := (congrFun (sl_J sl1 (by decide)) _).trans g0_1
  have g1_2 : S1.2.1 13 (64 * s + 2) = (S.2.1 13 (64 * s + 2)) := (congrFun (sl_J sl1 (by decide)) _).trans g0_2
  have g1_3 : S1.2.1 13 (64 * s + 3) = (S.2.1 13 (64 * s + 3)) := (congrFun (sl_J sl1 (by decide)) _).trans g0_3
  have hr1 := jj_s J1 hs1
  have hb1 := jj_b J1
  have n5_1 : A 5 (S1.1 3 s) = A 5 (S.1 3 s) := by rw [p1]
  have nu_1 : cgA C1 (A 7 s) 7 4 = some (some (A 5 (S.1 3 s))) := by rw [rs_numbers hr1, n5_1]
  have ss_1 : cgA C1 (A 7 s) 7 6 = some (some (A 118 s)) := rs_states hr1
  have cb7_1 : cob C1 (A 7 s) 7 = true := cob_of (ci := 7) (rs_tag hr1)
  have cb6_1 : cob C1 (A 118 s) 6 = true := cob_of (ci := 6) hr1.2.2.2.1
  have at_1_0 : c_Row_at (A 118 s) (0 : Int32) C1 = some (S.2.1 13 (64 * s + 0)) := by
    have h := at_flat (k := 0) J1 hs1 (by rw [p1]; exact hrg) (by rw [rl1]; decide)
    rw [g1_0] at h; exact h
  have at_1_1 : c_Row_at (A 118 s) (1 : Int32) C1 = some (S.2.1 13 (64 * s + 1)) := by
    have h := at_flat (k := 1) J1 hs1 (by rw [p1]; exact hrg) (by rw [rl1]; decide)
    rw [g1_1] at h; exact h
  have at_1_2 : c_Row_at (A 118 s) (2 : Int32) C1 = some (S.2.1 13 (64 * s + 2)) := by
    have h := at_flat (k := 2) J1 hs1 (by rw [p1]; exact hrg) (by rw [rl1]; decide)
    rw [g1_2] at h; exact h
  have at_1_3 : c_Row_at (A 118 s) (3 : Int32) C1 = some (S.2.1 13 (64 * s + 3)) := by
    have h := at_flat (k := 3) J1 hs1 (by rw [p1]; exact hrg) (by rw [rl1]; decide)
    rw [g1_3] at h; exact h
  have rp2 : h_R_st (i32 s) (0 : Int32) T1 = some (dv (S.1 3 s) (S.2.1 13 (64 * s + 0))) := by
    have h := st_dv J1 hs1 (k := 0) (by decide)
    rw [vv1, g1_0] at h; exact h
  obtain ⟨C2, uc2, ur2, J2⟩ := put_flat (k := 1) (v := (S.2.1 13 (64 * s + 0))) J1 hs1 (by rw [p1]; exact hrg) (by rw [p1]; exact k12) (by rw [rl1]; decide) (by rw [p1]; exact s_0)
  rw [p1] at ur2 J2
  have p2 : (uJ S1 13 (64 * s + 1) (S.2.1 13 (64 * s + 0))).1 = S.1 := p1
  have hs2 : s < (uJ S1 13 (64 * s + 1) (S.2.1 13 (64 * s + 0))).1 1 0 := hs1
  have q72 : (uJ S1 13 (64 * s + 1) (S.2.1 13 (64 * s + 0))).2.1 7 = S.2.1 7 := (uJ_k (by decide) : (uJ S1 13 (64 * s + 1) (S.2.1 13 (64 * s + 0))).2.1 7 = S1.2.1 7).trans q71
  have D2 : Dys S (uJ S1 13 (64 * s + 1) (S.2.1 13 (64 * s + 0))) s := D1.trans ⟨fun _ _ _ => rfl, fun k j h1 h2 => (if_neg (fun q => h2 ⟨q.1, by omega, by omega⟩) : up2 S1.2.1 13 (64 * s + 1) (S.2.1 13 (64 * s + 0)) k j = S1.2.1 k j), fun _ _ _ => rfl⟩
  have M2 : Mf T (tsD T1 13 (64 * s + 1) (dv (S.1 3 s) (S.2.1 13 (64 * s + 0)))) := M1.trans (mf_D (by decide))
  have vv2 : vso (uJ S1 13 (64 * s + 1) (S.2.1 13 (64 * s + 0))) s = S.1 3 s := by rw [dy_vso D2.dy]; exact ev
  have rl2 : rln (uJ S1 13 (64 * s + 1) (S.2.1 13 (64 * s + 0))) s = 4 := (congrFun (dy_rln D2.dy) s).trans hrl
  have g2_0 : (uJ S1 13 (64 * s + 1) (S.2.1 13 (64 * s + 0))).2.1 13 (64 * s + 0) = (S.2.1 13 (64 * s + 0)) := (up2_j _ _ _ (by omega) : (uJ S1 13 (64 * s + 1) (S.2.1 13 (64 * s + 0))).2.1 13 (64 * s + 0) = S1.2.1 13 (64 * s + 0)).trans g1_0
  have g2_1 : (uJ S1 13 (64 * s + 1) (S.2.1 13 (64 * s + 0))).2.1 13 (64 * s + 1) = (S.2.1 13 (64 * s + 0)) := up2_same _ _ _ _
  have g2_2 : (uJ S1 13 (64 * s + 1) (S.2.1 13 (64 * s + 0))).2.1 13 (64 * s + 2) = (S.2.1 13 (64 * s + 2)) := (up2_j _ _ _ (by omega) : (uJ S1 13 (64 * s + 1) (S.2.1 13 (64 * s + 0))).2.1 13 (64 * s + 2) = S1.2.1 13 (64 * s + 2)).trans g1_2
  have g2_3 : (uJ S1 13 (64 * s + 1) (S.2.1 13 (64 * s + 0))).2.1 13 (64 * s + 3) = (S.2.1 13 (64 * s + 3)) := (up2_j _ _ _ (by omega) : (uJ S1 13 (64 * s + 1) (S.2.1 13 (64 * s + 0))).2.1 13 (64 * s + 3) = S1.2.1 13 (64 * s + 3)).trans g1_3
  have uc2 : c_Row_put (A 118 s) (1 : Int32) (S.2.1 13 (64 * s + 0)) C1 = some C2 := uc2
  have ur2 : h_R_st_2 (i32 s) (1 : Int32) (dv (S.1 3 s) (S.2.1 13 (64 * s + 0))) T1 = some (tsD T1 13 (64 * s + 1) (dv (S.1 3 s) (S.2.1 13 (64 * s + 0)))) := ur2
  have hr2 := jj_s J2 hs2
  have hb2 := jj_b J2
  have n5_2 : A 5 ((uJ S1 13 (64 * s + 1) (S.2.1 13 (64 * s + 0))).1 3 s) = A 5 (S.1 3 s) := by rw [p2]
  have nu_2 : cgA C2 (A 7 s) 7 4 = some (some (A 5 (S.1 3 s))) := by rw [rs_numbers hr2, n5_2]
  have ss_2 : cgA C2 (A 7 s) 7 6 = some (some (A 118 s)) := rs_states hr2
  have cb7_2 : cob C2 (A 7 s) 7 = true := cob_of (ci := 7) (rs_tag hr2)
  have cb6_2 : cob C2 (A 118 s) 6 = true := cob_of (ci := 6) hr2.2.2.2.1
  have at_2_0 : c_Row_at (A 118 s) (0 : Int32) C2 = some (S.2.1 13 (64 * s + 0)) := by
    have h := at_flat (k := 0) J2 hs2 (by rw [p2]; exact hrg) (by rw [rl2]; decide)
    rw [g2_0] at h; exact h
  have at_2_1 : c_Row_at (A 118 s) (1 : Int32) C2 = some (S.2.1 13 (64 * s + 0)) := by
    have h := at_flat (k := 1) J2 hs2 (by rw [p2]; exact hrg) (by rw [rl2]; decide)
    rw [g2_1] at h; exact h
  have at_2_2 : c_Row_at (A 118 s) (2 : Int32) C2 = some (S.2.1 13 (64 * s + 2)) := by
    have h := at_flat (k := 2) J2 hs2 (by rw [p2]; exact hrg) (by rw [rl2]; decide)
    rw [g2_2] at h; exact h
  have at_2_3 : c_Row_at (A 118 s) (3 : Int32) C2 = some (S.2.1 13 (64 * s + 3)) := by
    have h := at_flat (k := 3) J2 hs2 (by rw [p2]; exact hrg) (by rw [rl2]; decide)
    rw [g2_3] at h; exact h
  obtain ⟨C3, uc3, ur3, J3⟩ := put_flat (k := 0) (v := x) J2 hs2 (by rw [p2]; exact hrg) (by rw [p2]; exact k12) (by rw [rl2]; decide) (by rw [p2]; exact hv)
  rw [p2] at ur3 J3
  have p3 : (uJ (uJ S1 13 (64 * s + 1) (S.2.1 13 (64 * s + 0))) 13 (64 * s + 0) x).1 = S.1 := p2
  have hs3 : s < (uJ (uJ S1 13 (64 * s + 1) (S.2.1 13 (64 * s + 0))) 13 (64 * s + 0) x).1 1 0 := hs2
  have q73 : (uJ (uJ S1 13 (64 * s + 1) (S.2.1 13 (64 * s + 0))) 13 (64 * s + 0) x).2.1 7 = S.2.1 7 := (uJ_k (by decide) : (uJ (uJ S1 13 (64 * s + 1) (S.2.1 13 (64 * s + 0))) 13 (64 * s + 0) x).2.1 7 = (uJ S1 13 (64 * s + 1) (S.2.1 13 (64 * s + 0))).2.1 7).trans q72
  have D3 : Dys S (uJ (uJ S1 13 (64 * s + 1) (S.2.1 13 (64 * s + 0))) 13 (64 * s + 0) x) s := D2.trans ⟨fun _ _ _ => rfl, fun k j h1 h2 => (if_neg (fun q => h2 ⟨q.1, by omega, by omega⟩) : up2 (uJ S1 13 (64 * s + 1) (S.2.1 13 (64 * s + 0))).2.1 13 (64 * s + 0) x k j = (uJ S1 13 (64 * s + 1) (S.2.1 13 (64 * s + 0))).2.1 k j), fun _ _ _ => rfl⟩
  have M3 : Mf T (tsD (tsD T1 13 (64 * s + 1) (dv (S.1 3 s) (S.2.1 13 (64 * s + 0)))) 13 (64 * s + 0) (dv (S.1 3 s) x)) := M2.trans (mf_D (by decide))
  have vv3 : vso (uJ (uJ S1 13 (64 * s + 1) (S.2.1 13 (64 * s + 0))) 13 (64 * s + 0) x) s = S.1 3 s := by rw [dy_vso D3.dy]; exact ev
  have rl3 : rln (uJ (uJ S1 13 (64 * s + 1) (S.2.1 13 (64 * s + 0))) 13 (64 * s + 0) x) s = 4 := (congrFun (dy_rln D3.dy) s).trans hrl
  have g3_0 : (uJ (uJ S1 13 (64 * s + 1) (S.2.1 13 (64 * s + 0))) 13 (64 * s + 0) x).2.1 13 (64 * s + 0) = x := up2_same _ _ _ _
  have g3_1 : (uJ (uJ S1 13 (64 * s + 1) (S.2.1 13 (64 * s + 0))) 13 (64 * s + 0) x).2.1 13 (64 * s + 1) = (S.2.1 13 (64 * s + 0)) := (up2_j _ _ _ (by omega) : (uJ (uJ S1 13 (64 * s + 1) (S.2.1 13 (64 * s + 0))) 13 (64 * s + 0) x).2.1 13 (64 * s + 1) = (uJ S1 13 (64 * s + 1) (S.2.1 13 (64 * s + 0))).2.1 13 (64 * s + 1)).trans g2_1
  have g3_2 : (uJ (uJ S1 13 (64 * s + 1) (S.2.1 13 (64 * s + 0))) 13 (64 * s + 0) x).2.1 13 (64 * s + 2) = (S.2.1 13 (64 * s + 2)) := (up2_j _ _ _ (by omega) : (uJ (uJ S1 13 (64 * s + 1) (S.2.1 13 (64 * s + 0))) 13 (64 * s + 0) x).2.1 13 (64 * s + 2) = (uJ S1 13 (64 * s + 1) (S.2.1 13 (64 * s + 0))).2.1 13 (64 * s + 2)).trans g2_2
  have g3_3 : (uJ (uJ S1 13 (64 * s + 1) (S.2.1 13 (64 * s + 0))) 13 (64 * s + 0) x).2.1 13 (64 * s + 3) = (S.2.1 13 (64 * s + 3)) := (up2_j _ _ _ (by omega) : (uJ (uJ S1 13 (64 * s + 1) (S.2.1 13 (64 * s + 0))) 13 (64 * s + 0) x).2.1 13 (64 * s + 3) = (uJ S1 13 (64 * s + 1) (S.2.1 13 (64 * s + 0))).2.1 13 (64 * s + 3)).trans g2_3
  have uc3 : c_Row_put (A 118 s) (0 : Int32) x C2 = some C3 := uc3
  have ur3 : h_R_st_2 (i32 s) (0 : Int32) (dv (S.1 3 s) x) (tsD T1 13 (64 * s + 1) (dv (S.1 3 s) (S.2.1 13 (64 * s + 0)))) = some (tsD (tsD T1 13 (64 * s + 1) (dv (S.1 3 s) (S.2.1 13 (64 * s + 0)))) 13 (64 * s + 0) (dv (S.1 3 s) x)) := ur3
  have hr3 := jj_s J3 hs3
  have hb3 := jj_b J3
  have n5_3 : A 5 ((uJ (uJ S1 13 (64 * s + 1) (S.2.1 13 (64 * s + 0))) 13 (64 * s + 0) x).1 3 s) = A 5 (S.1 3 s) := by rw [p3]
  have nu_3 : cgA C3 (A 7 s) 7 4 = some (some (A 5 (S.1 3 s))) := by rw [rs_numbers hr3, n5_3]
  have ss_3 : cgA C3 (A 7 s) 7 6 = some (some (A 118 s)) := rs_states hr3
  have cb7_3 : cob C3 (A 7 s) 7 = true := cob_of (ci := 7) (rs_tag hr3)
  have cb6_3 : cob C3 (A 118 s) 6 = true := cob_of (ci := 6) hr3.2.2.2.1
  have at_3_0 : c_Row_at (A 118 s) (0 : Int32) C3 = some x := by
    have h := at_flat (k := 0) J3 hs3 (by rw [p3]; exact hrg) (by rw [rl3]; decide)
    rw [g3_0] at h; exact h
  have at_3_1 : c_Row_at (A 118 s) (1 : Int32) C3 = some (S.2.1 13 (64 * s + 0)) := by
    have h := at_flat (k := 1) J3 hs3 (by rw [p3]; exact hrg) (by rw [rl3]; decide)
    rw [g3_1] at h; exact h
  have at_3_2 : c_Row_at (A 118 s) (2 : Int32) C3 = some (S.2.1 13 (64 * s + 2)) := by
    have h := at_flat (k := 2) J3 hs3 (by rw [p3]; exact hrg) (by rw [rl3]; decide)
    rw [g3_2] at h; exact h
  have at_3_3 : c_Row_at (A 118 s) (3 : Int32) C3 = some (S.2.1 13 (64 * s + 3)) := by
    have h := at_flat (k := 3) J3 hs3 (by rw [p3]; exact hrg) (by rw [rl3]; decide)
    rw [g3_3] at h; exact h
  have rp4 : h_R_st (i32 s) (2 : Int32) (tsD (tsD T1 13 (64 * s + 1) (dv (S.1 3 s) (S.2.1 13 (64 * s + 0)))) 13 (64 * s + 0) (dv (S.1 3 s) x)) = some (dv (S.1 3 s) (S.2.1 13 (64 * s + 2))) := by
    have h := st_dv J3 hs3 (k := 2) (by decide)
    rw [vv3, g3_2] at h; exact h
  obtain ⟨C4, uc4, ur4, J4⟩ := put_flat (k := 3) (v := (S.2.1 13 (64 * s + 2))) J3 hs3 (by rw [p3]; exact hrg) (by rw [p3]; exact k12) (by rw [rl3]; decide) (by rw [p3]; exact s_2)
  rw [p3] at ur4 J4
  have p4 : (uJ (uJ (uJ S1 13 (64 * s + 1) (S.2.1 13 (64 * s + 0))) 13 (64 * s + 0) x) 13 (64 * s + 3) (S.2.1 13 (64 * s + 2))).1 = S.1 := p3
  have hs4 : s < (uJ (uJ (uJ S1 13 (64 * s + 1) (S.2.1 13 (64 * s + 0))) 13 (64 * s + 0) x) 13 (64 * s + 3) (S.2.1 13 (64 * s + 2))).1 1 0 := hs3
  have q74 : (uJ (uJ (uJ S1 13 (64 * s + 1) (S.2.1 13 (64 * s + 0))) 13 (64 * s + 0) x) 13 (64 * s + 3) (S.2.1 13 (64 * s + 2))).2.1 7 = S.2.1 7 := (uJ_k (by decide) : (uJ (uJ (uJ S1 13 (64 * s + 1) (S.2.1 13 (64 * s + 0))) 13 (64 * s + 0) x) 13 (64 * s + 3) (S.2.1 13 (64 * s + 2))).2.1 7 = (uJ (uJ S1 13 (64 * s + 1) (S.2.1 13 (64 * s + 0))) 13 (64 * s + 0) x).2.1 7).trans q73
  have D4 : Dys S (uJ (uJ (uJ S1 13 (64 * s + 1) (S.2.1 13 (64 * s + 0))) 13 (64 * s + 0) x) 13 (64 * s + 3) (S.2.1 13 (64 * s + 2))) s := D3.trans ⟨fun _ _ _ => rfl, fun k j h1 h2 => (if_neg (fun q => h2 ⟨q.1, by omega, by omega⟩) : up2 (uJ (uJ S1 13 (64 * s + 1) (S.2.1 13 (64 * s + 0))) 13 (64 * s + 0) x).2.1 13 (64 * s + 3) (S.2.1 13 (64 * s + 2)) k j = (uJ (uJ S1 13 (64 * s + 1) (S.2.1 13 (64 * s + 0))) 13 (64 * s + 0) x).2.1 k j), fun _ _ _ => rfl⟩
  have M4 : Mf T (tsD (tsD (tsD T1 13 (64 * s + 1) (dv (S.1 3 s) (S.2.1 13 (64 * s + 0)))) 13 (64 * s + 0) (dv (S.1 3 s) x)) 13 (64 * s + 3) (dv (S.1 3 s) (S.2.1 13 (64 * s + 2)))) := M3.trans (mf_D (by decide))
  have vv4 : vso (uJ (uJ (uJ S1 13 (64 * s + 1) (S.2.1 13 (64 * s + 0))) 13 (64 * s + 0) x) 13 (64 * s + 3) (S.2.1 13 (64 * s + 2))) s = S.1 3 s := by rw [dy_vso D4.dy]; exact ev
  have rl4 : rln (uJ (uJ (uJ S1 13 (64 * s + 1) (S.2.1 13 (64 * s + 0))) 13 (64 * s + 0) x) 13 (64 * s + 3) (S.2.1 13 (64 * s + 2))) s = 4 := (congrFun (dy_rln D4.dy) s).trans hrl
  have g4_0 : (uJ (uJ (uJ S1 13 (64 * s + 1) (S.2.1 13 (64 * s + 0))) 13 (64 * s + 0) x) 13 (64 * s + 3) (S.2.1 13 (64 * s + 2))).2.1 13 (64 * s + 0) = x := (up2_j _ _ _ (by omega) : (uJ (uJ (uJ S1 13 (64 * s + 1) (S.2.1 13 (64 * s + 0))) 13 (64 * s + 0) x) 13 (64 * s + 3) (S.2.1 13 (64 * s + 2))).2.1 13 (64 * s + 0) = (uJ (uJ S1 13 (64 * s + 1) (S.2.1 13 (64 * s + 0))) 13 (64 * s + 0) x).2.1 13 (64 * s + 0)).trans g3_0
  have g4_1 : (uJ (uJ (uJ S1 13 (64 * s + 1) (S.2.1 13 (64 * s + 0))) 13 (64 * s + 0) x) 13 (64 * s + 3) (S.2.1 13 (64 * s + 2))).2.1 13 (64 * s + 1) = (S.2.1 13 (64 * s + 0)) := (up2_j _ _ _ (by omega) : (uJ (uJ (uJ S1 13 (64 * s + 1) (S.2.1 13 (64 * s + 0))) 13 (64 * s + 0) x) 13 (64 * s + 3) (S.2.1 13 (64 * s + 2))).2.1 13 (64 * s + 1) = (uJ (uJ S1 13 (64 * s + 1) (S.2.1 13 (64 * s + 0))) 13 (64 * s + 0) x).2.1 13 (64 * s + 1)).trans g3_1
  have g4_2 : (uJ (uJ (uJ S1 13 (64 * s + 1) (S.2.1 13 (64 * s + 0))) 13 (64 * s + 0) x) 13 (64 * s + 3) (S.2.1 13 (64 * s + 2))).2.1 13 (64 * s + 2) = (S.2.1 13 (64 * s + 2)) := (up2_j _ _ _ (by omega) : (uJ (uJ (uJ S1 13 (64 * s + 1) (S.2.1 13 (64 * s + 0))) 13 (64 * s + 0) x) 13 (64 * s + 3) (S.2.1 13 (64 * s + 2))).2.1 13 (64 * s + 2) = (uJ (uJ S1 13 (64 * s + 1) (S.2.1 13 (64 * s + 0))) 13 (64 * s + 0) x).2.1 13 (64 * s + 2)).trans g3_2
  have g4_3 : (uJ (uJ (uJ S1 13 (64 * s + 1) (S.2.1 13 (64 * s + 0))) 13 (64 * s + 0) x) 13 (64 * s + 3) (S.2.1 13 (64 * s + 2))).2.1 13 (64 * s + 3) = (S.2.1 13 (64 * s + 2)) := up2_same _ _ _ _
  have uc4 : c_Row_put (A 118 s) (3 : Int32) (S.2.1 13 (64 * s + 2)) C3 = some C4 := uc4
  have ur4 : h_R_st_2 (i32 s) (3 : Int32) (dv (S.1 3 s) (S.2.1 13 (64 * s + 2))) (tsD (tsD T1 13 (64 * s + 1) (dv (S.1 3 s) (S.2.1 13 (64 * s + 0)))) 13 (64 * s + 0) (dv (S.1 3 s) x)) = some (tsD (tsD (tsD T1 13 (64 * s + 1) (dv (S.1 3 s) (S.2.1 13 (64 * s + 0)))) 13 (64 * s + 0) (dv (S.1 3 s) x)) 13 (64 * s + 3) (dv (S.1 3 s) (S.2.1 13 (64 * s + 2)))) := ur4
  have hr4 := jj_s J4 hs4
  have hb4 := jj_b J4
  have n5_4 : A 5 ((uJ (uJ (uJ S1 13 (64 * s + 1) (S.2.1 13 (64 * s + 0))) 13 (64 * s + 0) x) 13 (64 * s + 3) (S.2.1 13 (64 * s + 2))).1 3 s) = A 5 (S.1 3 s) := by rw [p4]
  have nu_4 : cgA C4 (A 7 s) 7 4 = some (some (A 5 (S.1 3 s))) := by rw [rs_numbers hr4, n5_4]
  have ss_4 : cgA C4 (A 7 s) 7 6 = some (some (A 118 s)) := rs_states hr4
  have cb7_4 : cob C4 (A 7 s) 7 = true := cob_of (ci := 7) (rs_tag hr4)
  have cb6_4 : cob C4 (A 118 s) 6 = true := cob_of (ci := 6) hr4.2.2.2.1
  have at_4_0 : c_Row_at (A 118 s) (0 : Int32) C4 = some x := by
    have h := at_flat (k := 0) J4 hs4 (by rw [p4]; exact hrg) (by rw [rl4]; decide)
    rw [g4_0] at h; exact h
  have at_4_1 : c_Row_at (A 118 s) (1 : Int32) C4 = some (S.2.1 13 (64 * s + 0)) := by
    have h := at_flat (k := 1) J4 hs4 (by rw [p4]; exact hrg) (by rw [rl4]; decide)
    rw [g4_1] at h; exact h
  have at_4_2 : c_Row_at (A 118 s) (2 : Int32) C4 = some (S.2.1 13 (64 * s + 2)) := by
    have h := at_flat (k := 2) J4 hs4 (by rw [p4]; exact hrg) (by rw [rl4]; decide)
    rw [g4_2] at h; exact h
  have at_4_3 : c_Row_at (A 118 s) (3 : Int32) C4 = some (S.2.1 13 (64 * s + 2)) := by
    have h := at_flat (k := 3) J4 hs4 (by rw [p4]; exact hrg) (by rw [rl4]; decide)
    rw [g4_3] at h; exact h
  obtain ⟨C5, uc5, ur5, J5⟩ := put_flat (k := 2) (v := y1) J4 hs4 (by rw [p4]; exact hrg) (by rw [p4]; exact k12) (by rw [rl4]; decide) (by rw [p4]; exact v_y1)
  rw [p4] at ur5 J5
  have p5 : (uJ (uJ (uJ (uJ S1 13 (64 * s + 1) (S.2.1 13 (64 * s + 0))) 13 (64 * s + 0) x) 13 (64 * s + 3) (S.2.1 13 (64 * s + 2))) 13 (64 * s + 2) y1).1 = S.1 := p4
  have hs5 : s < (uJ (uJ (uJ (uJ S1 13 (64 * s + 1) (S.2.1 13 (64 * s + 0))) 13 (64 * s + 0) x) 13 (64 * s + 3) (S.2.1 13 (64 * s + 2))) 13 (64 * s + 2) y1).1 1 0 := hs4
  have q75 : (uJ (uJ (uJ (uJ S1 13 (64 * s + 1) (S.2.1 13 (64 * s + 0))) 13 (64 * s + 0) x) 13 (64 * s + 3) (S.2.1 13 (64 * s + 2))) 13 (64 * s + 2) y1).2.1 7 = S.2.1 7 := (uJ_k (by decide) : (uJ (uJ (uJ (uJ S1 13 (64 * s + 1) (S.2.1 13 (64 * s + 0))) 13 (64 * s + 0) x) 13 (64 * s + 3) (S.2.1 13 (64 * s + 2))) 13 (64 * s + 2) y1).2.1 7 = (uJ (uJ (uJ S1 13 (64 * s + 1) (S.2.1 13 (64 * s + 0))) 13 (64 * s + 0) x) 13 (64 * s + 3) (S.2.1 13 (64 * s + 2))).2.1 7).trans q74
  have D5 : Dys S (uJ (uJ (uJ (uJ S1 13 (64 * s + 1) (S.2.1 13 (64 * s + 0))) 13 (64 * s + 0) x) 13 (64 * s + 3) (S.2.1 13 (64 * s + 2))) 13 (64 * s + 2) y1) s := D4.trans ⟨fun _ _ _ => rfl, fun k j h1 h2 => (if_neg (fun q => h2 ⟨q.1, by omega, by omega⟩) : up2 (uJ (uJ (uJ S1 13 (64 * s + 1) (S.2.1 13 (64 * s + 0))) 13 (64 * s + 0) x) 13 (64 * s + 3) (S.2.1 13 (64 * s + 2))).2.1 13 (64 * s + 2) y1 k j = (uJ (uJ (uJ S1 13 (64 * s + 1) (S.2.1 13 (64 * s + 0))) 13 (64 * s + 0) x) 13 (64 * s + 3) (S.2.1 13 (64 * s + 2))).2.1 k j), fun _ _ _ => rfl⟩
  have M5 : Mf T (tsD (tsD (tsD (tsD T1 13 (64 * s + 1) (dv (S.1 3 s) (S.2.1 13 (64 * s + 0)))) 13 (64 * s + 0) (dv (S.1 3 s) x)) 13 (64 * s + 3) (dv (S.1 3 s) (S.2.1 13 (64 * s + 2)))) 13 (64 * s + 2) (dv (S.1 3 s) y1)) := M4.trans (mf_D (by decide))
  have vv5 : vso (uJ (uJ (uJ (uJ S1 13 (64 * s + 1) (S.2.1 13 (64 * s + 0))) 13 (64 * s + 0) x) 13 (64 * s + 3) (S.2.1 13 (64 * s + 2))) 13 (64 * s + 2) y1) s = S.1 3 s := by rw [dy_vso D5.dy]; exact ev
  have rl5 : rln (uJ (uJ (uJ (uJ S1 13 (64 * s + 1) (S.2.1 13 (64 * s + 0))) 13 (64 * s + 0) x) 13 (64 * s + 3) (S.2.1 13 (64 * s + 2))) 13 (64 * s + 2) y1) s = 4 := (congrFun (dy_rln D5.dy) s).trans hrl
  have g5_0 : (uJ (uJ (uJ (uJ S1 13 (64 * s + 1) (S.2.1 13 (64 * s + 0))) 13 (64 * s + 0) x) 13 (64 * s + 3) (S.2.1 13 (64 * s + 2))) 13 (64 * s + 2) y1).2.1 13 (64 * s + 0) = x := (up2_j _ _ _ (by omega) : (uJ (uJ (uJ (uJ S1 13 (64 * s + 1) (S.2.1 13 (64 * s + 0))) 13 (64 * s + 0) x) 13 (64 * s + 3) (S.2.1 13 (64 * s + 2))) 13 (64 * s + 2) y1).2.1 13 (64 * s + 0) = (uJ (uJ (uJ S1 13 (64 * s + 1) (S.2.1 13 (64 * s + 0))) 13 (64 * s + 0) x) 13 (64 * s + 3) (S.2.1 13 (64 * s + 2))).2.1 13 (64 * s + 0)).trans g4_0
  have g5_1 : (uJ (uJ (uJ (uJ S1 13 (64 * s + 1) (S.2.1 13 (64 * s + 0))) 13 (64 * s + 0) x) 13 (64 * s + 3) (S.2.1 13 (64 * s + 2))) 13 (64 * s + 2) y1).2.1 13 (64 * s + 1) = (S.2.1 13 (64 * s + 0)) := (up2_j _ _ _ (by omega) : (uJ (uJ (uJ (uJ S1 13 (64 * s + 1) (S.2.1 13 (64 * s + 0))) 13 (64 * s + 0) x) 13 (64 * s + 3) (S.2.1 13 (64 * s + 2))) 13 (64 * s + 2) y1).2.1 13 (64 * s + 1) = (uJ (uJ (uJ S1 13 (64 * s + 1) (S.2.1 13 (64 * s + 0))) 13 (64 * s + 0) x) 13 (64 * s + 3) (S.2.1 13 (64 * s + 2))).2.1 13 (64 * s + 1)).trans g4_1
  have g5_2 : (uJ (uJ (uJ (uJ S1 13 (64 * s + 1) (S.2.1 13 (64 * s + 0))) 13 (64 * s + 0) x) 13 (64 * s + 3) (S.2.1 13 (64 * s + 2))) 13 (64 * s + 2) y1).2.1 13 (64 * s + 2) = y1 := up2_same _ _ _ _
  have g5_3 : (uJ (uJ (uJ (uJ S1 13 (64 * s + 1) (S.2.1 13 (64 * s + 0))) 13 (64 * s + 0) x) 13 (64 * s + 3) (S.2.1 13 (64 * s + 2))) 13 (64 * s + 2) y1).2.1 13 (64 * s + 3) = (S.2.1 13 (64 * s + 2)) := (up2_j _ _ _ (by omega) : (uJ (uJ (uJ (uJ S1 13 (64 * s + 1) (S.2.1 13 (64 * s + 0))) 13 (64 * s + 0) x) 13 (64 * s + 3) (S.2.1 13 (64 * s + 2))) 13 (64 * s + 2) y1).2.1 13 (64 * s + 3) = (uJ (uJ (uJ S1 13 (64 * s + 1) (S.2.1 13 (64 * s + 0))) 13 (64 * s + 0) x) 13 (64 * s + 3) (S.2.1 13 (64 * s + 2))).2.1 13 (64 * s + 3)).trans g4_3
  have uc5 : c_Row_put (A 118 s) (2 : Int32) y1 C4 = some C5 := uc5
  have ur5 : h_R_st_2 (i32 s) (2 : Int32) (dv (S.1 3 s) y1) (tsD (tsD (tsD T1 13 (64 * s + 1) (dv (S.1 3 s) (S.2.1 13 (64 * s + 0)))) 13 (64 * s + 0) (dv (S.1 3 s) x)) 13 (64 * s + 3) (dv (S.1 3 s) (S.2.1 13 (64 * s + 2)))) = some (tsD (tsD (tsD (tsD T1 13 (64 * s + 1) (dv (S.1 3 s) (S.2.1 13 (64 * s + 0)))) 13 (64 * s + 0) (dv (S.1 3 s) x)) 13 (64 * s + 3) (dv (S.1 3 s) (S.2.1 13 (64 * s + 2)))) 13 (64 * s + 2) (dv (S.1 3 s) y1)) := ur5
  have hr5 := jj_s J5 hs5
  have hb5 := jj_b J5
  have n5_5 : A 5 ((uJ (uJ (uJ (uJ S1 13 (64 * s + 1) (S.2.1 13 (64 * s + 0))) 13 (64 * s + 0) x) 13 (64 * s + 3) (S.2.1 13 (64 * s + 2))) 13 (64 * s + 2) y1).1 3 s) = A 5 (S.1 3 s) := by rw [p5]
  have nu_5 : cgA C5 (A 7 s) 7 4 = some (some (A 5 (S.1 3 s))) := by rw [rs_numbers hr5, n5_5]
  have ss_5 : cgA C5 (A 7 s) 7 6 = some (some (A 118 s)) := rs_states hr5
  have cb7_5 : cob C5 (A 7 s) 7 = true := cob_of (ci := 7) (rs_tag hr5)
  have cb6_5 : cob C5 (A 118 s) 6 = true := cob_of (ci := 6) hr5.2.2.2.1
  have at_5_0 : c_Row_at (A 118 s) (0 : Int32) C5 = some x := by
    have h := at_flat (k := 0) J5 hs5 (by rw [p5]; exact hrg) (by rw [rl5]; decide)
    rw [g5_0] at h; exact h
  have at_5_1 : c_Row_at (A 118 s) (1 : Int32) C5 = some (S.2.1 13 (64 * s + 0)) := by
    have h := at_flat (k := 1) J5 hs5 (by rw [p5]; exact hrg) (by rw [rl5]; decide)
    rw [g5_1] at h; exact h
  have at_5_2 : c_Row_at (A 118 s) (2 : Int32) C5 = some y1 := by
    have h := at_flat (k := 2) J5 hs5 (by rw [p5]; exact hrg) (by rw [rl5]; decide)
    rw [g5_2] at h; exact h
  have at_5_3 : c_Row_at (A 118 s) (3 : Int32) C5 = some (S.2.1 13 (64 * s + 2)) := by
    have h := at_flat (k := 3) J5 hs5 (by rw [p5]; exact hrg) (by rw [rl5]; decide)
    rw [g5_3] at h; exact h
  refine ⟨y1, (uJ (uJ (uJ (uJ S1 13 (64 * s + 1) (S.2.1 13 (64 * s + 0))) 13 (64 * s + 0) x) 13 (64 * s + 3) (S.2.1 13 (64 * s + 2))) 13 (64 * s + 2) y1), C5, (tsD (tsD (tsD (tsD T1 13 (64 * s + 1) (dv (S.1 3 s) (S.2.1 13 (64 * s + 0)))) 13 (64 * s + 0) (dv (S.1 3 s) x)) 13 (64 * s + 3) (dv (S.1 3 s) (S.2.1 13 (64 * s + 2)))) 13 (64 * s + 2) (dv (S.1 3 s) y1)), ?_, ?_, J5, v_y1, D5, M5⟩
  · unfold c_Section_direct
    simp only [nu_0, ss_0, cb7_0, cb6_0, at_0_0, at_0_1, at_0_2, at_0_3, tc0_0, tc0_1, pl0_1, tc0_2, pl0_2, tc0_3, pl0_3, tc0_4, pl0_4, uc1, nu_1, ss_1, cb7_1, cb6_1, at_1_0, at_1_1, at_1_2, at_1_3, uc2, nu_2, ss_2, cb7_2, cb6_2, at_2_0, at_2_1, at_2_2, at_2_3, uc3, nu_3, ss_3, cb7_3, cb6_3, at_3_0, at_3_1, at_3_2, at_3_3, uc4, nu_4, ss_4, cb7_4, cb6_4, at_4_0, at_4_1, at_4_2, at_4_3, uc5, nu_5, ss_5, cb7_5, cb6_5, at_5_0, at_5_1, at_5_2, at_5_3, obd_some, jgd_true, cbd2_some]
  · unfold h_R_works
    rw [e60, obd_some, ek, if_neg (by decide : ¬ (i32 2 : Int32) = 0), if_neg (by decide : ¬ (i32 2 : Int32) = 1), if_pos (by rfl : (i32 2 : Int32) = 2)]
    simp only [ab0, rc0_0, au0_0, rs0_1, rc0_1, au0_1, rs0_2, rc0_2, au0_2, rs0_3, rc0_3, au0_3, rs0_4, rc0_4, au0_4, ur1, rp2, ur2, ur3, rp4, ur4, ur5, obd_some, tbd2_some]
set_option maxHeartbeats 4000000 in
theorem wk_3 {N : Nat} (J : JJ G E B bx m ad S A C T) (hs : s < S.1 1 0) (hk : S.1 2 s = 3) (hv : vb (S.1 3 s) x) : ∃ y S' C' T', c_Section_second (A 7 s) x C = some (y, C') ∧ h_R_works N (i32 s) (dv (S.1 3 s) x) T = some (dv (S.1 3 s) y, T') ∧ JJ G E B bx m ad S' A C' T' ∧ vb (S.1 3 s) y ∧ Dys S S' s ∧ Mf T T' := by
  have hs60 : s < 60 := by have := (jj_n J).1; omega
  have h3 := so_lt J hs
  have k12 : S.1 2 s ≠ 12 := by rw [hk]; decide
  have ev : vso S s = S.1 3 s := vso_ne k12
  have hrg : ringy (S.1 2 s) = false := by rw [hk]; rfl
  have hrl : rln S s = 2 := by unfold rln; rw [hk]; rfl
  have hnf : nfac (S.1 2 s) = 5 := by rw [hk]; rfl
  have c_0 : vb (S.1 3 s) (S.2.1 7 (5 * s + 0)) := cf_vb J hs (by decide)
  have c_1 : vb (S.1 3 s) (S.2.1 7 (5 * s + 1)) := cf_vb J hs (by decide)
  have c_2 : vb (S.1 3 s) (S.2.1 7 (5 * s + 2)) := cf_vb J hs (by decide)
  have c_3 : vb (S.1 3 s) (S.2.1 7 (5 * s + 3)) := cf_vb J hs (by decide)
  have c_4 : vb (S.1 3 s) (S.2.1 7 (5 * s + 4)) := cf_vb J hs (by decide)
  have s_0 : vb (S.1 3 s) (S.2.1 13 (64 * s + 0)) := by rw [← ev]; exact st_vb J hs (by decide)
  have s_1 : vb (S.1 3 s) (S.2.1 13 (64 * s + 1)) := by rw [← ev]; exact st_vb J hs (by decide)
  have e60 : jrg 60 (i32 s) = some s := jrg_i32 hs60 (by decide)
  have ek : T.1 2 s = i32 3 := by rw [jj_N J 2 (by decide), hk]
  have J0 := J
  have p0 : S.1 = S.1 := rfl
  have hs0 := hs
  have q70 : S.2.1 7 = S.2.1 7 := rfl
  have D0 := Dys.refl s S
  have M0 := Mf.refl T
  have rl0 : rln S s = 2 := hrl
  have g0_0 : S.2.1 13 (64 * s + 0) = (S.2.1 13 (64 * s + 0)) := rfl
  have g0_1 : S.2.1 13 (64 * s + 1) = (S.2.1 13 (64 * s + 1)) := rfl
  have hr0 := jj_s J0 hs0
  have hb0 := jj_b J0
  have n5_0 : A 5 (S.1 3 s) = A 5 (S.1 3 s) := rfl
  have nu_0 : cgA C (A 7 s) 7 4 = some (some (A 5 (S.1 3 s))) := by rw [rs_numbers hr0]
  have ss_0 : cgA C (A 7 s) 7 6 = some (some (A 118 s)) := rs_states hr0
  have cb7_0 : cob C (A 7 s) 7 = true := cob_of (ci := 7) (rs_tag hr0)
  have cb6_0 : cob C (A 118 s) 6 = true := cob_of (ci := 6) hr0.2.2.2.1
  have at_0_0 : c_Row_at (A 118 s) (0 : Int32) C = some (S.2.1 13 (64 * s + 0)) := by
    have h := at_flat (k := 0) J0 hs0 hrg (by rw [rl0]; decide)
    rw [g0_0] at h; exact h
  have at_0_1 : c_Row_at (A 118 s) (1 : Int32) C = some (S.2.1 13 (64 * s + 1)) := by
    have h := at_flat (k := 1) J0 hs0 hrg (by rw [rl0]; decide)
    rw [g0_1] at h; exact h
  obtain ⟨B0, ab0, mb0, fb0⟩ := begins_ref (jj_rt J0) hs60
  have JB0_0 := jj_T J0 (rt_Sc (jj_rt J0) fb0)
  obtain ⟨U0_0, au0_0, mu0_0, fu0_0⟩ := term2_ref h3 mb0 (by decide) hv (fun _ _ => rfl)
  have mu0_0 : MS U0_0 s (S.1 3 s) 1 (tmB (S.1 3 s) x) := mu0_0
  have tc0_0 := nums_term (so := S.1 3 s) hb0 h3 x
  have JB0_1 := jj_T J0 (rt_Sc (jj_rt J0) (fb0.trans fu0_0))
  have rs0_1 : h_R_st (i32 s) (0 : Int32) U0_0 = some (dv (S.1 3 s) (S.2.1 13 (64 * s + 0))) := by
    have h := st_dv JB0_1 hs0 (k := 0) (by decide)
    rw [ev] at h; exact h
  have rc0_1 : h_R_c (i32 s) (3 : Int32) U0_0 = some (dv (S.1 3 s) (S.2.1 7 (5 * s + 3))) := by
    have h := coef_dv JB0_1 hs0 (j := 3) (by decide)
    exact h
  obtain ⟨U0_1, au0_1, mu0_1, fu0_1⟩ := term_ref h3 mu0_0 (by decide) c_3 s_0 (off := true) (fun q => absurd q (by decide))
  have mu0_1 : MS U0_1 s (S.1 3 s) 2 (plB (S.1 3 s) (tmB (S.1 3 s) x) (opB (S.1 3 s) (prB (S.1 3 s) (S.2.1 7 (5 * s + 3)) (S.2.1 13 (64 * s + 0))))) := mu0_1
  have tc0_1 : c_Section_lessTimes (A 7 s) (3 : Int32) (S.2.1 13 (64 * s + 0)) C = some (opB (S.1 3 s) (prB (S.1 3 s) (S.2.1 7 (5 * s + 3)) (S.2.1 13 (64 * s + 0)))) := by
    have h := less_of (k := 3) J0 hs0 (v := (S.2.1 13 (64 * s + 0))) (by rw [hnf]; decide) (fun _ => by exact s_0)
    exact h
  have pl0_1 := nums_plus (so := S.1 3 s) hb0 h3 (c := (tmB (S.1 3 s) x)) (v := (opB (S.1 3 s) (prB (S.1 3 s) (S.2.1 7 (5 * s + 3)) (S.2.1 13 (64 * s + 0))))) (fun h2 => (by rw [show tmB (S.1 3 s) x = x from if_pos h2]; exact hv)) (fun h2 => opB_vb h2 _)
  have JB0_2 := jj_T J0 (rt_Sc (jj_rt J0) ((fb0.trans fu0_0).trans fu0_1))
  have rs0_2 : h_R_st (i32 s) (1 : Int32) U0_1 = some (dv (S.1 3 s) (S.2.1 13 (64 * s + 1))) := by
    have h := st_dv JB0_2 hs0 (k := 1) (by decide)
    rw [ev] at h; exact h
  have rc0_2 : h_R_c (i32 s) (4 : Int32) U0_1 = some (dv (S.1 3 s) (S.2.1 7 (5 * s + 4))) := by
    have h := coef_dv JB0_2 hs0 (j := 4) (by decide)
    exact h
  obtain ⟨U0_2, au0_2, mu0_2, fu0_2⟩ := term_ref h3 mu0_1 (by decide) c_4 s_1 (off := true) (fun q => absurd q (by decide))
  have mu0_2 : MS U0_2 s (S.1 3 s) 3 (plB (S.1 3 s) (plB (S.1 3 s) (tmB (S.1 3 s) x) (opB (S.1 3 s) (prB (S.1 3 s) (S.2.1 7 (5 * s + 3)) (S.2.1 13 (64 * s + 0))))) (opB (S.1 3 s) (prB (S.1 3 s) (S.2.1 7 (5 * s + 4)) (S.2.1 13 (64 * s + 1))))) := mu0_2
  have tc0_2 : c_Section_lessTimes (A 7 s) (4 : Int32) (S.2.1 13 (64 * s + 1)) C = some (opB (S.1 3 s) (prB (S.1 3 s) (S.2.1 7 (5 * s + 4)) (S.2.1 13 (64 * s + 1)))) := by
    have h := less_of (k := 4) J0 hs0 (v := (S.2.1 13 (64 * s + 1))) (by rw [hnf]; decide) (fun _ => by exact s_1)
    exact h
  have pl0_2 := nums_plus (so := S.1 3 s) hb0 h3 (c := (plB (S.1 3 s) (tmB (S.1 3 s) x) (opB (S.1 3 s) (prB (S.1 3 s) (S.2.1 7 (5 * s + 3)) (S.2.1 13 (64 * s + 0)))))) (v := (opB (S.1 3 s) (prB (S.1 3 s) (S.2.1 7 (5 * s + 4)) (S.2.1 13 (64 * s + 1))))) (fun h2 => plB_vb h2 _ _) (fun h2 => opB_vb h2 _)
  obtain ⟨y1, S1, C1, T1, uc1, ur1, J1, v_y1, sl1, mf1⟩ := settle (jj_T J0 (rt_Sc (jj_rt J0) (((fb0.trans fu0_0).trans fu0_1).trans fu0_2))) hs0 rfl mu0_2 (by decide)
  have p1 : S1.1 = S.1 := sl1.1.trans p0
  have hs1 : s < S1.1 1 0 := by rw [p1]; exact hs
  have q71 : S1.2.1 7 = S.2.1 7 := (sl_J sl1 (by decide)).trans q70
  have D1 : Dys S S1 s := D0.trans sl1.dys
  have M1 : Mf T T1 := M0.trans (Mf.trans (Sc.mf (((fb0.trans fu0_0).trans fu0_1).trans fu0_2)) mf1)
  have vv1 : vso S1 s = S.1 3 s := by rw [dy_vso D1.dy]; exact ev
  have rl1 : rln S1 s = 2 := (congrFun (dy_rln D1.dy) s).trans hrl
  have g1_0 : S1.2.1 13 (64 * s + 0) = (S.2.1 13 (64 * s + 0)) := (congrFun (sl_J sl1 (by decide)) _).trans g0_0
  have g1_1 : S1.2.1 13 (64 * s + 1) = (S.2.1 13 (64 * s + 1)) := (congrFun (sl_J sl1 (by decide)) _).trans g0_1
  have hr1 := jj_s J1 hs1
  have hb1 := jj_b J1
  have n5_1 : A 5 (S1.1 3 s) = A 5 (S.1 3 s) := by rw [p1]
  have nu_1 : cgA C1 (A 7 s) 7 4 = some (some (A 5 (S.1 3 s))) := by rw [rs_numbers hr1, n5_1]
  have ss_1 : cgA C1 (A 7 s) 7 6 = some (some (A 118 s)) := rs_states hr1
  have cb7_1 : cob C1 (A 7 s) 7 = true := cob_of (ci := 7) (rs_tag hr1)
  have cb6_1 : cob C1 (A 118 s) 6 = true := cob_of (ci := 6) hr1.2.2.2.1
  have at_1_0 : c_Row_at (A 118 s) (0 : Int32) C1 = some (S.2.1 13 (64 * s + 0)) := by
    have h := at_flat (k := 0) J1 hs1 (by rw [p1]; exact hrg) (by rw [rl1]; decide)
    rw [g1_0] at h; exact h
  have at_1_1 : c_Row_at (A 118 s) (1 : Int32) C1 = some (S.2.1 13 (64 * s + 1)) := by
    have h := at_flat (k := 1) J1 hs1 (by rw [p1]; exact hrg) (by rw [rl1]; decide)
    rw [g1_1] at h; exact h
  obtain ⟨B1, ab1, mb1, fb1⟩ := begins_ref (jj_rt J1) hs60
  rw [p1] at mb1
  have JB1_0 := jj_T J1 (rt_Sc (jj_rt J1) fb1)
  have rc1_0 : h_R_c (i32 s) (0 : Int32) B1 = some (dv (S.1 3 s) (S.2.1 7 (5 * s + 0))) := by
    have h := coef_dv JB1_0 hs1 (j := 0) (by decide)
    rw [p1, q71] at h; exact h
  obtain ⟨U1_0, au1_0, mu1_0, fu1_0⟩ := term_ref h3 mb1 (by decide) c_0 v_y1 (off := false) (fun _ => ⟨rfl, fun _ => rfl⟩)
  have mu1_0 : MS U1_0 s (S.1 3 s) 1 (prB (S.1 3 s) (S.2.1 7 (5 * s + 0)) y1) := mu1_0
  have tc1_0 : c_Section_times (A 7 s) (0 : Int32) y1 C1 = some (prB (S.1 3 s) (S.2.1 7 (5 * s + 0)) y1) := by
    have h := times_of (k := 0) J1 hs1 (v := y1) (by rw [p1, hnf]; decide) (fun _ => by rw [p1]; exact v_y1)
    rw [p1, q71] at h; exact h
  have JB1_1 := jj_T J1 (rt_Sc (jj_rt J1) (fb1.trans fu1_0))
  have rs1_1 : h_R_st (i32 s) (0 : Int32) U1_0 = some (dv (S.1 3 s) (S.2.1 13 (64 * s + 0))) := by
    have h := st_dv JB1_1 hs1 (k := 0) (by decide)
    rw [vv1, g1_0] at h; exact h
  have rc1_1 : h_R_c (i32 s) (1 : Int32) U1_0 = some (dv (S.1 3 s) (S.2.1 7 (5 * s + 1))) := by
    have h := coef_dv JB1_1 hs1 (j := 1) (by decide)
    rw [p1, q71] at h; exact h
  obtain ⟨U1_1, au1_1, mu1_1, fu1_1⟩ := term_ref h3 mu1_0 (by decide) c_1 s_0 (off := false) (fun q => absurd q (by decide))
  have mu1_1 : MS U1_1 s (S.1 3 s) 2 (plB (S.1 3 s) (prB (S.1 3 s) (S.2.1 7 (5 * s + 0)) y1) (prB (S.1 3 s) (S.2.1 7 (5 * s + 1)) (S.2.1 13 (64 * s + 0)))) := mu1_1
  have tc1_1 : c_Section_times (A 7 s) (1 : Int32) (S.2.1 13 (64 * s + 0)) C1 = some (prB (S.1 3 s) (S.2.1 7 (5 * s + 1)) (S.2.1 13 (64 * s + 0))) := by
    have h := times_of (k := 1) J1 hs1 (v := (S.2.1 13 (64 * s + 0))) (by rw [p1, hnf]; decide) (fun _ => by rw [p1]; exact s_0)
    rw [p1, q71] at h; exact h
  have pl1_1 := nums_plus (so := S.1 3 s) hb1 h3 (c := (prB (S.1 3 s) (S.2.1 7 (5 * s + 0)) y1)) (v := (prB (S.1 3 s) (S.2.1 7 (5 * s + 1)) (S.2.1 13 (64 * s + 0)))) (fun h2 => prB_vb h2 _ _) (fun h2 => prB_vb h2 _ _)
  have JB1_2 := jj_T J1 (rt_Sc (jj_rt J1) ((fb1.trans fu1_0).trans fu1_1))
  have rs1_2 : h_R_st (i32 s) (1 : Int32) U1_1 = some (dv (S.1 3 s) (S.2.1 13 (64 * s + 1))) := by
    have h := st_dv JB1_2 hs1 (k := 1) (by decide)
    rw [vv1, g1_1] at h; exact h
  have rc1_2 : h_R_c (i32 s) (2 : Int32) U1_1 = some (dv (S.1 3 s) (S.2.1 7 (5 * s + 2))) := by
    have h := coef_dv JB1_2 hs1 (j := 2) (by decide)
    rw [p1, q71] at h; exact h
  obtain ⟨U1_2, au1_2, mu1_2, fu1_2⟩ := term_ref h3 mu1_1 (by decide) c_2 s_1 (off := false) (fun q => absurd q (by decide))
  have mu1_2 : MS U1_2 s (S.1 3 s) 3 (plB (S.1 3 s) (plB (S.1 3 s) (prB (S.1 3 s) (S.2.1 7 (5 * s + 0)) y1) (prB (S.1 3 s) (S.2.1 7 (5 * s + 1)) (S.2.1 13 (64 * s + 0)))) (prB (S.1 3 s) (S.2.1 7 (5 * s + 2)) (S.2.1 13 (64 * s + 1)))) := mu1_2
  have tc1_2 : c_Section_times (A 7 s) (2 : Int32) (S.2.1 13 (64 * s + 1)) C1 = some (prB (S.1 3 s) (S.2.1 7 (5 * s + 2)) (S.2.1 13 (64 * s + 1))) := by
    have h := times_of (k := 2) J1 hs1 (v := (S.2.1 13 (64 * s + 1))) (by rw [p1, hnf]; decide) (fun _ => by rw [p1]; exact s_1)
    rw [p1, q71] at h; exact h
  have pl1_2 := nums_plus (so := S.1 3 s) hb1 h3 (c := (plB (S.1 3 s) (prB (S.1 3 s) (S.2.1 7 (5 * s + 0)) y1) (prB (S.1 3 s) (S.2.1 7 (5 * s + 1)) (S.2.1 13 (64 * s + 0))))) (v := (prB (S.1 3 s) (S.2.1 7 (5 * s + 2)) (S.2.1 13 (64 * s + 1)))) (fun h2 => plB_vb h2 _ _) (fun h2 => prB_vb h2 _ _)
  obtain ⟨y2, S2, C2, T2, uc2, ur2, J2, v_y2, sl2, mf2⟩ := settle (jj_T J1 (rt_Sc (jj_rt J1) (((fb1.trans fu1_0).trans fu1_1).trans fu1_2))) hs1 (show S1.1 3 s = S.1 3 s by rw [p1]) mu1_2 (by decide)
  have p2 : S2.1 = S.1 := sl2.1.trans p1
  have hs2 : s < S2.1 1 0 := by rw [p2]; exact hs
  have q72 : S2.2.1 7 = S.2.1 7 := (sl_J sl2 (by decide)).trans q71
  have D2 : Dys S S2 s := D1.trans sl2.dys
  have M2 : Mf T T2 := M1.trans (Mf.trans (Sc.mf (((fb1.trans fu1_0).trans fu1_1).trans fu1_2)) mf2)
  have vv2 : vso S2 s = S.1 3 s := by rw [dy_vso D2.dy]; exact ev
  have rl2 : rln S2 s = 2 := (congrFun (dy_rln D2.dy) s).trans hrl
  have g2_0 : S2.2.1 13 (64 * s + 0) = (S.2.1 13 (64 * s + 0)) := (congrFun (sl_J sl2 (by decide)) _).trans g1_0
  have g2_1 : S2.2.1 13 (64 * s + 1) = (S.2.1 13 (64 * s + 1)) := (congrFun (sl_J sl2 (by decide)) _).trans g1_1
  have hr2 := jj_s J2 hs2
  have hb2 := jj_b J2
  have n5_2 : A 5 (S2.1 3 s) = A 5 (S.1 3 s) := by rw [p2]
  have nu_2 : cgA C2 (A 7 s) 7 4 = some (some (A 5 (S.1 3 s))) := by rw [rs_numbers hr2, n5_2]
  have ss_2 : cgA C2 (A 7 s) 7 6 = some (some (A 118 s)) := rs_states hr2
  have cb7_2 : cob C2 (A 7 s) 7 = true := cob_of (ci := 7) (rs_tag hr2)
  have cb6_2 : cob C2 (A 118 s) 6 = true := cob_of (ci := 6) hr2.2.2.2.1
  have at_2_0 : c_Row_at (A 118 s) (0 : Int32) C2 = some (S.2.1 13 (64 * s + 0)) := by
    have h := at_flat (k := 0) J2 hs2 (by rw [p2]; exact hrg) (by rw [rl2]; decide)
    rw [g2_0] at h; exact h
  have at_2_1 : c_Row_at (A 118 s) (1 : Int32) C2 = some (S.2.1 13 (64 * s + 1)) := by
    have h := at_flat (k := 1) J2 hs2 (by rw [p2]; exact hrg) (by rw [rl2]; decide)
    rw [g2_1] at h; exact h
  have rp3 : h_R_st (i32 s) (0 : Int32) T2 = some (dv (S.1 3 s) (S.2.1 13 (64 * s + 0))) := by
    have h := st_dv J2 hs2 (k := 0) (by decide)
    rw [vv2, g2_0] at h; exact h
  obtain ⟨C3, uc3, ur3, J3⟩ := put_flat (k := 1) (v := (S.2.1 13 (64 * s + 0))) J2 hs2 (by rw [p2]; exact hrg) (by rw [p2]; exact k12) (by rw [rl2]; decide) (by rw [p2]; exact s_0)
  rw [p2] at ur3 J3
  have p3 : (uJ S2 13 (64 * s + 1) (S.2.1 13 (64 * s + 0))).1 = S.1 := p2
  have hs3 : s < (uJ S2 13 (64 * s + 1) (S.2.1 13 (64 * s + 0))).1 1 0 := hs2
  have q73 : (uJ S2 13 (64 * s + 1) (S.2.1 13 (64 * s + 0))).2.1 7 = S.2.1 7 := (uJ_k (by decide) : (uJ S2 13 (64 * s + 1) (S.2.1 13 (64 * s + 0))).2.1 7 = S2.2.1 7).trans q72
  have D3 : Dys S (uJ S2 13 (64 * s + 1) (S.2.1 13 (64 * s + 0))) s := D2.trans ⟨fun _ _ _ => rfl, fun k j h1 h2 => (if_neg (fun q => h2 ⟨q.1, by omega, by omega⟩) : up2 S2.2.1 13 (64 * s + 1) (S.2.1 13 (64 * s + 0)) k j = S2.2.1 k j), fun _ _ _ => rfl⟩
  have M3 : Mf T (tsD T2 13 (64 * s + 1) (dv (S.1 3 s) (S.2.1 13 (64 * s + 0)))) := M2.trans (mf_D (by decide))
  have vv3 : vso (uJ S2 13 (64 * s + 1) (S.2.1 13 (64 * s + 0))) s = S.1 3 s := by rw [dy_vso D3.dy]; exact ev
  have rl3 : rln (uJ S2 13 (64 * s + 1) (S.2.1 13 (64 * s + 0))) s = 2 := (congrFun (dy_rln D3.dy) s).trans hrl
  have g3_0 : (uJ S2 13 (64 * s + 1) (S.2.1 13 (64 * s + 0))).2.1 13 (64 * s + 0) = (S.2.1 13 (64 * s + 0)) := (up2_j _ _ _ (by omega) : (uJ S2 13 (64 * s + 1) (S.2.1 13 (64 * s + 0))).2.1 13 (64 * s + 0) = S2.2.1 13 (64 * s + 0)).trans g2_0
  have g3_1 : (uJ S2 13 (64 * s + 1) (S.2.1 13 (64 * s + 0))).2.1 13 (64 * s + 1) = (S.2.1 13 (64 * s + 0)) := up2_same _ _ _ _
  have uc3 : c_Row_put (A 118 s) (1 : Int32) (S.2.1 13 (64 * s + 0)) C2 = some C3 := uc3
  have ur3 : h_R_st_2 (i32 s) (1 : Int32) (dv (S.1 3 s) (S.2.1 13 (64 * s + 0))) T2 = some (tsD T2 13 (64 * s + 1) (dv (S.1 3 s) (S.2.1 13 (64 * s + 0)))) := ur3
  have hr3 := jj_s J3 hs3
  have hb3 := jj_b J3
  have n5_3 : A 5 ((uJ S2 13 (64 * s + 1) (S.2.1 13 (64 * s + 0))).1 3 s) = A 5 (S.1 3 s) := by rw [p3]
  have nu_3 : cgA C3 (A 7 s) 7 4 = some (some (A 5 (S.1 3 s))) := by rw [rs_numbers hr3, n5_3]
  have ss_3 : cgA C3 (A 7 s) 7 6 = some (some (A 118 s)) := rs_states hr3
  have cb7_3 : cob C3 (A 7 s) 7 = true := cob_of (ci := 7) (rs_tag hr3)
  have cb6_3 : cob C3 (A 118 s) 6 = true := cob_of (ci := 6) hr3.2.2.2.1
  have at_3_0 : c_Row_at (A 118 s) (0 : Int32) C3 = some (S.2.1 13 (64 * s + 0)) := by
    have h := at_flat (k := 0) J3 hs3 (by rw [p3]; exact hrg) (by rw [rl3]; decide)
    rw [g3_0] at h; exact h
  have at_3_1 : c_Row_at (A 118 s) (1 : Int32) C3 = some (S.2.1 13 (64 * s + 0)) := by
    have h := at_flat (k := 1) J3 hs3 (by rw [p3]; exact hrg) (by rw [rl3]; decide)
    rw [g3_1] at h; exact h
  obtain ⟨C4, uc4, ur4, J4⟩ := put_flat (k := 0) (v := y1) J3 hs3 (by rw [p3]; exact hrg) (by rw [p3]; exact k12) (by rw [rl3]; decide) (by rw [p3]; exact v_y1)
  rw [p3] at ur4 J4
  have p4 : (uJ (uJ S2 13 (64 * s + 1) (S.2.1 13 (64 * s + 0))) 13 (64 * s + 0) y1).1 = S.1 := p3
  have hs4 : s < (uJ (uJ S2 13 (64 * s + 1) (S.2.1 13 (64 * s + 0))) 13 (64 * s + 0) y1).1 1 0 := hs3
  have q74 : (uJ (uJ S2 13 (64 * s + 1) (S.2.1 13 (64 * s + 0))) 13 (64 * s + 0) y1).2.1 7 = S.2.1 7 := (uJ_k (by decide) : (uJ (uJ S2 13 (64 * s + 1) (S.2.1 13 (64 * s + 0))) 13 (64 * s + 0) y1).2.1 7 = (uJ S2 13 (64 * s + 1) (S.2.1 13 (64 * s + 0))).2.1 7).trans q73
  have D4 : Dys S (uJ (uJ S2 13 (64 * s + 1) (S.2.1 13 (64 * s + 0))) 13 (64 * s + 0) y1) s := D3.trans ⟨fun _ _ _ => rfl, fun k j h1 h2 => (if_neg (fun q => h2 ⟨q.1, by omega, by omega⟩) : up2 (uJ S2 13 (64 * s + 1) (S.2.1 13 (64 * s + 0))).2.1 13 (64 * s + 0) y1 k j = (uJ S2 13 (64 * s + 1) (S.2.1 13 (64 * s + 0))).2.1 k j), fun _ _ _ => rfl⟩
  have M4 : Mf T (tsD (tsD T2 13 (64 * s + 1) (dv (S.1 3 s) (S.2.1 13 (64 * s + 0)))) 13 (64 * s + 0) (dv (S.1 3 s) y1)) := M3.trans (mf_D (by decide))
  have vv4 : vso (uJ (uJ S2 13 (64 * s + 1) (S.2.1 13 (64 * s + 0))) 13 (64 * s + 0) y1) s = S.1 3 s := by rw [dy_vso D4.dy]; exact ev
  have rl4 : rln (uJ (uJ S2 13 (64 * s + 1) (S.2.1 13 (64 * s + 0))) 13 (64 * s + 0) y1) s = 2 := (congrFun (dy_rln D4.dy) s).trans hrl
  have g4_0 : (uJ (uJ S2 13 (64 * s + 1) (S.2.1 13 (64 * s + 0))) 13 (64 * s + 0) y1).2.1 13 (64 * s + 0) = y1 := up2_same _ _ _ _
  have g4_1 : (uJ (uJ S2 13 (64 * s + 1) (S.2.1 13 (64 * s + 0))) 13 (64 * s + 0) y1).2.1 13 (64 * s + 1) = (S.2.1 13 (64 * s + 0)) := (up2_j _ _ _ (by omega) : (uJ (uJ S2 13 (64 * s + 1) (S.2.1 13 (64 * s + 0))) 13 (64 * s + 0) y1).2.1 13 (64 * s + 1) = (uJ S2 13 (64 * s + 1) (S.2.1 13 (64 * s + 0))).2.1 13 (64 * s + 1)).trans g3_1
  have uc4 : c_Row_put (A 118 s) (0 : Int32) y1 C3 = some C4 := uc4
  have ur4 : h_R_st_2 (i32 s) (0 : Int32) (dv (S.1 3 s) y1) (tsD T2 13 (64 * s + 1) (dv (S.1 3 s) (S.2.1 13 (64 * s + 0)))) = some (tsD (tsD T2 13 (64 * s + 1) (dv (S.1 3 s) (S.2.1 13 (64 * s + 0)))) 13 (64 * s + 0) (dv (S.1 3 s) y1)) := ur4
  have hr4 := jj_s J4 hs4
  have hb4 := jj_b J4
  have n5_4 : A 5 ((uJ (uJ S2 13 (64 * s + 1) (S.2.1 13 (64 * s + 0))) 13 (64 * s + 0) y1).1 3 s) = A 5 (S.1 3 s) := by rw [p4]
  have nu_4 : cgA C4 (A 7 s) 7 4 = some (some (A 5 (S.1 3 s))) := by rw [rs_numbers hr4, n5_4]
  have ss_4 : cgA C4 (A 7 s) 7 6 = some (some (A 118 s)) := rs_states hr4
  have cb7_4 : cob C4 (A 7 s) 7 = true := cob_of (ci := 7) (rs_tag hr4)
  have cb6_4 : cob C4 (A 118 s) 6 = true := cob_of (ci := 6) hr4.2.2.2.1
  have at_4_0 : c_Row_at (A 118 s) (0 : Int32) C4 = some y1 := by
    have h := at_flat (k := 0) J4 hs4 (by rw [p4]; exact hrg) (by rw [rl4]; decide)
    rw [g4_0] at h; exact h
  have at_4_1 : c_Row_at (A 118 s) (1 : Int32) C4 = some (S.2.1 13 (64 * s + 0)) := by
    have h := at_flat (k := 1) J4 hs4 (by rw [p4]; exact hrg) (by rw [rl4]; decide)
    rw [g4_1] at h; exact h
  refine ⟨y2, (uJ (uJ S2 13 (64 * s + 1) (S.2.1 13 (64 * s + 0))) 13 (64 * s + 0) y1), C4, (tsD (tsD T2 13 (64 * s + 1) (dv (S.1 3 s) (S.2.1 13 (64 * s + 0)))) 13 (64 * s + 0) (dv (S.1 3 s) y1)), ?_, ?_, J4, v_y2, D4, M4⟩
  · unfold c_Section_second
    simp only [nu_0, ss_0, cb7_0, cb6_0, at_0_0, at_0_1, tc0_0, tc0_1, pl0_1, tc0_2, pl0_2, uc1, nu_1, ss_1, cb7_1, cb6_1, at_1_0, at_1_1, tc1_0, tc1_1, pl1_1, tc1_2, pl1_2, uc2, nu_2, ss_2, cb7_2, cb6_2, at_2_0, at_2_1, uc3, nu_3, ss_3, cb7_3, cb6_3, at_3_0, at_3_1, uc4, nu_4, ss_4, cb7_4, cb6_4, at_4_0, at_4_1, obd_some, jgd_true, cbd2_some]
  · unfold h_R_works
    rw [e60, obd_some, ek, if_neg (by decide : ¬ (i32 3 : Int32) = 0), if_neg (by decide : ¬ (i32 3 : Int32) = 1), if_neg (by decide : ¬ (i32 3 : Int32) = 2), if_pos (by rfl : (i32 3 : Int32) = 3)]
    simp only [ab0, au0_0, rs0_1, rc0_1, au0_1, rs0_2, rc0_2, au0_2, ur1, ab1, rc1_0, au1_0, rs1_1, rc1_1, au1_1, rs1_2, rc1_2, au1_2, ur2, rp3, ur3, ur4, obd_some, tbd2_some]
set_option maxHeartbeats 4000000 in
theorem wk_4 {N : Nat} (J : JJ G E B bx m ad S A C T) (hs : s < S.1 1 0) (hk : S.1 2 s = 4) (hv : vb (S.1 3 s) x) : ∃ y S' C' T', c_Section_turned (A 7 s) x C = some (y, C') ∧ h_R_works N (i32 s) (dv (S.1 3 s) x) T = some (dv (S.1 3 s) y, T') ∧ JJ G E B bx m ad S' A C' T' ∧ vb (S.1 3 s) y ∧ Dys S S' s ∧ Mf T T' := by
  have hs60 : s < 60 := by have := (jj_n J).1; omega
  have h3 := so_lt J hs
  have k12 : S.1 2 s ≠ 12 := by rw [hk]; decide
  have ev : vso S s = S.1 3 s := vso_ne k12
  have hrg : ringy (S.1 2 s) = false := by rw [hk]; rfl
  have hrl : rln S s = 2 := by unfold rln; rw [hk]; rfl
  have hnf : nfac (S.1 2 s) = 5 := by rw [hk]; rfl
  have c_0 : vb (S.1 3 s) (S.2.1 7 (5 * s + 0)) := cf_vb J hs (by decide)
  have c_1 : vb (S.1 3 s) (S.2.1 7 (5 * s + 1)) := cf_vb J hs (by decide)
  have c_2 : vb (S.1 3 s) (S.2.1 7 (5 * s + 2)) := cf_vb J hs (by decide)
  have c_3 : vb (S.1 3 s) (S.2.1 7 (5 * s + 3)) := cf_vb J hs (by decide)
  have c_4 : vb (S.1 3 s) (S.2.1 7 (5 * s + 4)) := cf_vb J hs (by decide)
  have s_0 : vb (S.1 3 s) (S.2.1 13 (64 * s + 0)) := by rw [← ev]; exact st_vb J hs (by decide)
  have s_1 : vb (S.1 3 s) (S.2.1 13 (64 * s + 1)) := by rw [← ev]; exact st_vb J hs (by decide)
  have e60 : jrg 60 (i32 s) = some s := jrg_i32 hs60 (by decide)
  have ek : T.1 2 s = i32 4 := by rw [jj_N J 2 (by decide), hk]
  have J0 := J
  have p0 : S.1 = S.1 := rfl
  have hs0 := hs
  have q70 : S.2.1 7 = S.2.1 7 := rfl
  have D0 := Dys.refl s S
  have M0 := Mf.refl T
  have rl0 : rln S s = 2 := hrl
  have g0_0 : S.2.1 13 (64 * s + 0) = (S.2.1 13 (64 * s + 0)) := rfl
  have g0_1 : S.2.1 13 (64 * s + 1) = (S.2.1 13 (64 * s + 1)) := rfl
  have hr0 := jj_s J0 hs0
  have hb0 := jj_b J0
  have n5_0 : A 5 (S.1 3 s) = A 5 (S.1 3 s) := rfl
  have nu_0 : cgA C (A 7 s) 7 4 = some (some (A 5 (S.1 3 s))) := by rw [rs_numbers hr0]
  have ss_0 : cgA C (A 7 s) 7 6 = some (some (A 118 s)) := rs_states hr0
  have cb7_0 : cob C (A 7 s) 7 = true := cob_of (ci := 7) (rs_tag hr0)
  have cb6_0 : cob C (A 118 s) 6 = true := cob_of (ci := 6) hr0.2.2.2.1
  have at_0_0 : c_Row_at (A 118 s) (0 : Int32) C = some (S.2.1 13 (64 * s + 0)) := by
    have h := at_flat (k := 0) J0 hs0 hrg (by rw [rl0]; decide)
    rw [g0_0] at h; exact h
  have at_0_1 : c_Row_at (A 118 s) (1 : Int32) C = some (S.2.1 13 (64 * s + 1)) := by
    have h := at_flat (k := 1) J0 hs0 hrg (by rw [rl0]; decide)
    rw [g0_1] at h; exact h
  obtain ⟨B0, ab0, mb0, fb0⟩ := begins_ref (jj_rt J0) hs60
  have JB0_0 := jj_T J0 (rt_Sc (jj_rt J0) fb0)
  have rc0_0 : h_R_c (i32 s) (0 : Int32) B0 = some (dv (S.1 3 s) (S.2.1 7 (5 * s + 0))) := by
    have h := coef_dv JB0_0 hs0 (j := 0) (by decide)
    exact h
  obtain ⟨U0_0, au0_0, mu0_0, fu0_0⟩ := term_ref h3 mb0 (by decide) c_0 hv (off := false) (fun _ => ⟨rfl, fun _ => rfl⟩)
  have mu0_0 : MS U0_0 s (S.1 3 s) 1 (prB (S.1 3 s) (S.2.1 7 (5 * s + 0)) x) := mu0_0
  have tc0_0 : c_Section_times (A 7 s) (0 : Int32) x C = some (prB (S.1 3 s) (S.2.1 7 (5 * s + 0)) x) := by
    have h := times_of (k := 0) J0 hs0 (v := x) (by rw [hnf]; decide) (fun _ => by exact hv)
    exact h
  have JB0_1 := jj_T J0 (rt_Sc (jj_rt J0) (fb0.trans fu0_0))
  have rs0_1 : h_R_st (i32 s) (0 : Int32) U0_0 = some (dv (S.1 3 s) (S.2.1 13 (64 * s + 0))) := by
    have h := st_dv JB0_1 hs0 (k := 0) (by decide)
    rw [ev] at h; exact h
  obtain ⟨U0_1, au0_1, mu0_1, fu0_1⟩ := term2_ref h3 mu0_0 (by decide) s_0 (fun q => absurd q (by decide))
  have mu0_1 : MS U0_1 s (S.1 3 s) 2 (plB (S.1 3 s) (prB (S.1 3 s) (S.2.1 7 (5 * s + 0)) x) (tmB (S.1 3 s) (S.2.1 13 (64 * s + 0)))) := mu0_1
  have tc0_1 := nums_term (so := S.1 3 s) hb0 h3 (S.2.1 13 (64 * s + 0))
  have pl0_1 := nums_plus (so := S.1 3 s) hb0 h3 (c := (prB (S.1 3 s) (S.2.1 7 (5 * s + 0)) x)) (v := (tmB (S.1 3 s) (S.2.1 13 (64 * s + 0)))) (fun h2 => prB_vb h2 _ _) (fun h2 => (by rw [show tmB (S.1 3 s) (S.2.1 13 (64 * s + 0)) = (S.2.1 13 (64 * s + 0)) from if_pos h2]; exact s_0))
  obtain ⟨y1, S1, C1, T1, uc1, ur1, J1, v_y1, sl1, mf1⟩ := settle (jj_T J0 (rt_Sc (jj_rt J0) ((fb0.trans fu0_0).trans fu0_1))) hs0 rfl mu0_1 (by decide)
  have p1 : S1.1 = S.1 := sl1.1.trans p0
  have hs1 : s < S1.1 1 0 := by rw [p1]; exact hs
  have q71 : S1.2.1 7 = S.2.1 7 := (sl_J sl1 (by decide)).trans q70
  have D1 : Dys S S1 s := D0.trans sl1.dys
  have M1 : Mf T T1 := M0.trans (Mf.trans (Sc.mf ((fb0.trans fu0_0).trans fu0_1)) mf1)
  have vv1 : vso S1 s = S.1 3 s := by rw [dy_vso D1.dy]; exact ev
  have rl1 : rln S1 s = 2 := (congrFun (dy_rln D1.dy) s).trans hrl
  have g1_0 : S1.2.1 13 (64 * s + 0) = (S.2.1 13 (64 * s + 0)) := (congrFun (sl_J sl1 (by decide)) _).trans g0_0
  have g1_1 : S1.2.1 13 (64 * s + 1) = (S.2.1 13 (64 * s + 1)) := (congrFun (sl_J sl1 (by decide)) _).trans g0_1
  have hr1 := jj_s J1 hs1
  have hb1 := jj_b J1
  have n5_1 : A 5 (S1.1 3 s) = A 5 (S.1 3 s) := by rw [p1]
  have nu_1 : cgA C1 (A 7 s) 7 4 = some (some (A 5 (S.1 3 s))) := by rw [rs_numbers hr1, n5_1]
  have ss_1 : cgA C1 (A 7 s) 7 6 = some (some (A 118 s)) := rs_states hr1
  have cb7_1 : cob C1 (A 7 s) 7 = true := cob_of (ci := 7) (rs_tag hr1)
  have cb6_1 : cob C1 (A 118 s) 6 = true := cob_of (ci := 6) hr1.2.2.2.1
  have at_1_0 : c_Row_at (A 118 s) (0 : Int32) C1 = some (S.2.1 13 (64 * s + 0)) := by
    have h := at_flat (k := 0) J1 hs1 (by rw [p1]; exact hrg) (by rw [rl1]; decide)
    rw [g1_0] at h; exact h
  have at_1_1 : c_Row_at (A 118 s) (1 : Int32) C1 = some (S.2.1 13 (64 * s + 1)) := by
    have h := at_flat (k := 1) J1 hs1 (by rw [p1]; exact hrg) (by rw [rl1]; decide)
    rw [g1_1] at h; exact h
  obtain ⟨B1, ab1, mb1, fb1⟩ := begins_ref (jj_rt J1) hs60
  rw [p1] at mb1
  have JB1_0 := jj_T J1 (rt_Sc (jj_rt J1) fb1)
  have rc1_0 : h_R_c (i32 s) (1 : Int32) B1 = some (dv (S.1 3 s) (S.2.1 7 (5 * s + 1))) := by
    have h := coef_dv JB1_0 hs1 (j := 1) (by decide)
    rw [p1, q71] at h; exact h
  obtain ⟨U1_0, au1_0, mu1_0, fu1_0⟩ := term_ref h3 mb1 (by decide) c_1 hv (off := false) (fun _ => ⟨rfl, fun _ => rfl⟩)
  have mu1_0 : MS U1_0 s (S.1 3 s) 1 (prB (S.1 3 s) (S.2.1 7 (5 * s + 1)) x) := mu1_0
  have tc1_0 : c_Section_times (A 7 s) (1 : Int32) x C1 = some (prB (S.1 3 s) (S.2.1 7 (5 * s + 1)) x) := by
    have h := times_of (k := 1) J1 hs1 (v := x) (by rw [p1, hnf]; decide) (fun _ => by rw [p1]; exact hv)
    rw [p1, q71] at h; exact h
  have JB1_1 := jj_T J1 (rt_Sc (jj_rt J1) (fb1.trans fu1_0))
  have rc1_1 : h_R_c (i32 s) (3 : Int32) U1_0 = some (dv (S.1 3 s) (S.2.1 7 (5 * s + 3))) := by
    have h := coef_dv JB1_1 hs1 (j := 3) (by decide)
    rw [p1, q71] at h; exact h
  obtain ⟨U1_1, au1_1, mu1_1, fu1_1⟩ := term_ref h3 mu1_0 (by decide) c_3 v_y1 (off := true) (fun q => absurd q (by decide))
  have mu1_1 : MS U1_1 s (S.1 3 s) 2 (plB (S.1 3 s) (prB (S.1 3 s) (S.2.1 7 (5 * s + 1)) x) (opB (S.1 3 s) (prB (S.1 3 s) (S.2.1 7 (5 * s + 3)) y1))) := mu1_1
  have tc1_1 : c_Section_lessTimes (A 7 s) (3 : Int32) y1 C1 = some (opB (S.1 3 s) (prB (S.1 3 s) (S.2.1 7 (5 * s + 3)) y1)) := by
    have h := less_of (k := 3) J1 hs1 (v := y1) (by rw [p1, hnf]; decide) (fun _ => by rw [p1]; exact v_y1)
    rw [p1, q71] at h; exact h
  have pl1_1 := nums_plus (so := S.1 3 s) hb1 h3 (c := (prB (S.1 3 s) (S.2.1 7 (5 * s + 1)) x)) (v := (opB (S.1 3 s) (prB (S.1 3 s) (S.2.1 7 (5 * s + 3)) y1))) (fun h2 => prB_vb h2 _ _) (fun h2 => opB_vb h2 _)
  have JB1_2 := jj_T J1 (rt_Sc (jj_rt J1) ((fb1.trans fu1_0).trans fu1_1))
  have rs1_2 : h_R_st (i32 s) (1 : Int32) U1_1 = some (dv (S.1 3 s) (S.2.1 13 (64 * s + 1))) := by
    have h := st_dv JB1_2 hs1 (k := 1) (by decide)
    rw [vv1, g1_1] at h; exact h
  obtain ⟨U1_2, au1_2, mu1_2, fu1_2⟩ := term2_ref h3 mu1_1 (by decide) s_1 (fun q => absurd q (by decide))
  have mu1_2 : MS U1_2 s (S.1 3 s) 3 (plB (S.1 3 s) (plB (S.1 3 s) (prB (S.1 3 s) (S.2.1 7 (5 * s + 1)) x) (opB (S.1 3 s) (prB (S.1 3 s) (S.2.1 7 (5 * s + 3)) y1))) (tmB (S.1 3 s) (S.2.1 13 (64 * s + 1)))) := mu1_2
  have tc1_2 := nums_term (so := S.1 3 s) hb1 h3 (S.2.1 13 (64 * s + 1))
  have pl1_2 := nums_plus (so := S.1 3 s) hb1 h3 (c := (plB (S.1 3 s) (prB (S.1 3 s) (S.2.1 7 (5 * s + 1)) x) (opB (S.1 3 s) (prB (S.1 3 s) (S.2.1 7 (5 * s + 3)) y1)))) (v := (tmB (S.1 3 s) (S.2.1 13 (64 * s + 1)))) (fun h2 => plB_vb h2 _ _) (fun h2 => (by rw [show tmB (S.1 3 s) (S.2.1 13 (64 * s + 1)) = (S.2.1 13 (64 * s + 1)) from if_pos h2]; exact s_1))
  obtain ⟨y2, S2, C2, T2, uc2, ur2, J2, v_y2, sl2, mf2⟩ := settle (jj_T J1 (rt_Sc (jj_rt J1) (((fb1.trans fu1_0).trans fu1_1).trans fu1_2))) hs1 (show S1.1 3 s = S.1 3 s by rw [p1]) mu1_2 (by decide)
  have p2 : S2.1 = S.1 := sl2.1.trans p1
  have hs2 : s < S2.1 1 0 := by rw [p2]; exact hs
  have q72 : S2.2.1 7 = S.2.1 7 := (sl_J sl2 (by decide)).trans q71
  have D2 : Dys S S2 s := D1.trans sl2.dys
  have M2 : Mf T T2 := M1.trans (Mf.trans (Sc.mf (((fb1.trans fu1_0).trans fu1_1).trans fu1_2)) mf2)
  have vv2 : vso S2 s = S.1 3 s := by rw [dy_vso D2.dy]; exact ev
  have rl2 : rln S2 s = 2 := (congrFun (dy_rln D2.dy) s).trans hrl
  have g2_0 : S2.2.1 13 (64 * s + 0) = (S.2.1 13 (64 * s + 0)) := (congrFun (sl_J sl2 (by decide)) _).trans g1_0
  have g2_1 : S2.2.1 13 (64 * s + 1) = (S.2.1 13 (64 * s + 1)) := (congrFun (sl_J sl2 (by decide)) _).trans g1_1
  have hr2 := jj_s J2 hs2
  have hb2 := jj_b J2
  have n5_2 : A 5 (S2.1 3 s) = A 5 (S.1 3 s) := by rw [p2]
  have nu_2 : cgA C2 (A 7 s) 7 4 = some (some (A 5 (S.1 3 s))) := by rw [rs_numbers hr2, n5_2]
  have ss_2 : cgA C2 (A 7 s) 7 6 = some (some (A 118 s)) := rs_states hr2
  have cb7_2 : cob C2 (A 7 s) 7 = true := cob_of (ci := 7) (rs_tag hr2)
  have cb6_2 : cob C2 (A 118 s) 6 = true := cob_of (ci := 6) hr2.2.2.2.1
  have at_2_0 : c_Row_at (A 118 s) (0 : Int32) C2 = some (S.2.1 13 (64 * s + 0)) := by
    have h := at_flat (k := 0) J2 hs2 (by rw [p2]; exact hrg) (by rw [rl2]; decide)
    rw [g2_0] at h; exact h
  have at_2_1 : c_Row_at (A 118 s) (1 : Int32) C2 = some (S.2.1 13 (64 * s + 1)) := by
    have h := at_flat (k := 1) J2 hs2 (by rw [p2]; exact hrg) (by rw [rl2]; decide)
    rw [g2_1] at h; exact h
  obtain ⟨C3, uc3, ur3, J3⟩ := put_flat (k := 0) (v := y2) J2 hs2 (by rw [p2]; exact hrg) (by rw [p2]; exact k12) (by rw [rl2]; decide) (by rw [p2]; exact v_y2)
  rw [p2] at ur3 J3
  have p3 : (uJ S2 13 (64 * s + 0) y2).1 = S.1 := p2
  have hs3 : s < (uJ S2 13 (64 * s + 0) y2).1 1 0 := hs2
  have q73 : (uJ S2 13 (64 * s + 0) y2).2.1 7 = S.2.1 7 := (uJ_k (by decide) : (uJ S2 13 (64 * s + 0) y2).2.1 7 = S2.2.1 7).trans q72
  have D3 : Dys S (uJ S2 13 (64 * s + 0) y2) s := D2.trans ⟨fun _ _ _ => rfl, fun k j h1 h2 => (if_neg (fun q => h2 ⟨q.1, by omega, by omega⟩) : up2 S2.2.1 13 (64 * s + 0) y2 k j = S2.2.1 k j), fun _ _ _ => rfl⟩
  have M3 : Mf T (tsD T2 13 (64 * s + 0) (dv (S.1 3 s) y2)) := M2.trans (mf_D (by decide))
  have vv3 : vso (uJ S2 13 (64 * s + 0) y2) s = S.1 3 s := by rw [dy_vso D3.dy]; exact ev
  have rl3 : rln (uJ S2 13 (64 * s + 0) y2) s = 2 := (congrFun (dy_rln D3.dy) s).trans hrl
  have g3_0 : (uJ S2 13 (64 * s + 0) y2).2.1 13 (64 * s + 0) = y2 := up2_same _ _ _ _
  have g3_1 : (uJ S2 13 (64 * s + 0) y2).2.1 13 (64 * s + 1) = (S.2.1 13 (64 * s + 1)) := (up2_j _ _ _ (by omega) : (uJ S2 13 (64 * s + 0) y2).2.1 13 (64 * s + 1) = S2.2.1 13 (64 * s + 1)).trans g2_1
  have uc3 : c_Row_put (A 118 s) (0 : Int32) y2 C2 = some C3 := uc3
  have ur3 : h_R_st_2 (i32 s) (0 : Int32) (dv (S.1 3 s) y2) T2 = some (tsD T2 13 (64 * s + 0) (dv (S.1 3 s) y2)) := ur3
  have hr3 := jj_s J3 hs3
  have hb3 := jj_b J3
  have n5_3 : A 5 ((uJ S2 13 (64 * s + 0) y2).1 3 s) = A 5 (S.1 3 s) := by rw [p3]
  have nu_3 : cgA C3 (A 7 s) 7 4 = some (some (A 5 (S.1 3 s))) := by rw [rs_numbers hr3, n5_3]
  have ss_3 : cgA C3 (A 7 s) 7 6 = some (some (A 118 s)) := rs_states hr3
  have cb7_3 : cob C3 (A 7 s) 7 = true := cob_of (ci := 7) (rs_tag hr3)
  have cb6_3 : cob C3 (A 118 s) 6 = true := cob_of (ci := 6) hr3.2.2.2.1
  have at_3_0 : c_Row_at (A 118 s) (0 : Int32) C3 = some y2 := by
    have h := at_flat (k := 0) J3 hs3 (by rw [p3]; exact hrg) (by rw [rl3]; decide)
    rw [g3_0] at h; exact h
  have at_3_1 : c_Row_at (A 118 s) (1 : Int32) C3 = some (S.2.1 13 (64 * s + 1)) := by
    have h := at_flat (k := 1) J3 hs3 (by rw [p3]; exact hrg) (by rw [rl3]; decide)
    rw [g3_1] at h; exact h
  obtain ⟨B3, ab3, mb3, fb3⟩ := begins_ref (jj_rt J3) hs60
  rw [p3] at mb3
  have JB3_0 := jj_T J3 (rt_Sc (jj_rt J3) fb3)
  have rc3_0 : h_R_c (i32 s) (2 : Int32) B3 = some (dv (S.1 3 s) (S.2.1 7 (5 * s + 2))) := by
    have h := coef_dv JB3_0 hs3 (j := 2) (by decide)
    rw [p3, q73] at h; exact h
  obtain ⟨U3_0, au3_0, mu3_0, fu3_0⟩ := term_ref h3 mb3 (by decide) c_2 hv (off := false) (fun _ => ⟨rfl, fun _ => rfl⟩)
  have mu3_0 : MS U3_0 s (S.1 3 s) 1 (prB (S.1 3 s) (S.2.1 7 (5 * s + 2)) x) := mu3_0
  have tc3_0 : c_Section_times (A 7 s) (2 : Int32) x C3 = some (prB (S.1 3 s) (S.2.1 7 (5 * s + 2)) x) := by
    have h := times_of (k := 2) J3 hs3 (v := x) (by rw [p3, hnf]; decide) (fun _ => by rw [p3]; exact hv)
    rw [p3, q73] at h; exact h
  have JB3_1 := jj_T J3 (rt_Sc (jj_rt J3) (fb3.trans fu3_0))
  have rc3_1 : h_R_c (i32 s) (4 : Int32) U3_0 = some (dv (S.1 3 s) (S.2.1 7 (5 * s + 4))) := by
    have h := coef_dv JB3_1 hs3 (j := 4) (by decide)
    rw [p3, q73] at h; exact h
  obtain ⟨U3_1, au3_1, mu3_1, fu3_1⟩ := term_ref h3 mu3_0 (by decide) c_4 v_y1 (off := true) (fun q => absurd q (by decide))
  have mu3_1 : MS U3_1 s (S.1 3 s) 2 (plB (S.1 3 s) (prB (S.1 3 s) (S.2.1 7 (5 * s + 2)) x) (opB (S.1 3 s) (prB (S.1 3 s) (S.2.1 7 (5 * s + 4)) y1))) := mu3_1
  have tc3_1 : c_Section_lessTimes (A 7 s) (4 : Int32) y1 C3 = some (opB (S.1 3 s) (prB (S.1 3 s) (S.2.1 7 (5 * s + 4)) y1)) := by
    have h := less_of (k := 4) J3 hs3 (v := y1) (by rw [p3, hnf]; decide) (fun _ => by rw [p3]; exact v_y1)
    rw [p3, q73] at h; exact h
  have pl3_1 := nums_plus (so := S.1 3 s) hb3 h3 (c := (prB (S.1 3 s) (S.2.1 7 (5 * s + 2)) x)) (v := (opB (S.1 3 s) (prB (S.1 3 s) (S.2.1 7 (5 * s + 4)) y1))) (fun h2 => prB_vb h2 _ _) (fun h2 => opB_vb h2 _)
  obtain ⟨y3, S4, C4, T4, uc4, ur4, J4, v_y3, sl4, mf4⟩ := settle (jj_T J3 (rt_Sc (jj_rt J3) ((fb3.trans fu3_0).trans fu3_1))) hs3 (show (uJ S2 13 (64 * s + 0) y2).1 3 s = S.1 3 s by rw [p3]) mu3_1 (by decide)
  have p4 : S4.1 = S.1 := sl4.1.trans p3
  have hs4 : s < S4.1 1 0 := by rw [p4]; exact hs
  have q74 : S4.2.1 7 = S.2.1 7 := (sl_J sl4 (by decide)).trans q73
  have D4 : Dys S S4 s := D3.trans sl4.dys
  have M4 : Mf T T4 := M3.trans (Mf.trans (Sc.mf ((fb3.trans fu3_0).trans fu3_1)) mf4)
  have vv4 : vso S4 s = S.1 3 s := by rw [dy_vso D4.dy]; exact ev
  have rl4 : rln S4 s = 2 := (congrFun (dy_rln D4.dy) s).trans hrl
  have g4_0 : S4.2.1 13 (64 * s + 0) = y2 := (congrFun (sl_J sl4 (by decide)) _).trans g3_0
  have g4_1 : S4.2.1 13 (64 * s + 1) = (S.2.1 13 (64 * s + 1)) := (congrFun (sl_J sl4 (by decide)) _).trans g3_1
  have hr4 := jj_s J4 hs4
  have hb4 := jj_b J4
  have n5_4 : A 5 (S4.1 3 s) = A 5 (S.1 3 s) := by rw [p4]
  have nu_4 : cgA C4 (A 7 s) 7 4 = some (some (A 5 (S.1 3 s))) := by rw [rs_numbers hr4, n5_4]
  have ss_4 : cgA C4 (A 7 s) 7 6 = some (some (A 118 s)) := rs_states hr4
  have cb7_4 : cob C4 (A 7 s) 7 = true := cob_of (ci := 7) (rs_tag hr4)
  have cb6_4 : cob C4 (A 118 s) 6 = true := cob_of (ci := 6) hr4.2.2.2.1
  have at_4_0 : c_Row_at (A 118 s) (0 : Int32) C4 = some y2 := by
    have h := at_flat (k := 0) J4 hs4 (by rw [p4]; exact hrg) (by rw [rl4]; decide)
    rw [g4_0] at h; exact h
  have at_4_1 : c_Row_at (A 118 s) (1 : Int32) C4 = some (S.2.1 13 (64 * s + 1)) := by
    have h := at_flat (k := 1) J4 hs4 (by rw [p4]; exact hrg) (by rw [rl4]; decide)
    rw [g4_1] at h; exact h
  obtain ⟨C5, uc5, ur5, J5⟩ := put_flat (k := 1) (v := y3) J4 hs4 (by rw [p4]; exact hrg) (by rw [p4]; exact k12) (by rw [rl4]; decide) (by rw [p4]; exact v_y3)
  rw [p4] at ur5 J5
  have p5 : (uJ S4 13 (64 * s + 1) y3).1 = S.1 := p4
  have hs5 : s < (uJ S4 13 (64 * s + 1) y3).1 1 0 := hs4
  have q75 : (uJ S4 13 (64 * s + 1) y3).2.1 7 = S.2.1 7 := (uJ_k (by decide) : (uJ S4 13 (64 * s + 1) y3).2.1 7 = S4.2.1 7).trans q74
  have D5 : Dys S (uJ S4 13 (64 * s + 1) y3) s := D4.trans ⟨fun _ _ _ => rfl, fun k j h1 h2 => (if_neg (fun q => h2 ⟨q.1, by omega, by omega⟩) : up2 S4.2.1 13 (64 * s + 1) y3 k j = S4.2.1 k j), fun _ _ _ => rfl⟩
  have M5 : Mf T (tsD T4 13 (64 * s + 1) (dv (S.1 3 s) y3)) := M4.trans (mf_D (by decide))
  have vv5 : vso (uJ S4 13 (64 * s + 1) y3) s = S.1 3 s := by rw [dy_vso D5.dy]; exact ev
  have rl5 : rln (uJ S4 13 (64 * s + 1) y3) s = 2 := (congrFun (dy_rln D5.dy) s).trans hrl
  have g5_0 : (uJ S4 13 (64 * s + 1) y3).2.1 13 (64 * s + 0) = y2 := (up2_j _ _ _ (by omega) : (uJ S4 13 (64 * s + 1) y3).2.1 13 (64 * s + 0) = S4.2.1 13 (64 * s + 0)).trans g4_0
  have g5_1 : (uJ S4 13 (64 * s + 1) y3).2.1 13 (64 * s + 1) = y3 := up2_same _ _ _ _
  have uc5 : c_Row_put (A 118 s) (1 : Int32) y3 C4 = some C5 := uc5
  have ur5 : h_R_st_2 (i32 s) (1 : Int32) (dv (S.1 3 s) y3) T4 = some (tsD T4 13 (64 * s + 1) (dv (S.1 3 s) y3)) := ur5
  have hr5 := jj_s J5 hs5
  have hb5 := jj_b J5
  have n5_5 : A 5 ((uJ S4 13 (64 * s + 1) y3).1 3 s) = A 5 (S.1 3 s) := by rw [p5]
  have nu_5 : cgA C5 (A 7 s) 7 4 = some (some (A 5 (S.1 3 s))) := by rw [rs_numbers hr5, n5_5]
  have ss_5 : cgA C5 (A 7 s) 7 6 = some (some (A 118 s)) := rs_states hr5
  have cb7_5 : cob C5 (A 7 s) 7 = true := cob_of (ci := 7) (rs_tag hr5)
  have cb6_5 : cob C5 (A 118 s) 6 = true := cob_of (ci := 6) hr5.2.2.2.1
  have at_5_0 : c_Row_at (A 118 s) (0 : Int32) C5 = some y2 := by
    have h := at_flat (k := 0) J5 hs5 (by rw [p5]; exact hrg) (by rw [rl5]; decide)
    rw [g5_0] at h; exact h
  have at_5_1 : c_Row_at (A 118 s) (1 : Int32) C5 = some y3 := by
    have h := at_flat (k := 1) J5 hs5 (by rw [p5]; exact hrg) (by rw [rl5]; decide)
    rw [g5_1] at h; exact h
  refine ⟨y1, (uJ S4 13 (64 * s + 1) y3), C5, (tsD T4 13 (64 * s + 1) (dv (S.1 3 s) y3)), ?_, ?_, J5, v_y1, D5, M5⟩
  · unfold c_Section_turned
    simp only [nu_0, ss_0, cb7_0, cb6_0, at_0_0, at_0_1, tc0_0, tc0_1, pl0_1, uc1, nu_1, ss_1, cb7_1, cb6_1, at_1_0, at_1_1, tc1_0, tc1_1, pl1_1, tc1_2, pl1_2, uc2, nu_2, ss_2, cb7_2, cb6_2, at_2_0, at_2_1, uc3, nu_3, ss_3, cb7_3, cb6_3, at_3_0, at_3_1, tc3_0, tc3_1, pl3_1, uc4, nu_4, ss_4, cb7_4, cb6_4, at_4_0, at_4_1, uc5, nu_5, ss_5, cb7_5, cb6_5, at_5_0, at_5_1, obd_some, jgd_true, cbd2_some]
  · unfold h_R_works
    rw [e60, obd_some, ek, if_neg (by decide : ¬ (i32 4 : Int32) = 0), if_neg (by decide : ¬ (i32 4 : Int32) = 1), if_neg (by decide : ¬ (i32 4 : Int32) = 2), if_neg (by decide : ¬ (i32 4 : Int32) = 3), if_pos (by rfl : (i32 4 : Int32) = 4)]
    simp only [ab0, rc0_0, au0_0, rs0_1, au0_1, ur1, ab1, rc1_0, au1_0, rc1_1, au1_1, rs1_2, au1_2, ur2, ur3, ab3, rc3_0, au3_0, rc3_1, au3_1, ur4, ur5, obd_some, tbd2_some]
set_option maxHeartbeats 4000000 in
theorem wk_5 {N : Nat} (J : JJ G E B bx m ad S A C T) (hs : s < S.1 1 0) (hk : S.1 2 s = 5) (hv : vb (S.1 3 s) x) : ∃ y S' C' T', c_Section_pass (A 7 s) x C = some (y, C') ∧ h_R_works N (i32 s) (dv (S.1 3 s) x) T = some (dv (S.1 3 s) y, T') ∧ JJ G E B bx m ad S' A C' T' ∧ vb (S.1 3 s) y ∧ Dys S S' s ∧ Mf T T' := by
  have hs60 : s < 60 := by have := (jj_n J).1; omega
  have h3 := so_lt J hs
  have k12 : S.1 2 s ≠ 12 := by rw [hk]; decide
  have ev : vso S s = S.1 3 s := vso_ne k12
  have hrg : ringy (S.1 2 s) = false := by rw [hk]; rfl
  have hrl : rln S s = 1 := by unfold rln; rw [hk]; rfl
  have hnf : nfac (S.1 2 s) = 1 := by rw [hk]; rfl
  have c_0 : vb (S.1 3 s) (S.2.1 7 (5 * s + 0)) := cf_vb J hs (by decide)
  have s_0 : vb (S.1 3 s) (S.2.1 13 (64 * s + 0)) := by rw [← ev]; exact st_vb J hs (by decide)
  have e60 : jrg 60 (i32 s) = some s := jrg_i32 hs60 (by decide)
  have ek : T.1 2 s = i32 5 := by rw [jj_N J 2 (by decide), hk]
  have J0 := J
  have p0 : S.1 = S.1 := rfl
  have hs0 := hs
  have q70 : S.2.1 7 = S.2.1 7 := rfl
  have D0 := Dys.refl s S
  have M0 := Mf.refl T
  have rl0 : rln S s = 1 := hrl
  have g0_0 : S.2.1 13 (64 * s + 0) = (S.2.1 13 (64 * s + 0)) := rfl
  have hr0 := jj_s J0 hs0
  have hb0 := jj_b J0
  have n5_0 : A 5 (S.1 3 s) = A 5 (S.1 3 s) := rfl
  have nu_0 : cgA C (A 7 s) 7 4 = some (some (A 5 (S.1 3 s))) := by rw [rs_numbers hr0]
  have ss_0 : cgA C (A 7 s) 7 6 = some (some (A 118 s)) := rs_states hr0
  have cb7_0 : cob C (A 7 s) 7 = true := cob_of (ci := 7) (rs_tag hr0)
  have cb6_0 : cob C (A 118 s) 6 = true := cob_of (ci := 6) hr0.2.2.2.1
  have at_0_0 : c_Row_at (A 118 s) (0 : Int32) C = some (S.2.1 13 (64 * s + 0)) := by
    have h := at_flat (k := 0) J0 hs0 hrg (by rw [rl0]; decide)
    rw [g0_0] at h; exact h
  obtain ⟨B0, ab0, mb0, fb0⟩ := begins_ref (jj_rt J0) hs60
  have JB0_0 := jj_T J0 (rt_Sc (jj_rt J0) fb0)
  obtain ⟨U0_0, au0_0, mu0_0, fu0_0⟩ := term2_ref h3 mb0 (by decide) hv (fun _ _ => rfl)
  have mu0_0 : MS U0_0 s (S.1 3 s) 1 (tmB (S.1 3 s) x) := mu0_0
  have tc0_0 := nums_term (so := S.1 3 s) hb0 h3 x
  have JB0_1 := jj_T J0 (rt_Sc (jj_rt J0) (fb0.trans fu0_0))
  have rs0_1 : h_R_st (i32 s) (0 : Int32) U0_0 = some (dv (S.1 3 s) (S.2.1 13 (64 * s + 0))) := by
    have h := st_dv JB0_1 hs0 (k := 0) (by decide)
    rw [ev] at h; exact h
  have rc0_1 : h_R_c (i32 s) (0 : Int32) U0_0 = some (dv (S.1 3 s) (S.2.1 7 (5 * s + 0))) := by
    have h := coef_dv JB0_1 hs0 (j := 0) (by decide)
    exact h
  obtain ⟨U0_1, au0_1, mu0_1, fu0_1⟩ := term_ref h3 mu0_0 (by decide) c_0 s_0 (off := true) (fun q => absurd q (by decide))
  have mu0_1 : MS U0_1 s (S.1 3 s) 2 (plB (S.1 3 s) (tmB (S.1 3 s) x) (opB (S.1 3 s) (prB (S.1 3 s) (S.2.1 7 (5 * s + 0)) (S.2.1 13 (64 * s + 0))))) := mu0_1
  have tc0_1 : c_Section_lessTimes (A 7 s) (0 : Int32) (S.2.1 13 (64 * s + 0)) C = some (opB (S.1 3 s) (prB (S.1 3 s) (S.2.1 7 (5 * s + 0)) (S.2.1 13 (64 * s + 0)))) := by
    have h := less_of (k := 0) J0 hs0 (v := (S.2.1 13 (64 * s + 0))) (by rw [hnf]; decide) (fun _ => by exact s_0)
    exact h
  have pl0_1 := nums_plus (so := S.1 3 s) hb0 h3 (c := (tmB (S.1 3 s) x)) (v := (opB (S.1 3 s) (prB (S.1 3 s) (S.2.1 7 (5 * s + 0)) (S.2.1 13 (64 * s + 0))))) (fun h2 => (by rw [show tmB (S.1 3 s) x = x from if_pos h2]; exact hv)) (fun h2 => opB_vb h2 _)
  obtain ⟨y1, S1, C1, T1, uc1, ur1, J1, v_y1, sl1, mf1⟩ := settle (jj_T J0 (rt_Sc (jj_rt J0) ((fb0.trans fu0_0).trans fu0_1))) hs0 rfl mu0_1 (by decide)
  have p1 : S1.1 = S.1 := sl1.1.trans p0
  have hs1 : s < S1.1 1 0 := by rw [p1]; exact hs
  have q71 : S1.2.1 7 = S.2.1 7 := (sl_J sl1 (by decide)).trans q70
  have D1 : Dys S S1 s := D0.trans sl1.dys
  have M1 : Mf T T1 := M0.trans (Mf.trans (Sc.mf ((fb0.trans fu0_0).trans fu0_1)) mf1)
  have vv1 : vso S1 s = S.1 3 s := by rw [dy_vso D1.dy]; exact ev
  have rl1 : rln S1 s = 1 := (congrFun (dy_rln D1.dy) s).trans hrl
  have g1_0 : S1.2.1 13 (64 * s + 0) = (S.2.1 13 (64 * s + 0)) := (congrFun (sl_J sl1 (by decide)) _).trans g0_0
  have hr1 := jj_s J1 hs1
  have hb1 := jj_b J1
  have n5_1 : A 5 (S1.1 3 s) = A 5 (S.1 3 s) := by rw [p1]
  have nu_1 : cgA C1 (A 7 s) 7 4 = some (some (A 5 (S.1 3 s))) := by rw [rs_numbers hr1, n5_1]
  have ss_1 : cgA C1 (A 7 s) 7 6 = some (some (A 118 s)) := rs_states hr1
  have cb7_1 : cob C1 (A 7 s) 7 = true := cob_of (ci := 7) (rs_tag hr1)
  have cb6_1 : cob C1 (A 118 s) 6 = true := cob_of (ci := 6) hr1.2.2.2.1
  have at_1_0 : c_Row_at (A 118 s) (0 : Int32) C1 = some (S.2.1 13 (64 * s + 0)) := by
    have h := at_flat (k := 0) J1 hs1 (by rw [p1]; exact hrg) (by rw [rl1]; decide)
    rw [g1_0] at h; exact h
  obtain ⟨B1, ab1, mb1, fb1⟩ := begins_ref (jj_rt J1) hs60
  rw [p1] at mb1
  have JB1_0 := jj_T J1 (rt_Sc (jj_rt J1) fb1)
  have rc1_0 : h_R_c (i32 s) (0 : Int32) B1 = some (dv (S.1 3 s) (S.2.1 7 (5 * s + 0))) := by
    have h := coef_dv JB1_0 hs1 (j := 0) (by decide)
    rw [p1, q71] at h; exact h
  obtain ⟨U1_0, au1_0, mu1_0, fu1_0⟩ := term_ref h3 mb1 (by decide) c_0 v_y1 (off := false) (fun _ => ⟨rfl, fun _ => rfl⟩)
  have mu1_0 : MS U1_0 s (S.1 3 s) 1 (prB (S.1 3 s) (S.2.1 7 (5 * s + 0)) y1) := mu1_0
  have tc1_0 : c_Section_times (A 7 s) (0 : Int32) y1 C1 = some (prB (S.1 3 s) (S.2.1 7 (5 * s + 0)) y1) := by
    have h := times_of (k := 0) J1 hs1 (v := y1) (by rw [p1, hnf]; decide) (fun _ => by rw [p1]; exact v_y1)
    rw [p1, q71] at h; exact h
  have JB1_1 := jj_T J1 (rt_Sc (jj_rt J1) (fb1.trans fu1_0))
  have rs1_1 : h_R_st (i32 s) (0 : Int32) U1_0 = some (dv (S.1 3 s) (S.2.1 13 (64 * s + 0))) := by
    have h := st_dv JB1_1 hs1 (k := 0) (by decide)
    rw [vv1, g1_0] at h; exact h
  obtain ⟨U1_1, au1_1, mu1_1, fu1_1⟩ := term2_ref h3 mu1_0 (by decide) s_0 (fun q => absurd q (by decide))
  have mu1_1 : MS U1_1 s (S.1 3 s) 2 (plB (S.1 3 s) (prB (S.1 3 s) (S.2.1 7 (5 * s + 0)) y1) (tmB (S.1 3 s) (S.2.1 13 (64 * s + 0)))) := mu1_1
  have tc1_1 := nums_term (so := S.1 3 s) hb1 h3 (S.2.1 13 (64 * s + 0))
  have pl1_1 := nums_plus (so := S.1 3 s) hb1 h3 (c := (prB (S.1 3 s) (S.2.1 7 (5 * s + 0)) y1)) (v := (tmB (S.1 3 s) (S.2.1 13 (64 * s + 0)))) (fun h2 => prB_vb h2 _ _) (fun h2 => (by rw [show tmB (S.1 3 s) (S.2.1 13 (64 * s + 0)) = (S.2.1 13 (64 * s + 0)) from if_pos h2]; exact s_0))
  obtain ⟨y2, S2, C2, T2, uc2, ur2, J2, v_y2, sl2, mf2⟩ := settle (jj_T J1 (rt_Sc (jj_rt J1) ((fb1.trans fu1_0).trans fu1_1))) hs1 (show S1.1 3 s = S.1 3 s by rw [p1]) mu1_1 (by decide)
  have p2 : S2.1 = S.1 := sl2.1.trans p1
  have hs2 : s < S2.1 1 0 := by rw [p2]; exact hs
  have q72 : S2.2.1 7 = S.2.1 7 := (sl_J sl2 (by decide)).trans q71
  have D2 : Dys S S2 s := D1.trans sl2.dys
  have M2 : Mf T T2 := M1.trans (Mf.trans (Sc.mf ((fb1.trans fu1_0).trans fu1_1)) mf2)
  have vv2 : vso S2 s = S.1 3 s := by rw [dy_vso D2.dy]; exact ev
  have rl2 : rln S2 s = 1 := (congrFun (dy_rln D2.dy) s).trans hrl
  have g2_0 : S2.2.1 13 (64 * s + 0) = (S.2.1 13 (64 * s + 0)) := (congrFun (sl_J sl2 (by decide)) _).trans g1_0
  have hr2 := jj_s J2 hs2
  have hb2 := jj_b J2
  have n5_2 : A 5 (S2.1 3 s) = A 5 (S.1 3 s) := by rw [p2]
  have nu_2 : cgA C2 (A 7 s) 7 4 = some (some (A 5 (S.1 3 s))) := by rw [rs_numbers hr2, n5_2]
  have ss_2 : cgA C2 (A 7 s) 7 6 = some (some (A 118 s)) := rs_states hr2
  have cb7_2 : cob C2 (A 7 s) 7 = true := cob_of (ci := 7) (rs_tag hr2)
  have cb6_2 : cob C2 (A 118 s) 6 = true := cob_of (ci := 6) hr2.2.2.2.1
  have at_2_0 : c_Row_at (A 118 s) (0 : Int32) C2 = some (S.2.1 13 (64 * s + 0)) := by
    have h := at_flat (k := 0) J2 hs2 (by rw [p2]; exact hrg) (by rw [rl2]; decide)
    rw [g2_0] at h; exact h
  obtain ⟨C3, uc3, ur3, J3⟩ := put_flat (k := 0) (v := y1) J2 hs2 (by rw [p2]; exact hrg) (by rw [p2]; exact k12) (by rw [rl2]; decide) (by rw [p2]; exact v_y1)
  rw [p2] at ur3 J3
  have p3 : (uJ S2 13 (64 * s + 0) y1).1 = S.1 := p2
  have hs3 : s < (uJ S2 13 (64 * s + 0) y1).1 1 0 := hs2
  have q73 : (uJ S2 13 (64 * s + 0) y1).2.1 7 = S.2.1 7 := (uJ_k (by decide) : (uJ S2 13 (64 * s + 0) y1).2.1 7 = S2.2.1 7).trans q72
  have D3 : Dys S (uJ S2 13 (64 * s + 0) y1) s := D2.trans ⟨fun _ _ _ => rfl, fun k j h1 h2 => (if_neg (fun q => h2 ⟨q.1, by omega, by omega⟩) : up2 S2.2.1 13 (64 * s + 0) y1 k j = S2.2.1 k j), fun _ _ _ => rfl⟩
  have M3 : Mf T (tsD T2 13 (64 * s + 0) (dv (S.1 3 s) y1)) := M2.trans (mf_D (by decide))
  have vv3 : vso (uJ S2 13 (64 * s + 0) y1) s = S.1 3 s := by rw [dy_vso D3.dy]; exact ev
  have rl3 : rln (uJ S2 13 (64 * s + 0) y1) s = 1 := (congrFun (dy_rln D3.dy) s).trans hrl
  have g3_0 : (uJ S2 13 (64 * s + 0) y1).2.1 13 (64 * s + 0) = y1 := up2_same _ _ _ _
  have uc3 : c_Row_put (A 118 s) (0 : Int32) y1 C2 = some C3 := uc3
  have ur3 : h_R_st_2 (i32 s) (0 : Int32) (dv (S.1 3 s) y1) T2 = some (tsD T2 13 (64 * s + 0) (dv (S.1 3 s) y1)) := ur3
  have hr3 := jj_s J3 hs3
  have hb3 := jj_b J3
  have n5_3 : A 5 ((uJ S2 13 (64 * s + 0) y1).1 3 s) = A 5 (S.1 3 s) := by rw [p3]
  have nu_3 : cgA C3 (A 7 s) 7 4 = some (some (A 5 (S.1 3 s))) := by rw [rs_numbers hr3, n5_3]
  have ss_3 : cgA C3 (A 7 s) 7 6 = some (some (A 118 s)) := rs_states hr3
  have cb7_3 : cob C3 (A 7 s) 7 = true := cob_of (ci := 7) (rs_tag hr3)
  have cb6_3 : cob C3 (A 118 s) 6 = true := cob_of (ci := 6) hr3.2.2.2.1
  have at_3_0 : c_Row_at (A 118 s) (0 : Int32) C3 = some y1 := by
    have h := at_flat (k := 0) J3 hs3 (by rw [p3]; exact hrg) (by rw [rl3]; decide)
    rw [g3_0] at h; exact h
  refine ⟨y2, (uJ S2 13 (64 * s + 0) y1), C3, (tsD T2 13 (64 * s + 0) (dv (S.1 3 s) y1)), ?_, ?_, J3, v_y2, D3, M3⟩
  · unfold c_Section_pass
    simp only [nu_0, ss_0, cb7_0, cb6_0, at_0_0, tc0_0, tc0_1, pl0_1, uc1, nu_1, ss_1, cb7_1, cb6_1, at_1_0, tc1_0, tc1_1, pl1_1, uc2, nu_2, ss_2, cb7_2, cb6_2, at_2_0, uc3, nu_3, ss_3, cb7_3, cb6_3, at_3_0, obd_some, jgd_true, cbd2_some]
  · unfold h_R_works
    rw [e60, obd_some, ek, if_neg (by decide : ¬ (i32 5 : Int32) = 0), if_neg (by decide : ¬ (i32 5 : Int32) = 1), if_neg (by decide : ¬ (i32 5 : Int32) = 2), if_neg (by decide : ¬ (i32 5 : Int32) = 3), if_neg (by decide : ¬ (i32 5 : Int32) = 4), if_pos (by rfl : (i32 5 : Int32) = 5)]
    have cp := comes_put (j := 64 * s + 0) (x := dv (S.1 3 s) y1) ur2
    have cq : h_R_st_2 (i32 s) (0 : Int32) (dv (S.1 3 s) y1) U1_1 = some (tsD U1_1 13 (64 * s + 0) (dv (S.1 3 s) y1)) := by
      unfold h_R_st_2
      rw [show (64 : Int32) * i32 s + (0 : Int32) = i32 (64 * s + 0) from by rw [show (64 : Int32) = i32 64 from rfl, show (0 : Int32) = i32 0 from rfl, i32_mul, i32_add], jrg_i32 (by omega) (by decide), obd_some]
      rfl
    simp only [ab0, au0_0, rs0_1, rc0_1, au0_1, ur1, ab1, rc1_0, au1_0, rs1_1, au1_1, cp, cq, obd_some, tbd2_some]
end WORKS
