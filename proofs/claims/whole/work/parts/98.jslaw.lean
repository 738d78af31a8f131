/-! the law's run -/
section JSLAW
theorem ii_mono {G : GT} {E E' B bx m : Nat} {ad : Nat → Nat} (h : E ≤ E') (C : CT) (T : MT) (q : II G E B bx m ad C T) : II G E' B bx m ad C T := by
  obtain ⟨S, A, J⟩ := q
  exact ⟨S, A, jj_mono J h⟩
theorem lsim_E {E N M B bx m : Nat} {ad : Nat → Nat} (hM : 30 ≤ M) (hN : 100 ^ (12 * M) ≤ N) (hN2 : 200000 ≤ N) (hE : E + 6400 ≤ 4000000) : LSim N M bx (II GG E B bx m ad) (II GG (E + 6400) B bx m ad) := by
  have i : ∀ C T, II GG E B bx m ad C T → II GG E B bx m ad C T := fun _ _ q => q
  have u : ∀ C T, II GG E B bx m ad C T → II GG (E + 6400) B bx m ad C T := fun C T q => ii_mono (Nat.le_add_right _ _) C T q
  exact ⟨ls_0_mono i u (sim_section (by omega)), ls_1_mono i u sim_coefficient, ls_2_mono i u sim_ratio, ls_3_mono i u sim_rule, ls_4_mono i u sim_chain, ls_5_mono i u (sim_add (by omega)), ls_6_mono i u (sim_loop (by omega)), ls_7_mono i u (sim_within (by omega)), sim_feed hM hN hE, sim_run hM hN (by omega) hE, ls_10_mono i u sim_output, ls_11_mono i u sim_state, ls_12_mono i u sim_about, ls_13_mono i u sim_told, ls_14_mono i u (sim_reset (by omega)), ls_15_mono i u (sim_keep (by omega)), ls_16_mono i u (sim_back (by omega)), ls_17_mono i u (sim_same (by omega)), ls_18_mono i u sim_poles, ls_19_mono i u (sim_cycles hN2), ls_20_mono i u (sim_cycle hN2), ls_21_mono i u (sim_convert (by omega) (by omega)), ls_22_mono i u (sim_measure (by omega)), ls_23_mono i u sim_count, ls_24_mono i u sim_chain2⟩
theorem lsim_no {N M bx : Nat} {I I' : CT → MT → Prop} (h : ∀ C T, ¬ I C T) : LSim N M bx I I' := by
  refine ⟨?_, ?_, ?_, ?_, ?_, ?_, ?_, ?_, ?_, ?_, ?_, ?_, ?_, ?_, ?_, ?_, ?_, ?_, ?_, ?_, ?_, ?_, ?_, ?_, ?_⟩
  all_goals
    intro C T
    intros
    exact absurd ‹I C T› (h C T)
theorem js_law : jsLaw := by
  intro B L scr SA xs h0 hL hscr hX hCS hB
  have hN2 : 200000 ≤ 100 ^ (12 * 60) := Nat.le_trans (show 200000 ≤ 100 ^ 3 by decide) (Nat.pow_le_pow_right (by decide) (by decide))
  generalize hNN : 100 ^ (12 * 60) = N at hN2
  -- the class
  have hc00 : CW B (c00 B) := ⟨Nat.le_refl _, fun a ha => absurd rfl ha, fun a _ k j => ⟨rfl, rfl, rfl, rfl⟩⟩
  have hw1 : CW B (ix1 B) := cw_fr hc00
  have g1 := t_B_init hCS B (ix1 B) (ix19 B) hw1 bini_of
  -- the reference
  obtain ⟨n', r1, r2⟩ := rini_of (B := B) (m := B + 9) (n := (ck (ix19 B)).2) (h := ovC (ix19 B) h0) (by omega)
  have hn' : n' ≤ 1000000 := by
    rw [r2]
    have e1 : (ck (ix19 B)).2 + jnfl 9 + sm (fun j => mlen (marrs.getD j 0)) 49 ≤ 1000000 := by
      have : (ck (ix19 B)).2 = 0 + jnfl 0 + jnfl 5 + jnfl 5 + jnfl 8 + 60 + 20 + 8 + 20 + jnfl 2 := rfl
      rw [this]
      decide +kernel
    exact e1
  have hJ := jj_00 (G := GG) (E := 0) (B := B) hn'
  have hsep : lsep (B + 9) (mad (B + 9)) (ixE B n') := hJ.1.2.1.1
  have hmem : (ov (B + 9) (mad (B + 9)) mT0 (ovC (ix19 B) h0), (B + 9 + 50, n')) = (ovC (ixE B n') (ov (B + 9) (mad (B + 9)) mT0 h0), ck (ixE B n')) := by
    rw [ovC_ov hsep]
    rfl
  have G : LG B L scr (B + 9) (mad (B + 9)) SA xs h0 := ⟨hL, hscr, hX, hCS, mad_ok (by omega)⟩
  obtain ⟨C1, T1, ⟨z, hz, hI⟩, hrun⟩ := law_loop (N := N) (M := 60) (bx := B) (I := fun q C T => q ≤ 512 ∧ II GG (6400 * (512 - q)) B B (B + 9) (mad (B + 9)) C T) G
    (fun q C T h => ⟨by omega, ii_mono (by omega) C T h.2⟩)
    (fun q C T h => by
      obtain ⟨S, A, J⟩ := h.2
      exact ⟨J.1.1, rb_tag (jj_b J), J.1.2.1.1⟩)
    (fun q => by
      by_cases hq : q + 1 ≤ 512
      · have hl := lsim_E (E := 6400 * (512 - (q + 1))) (N := N) (M := 60) (B := B) (bx := B) (m := B + 9) (ad := mad (B + 9)) (by decide) (by rw [hNN]; exact Nat.le_refl _) hN2 (by omega)
        have e : 6400 * (512 - (q + 1)) + 6400 = 6400 * (512 - q) := by omega
        rw [e] at hl
        obtain ⟨s0, s1, s2, s3, s4, s5, s6, s7, s8, s9, s10, s11, s12, s13, s14, s15, s16, s17, s18, s19, s20, s21, s22, s23, s24⟩ := hl
        have i : ∀ C T, (q + 1 ≤ 512 ∧ II GG (6400 * (512 - (q + 1))) B B (B + 9) (mad (B + 9)) C T) → II GG (6400 * (512 - (q + 1))) B B (B + 9) (mad (B + 9)) C T := fun _ _ h => h.2
        have u : ∀ C T, II GG (6400 * (512 - q)) B B (B + 9) (mad (B + 9)) C T → (q ≤ 512 ∧ II GG (6400 * (512 - q)) B B (B + 9) (mad (B + 9)) C T) := fun _ _ h => ⟨by omega, h⟩
        exact ⟨ls_0_mono i u s0, ls_1_mono i u s1, ls_2_mono i u s2, ls_3_mono i u s3, ls_4_mono i u s4, ls_5_mono i u s5, ls_6_mono i u s6, ls_7_mono i u s7, ls_8_mono i u s8, ls_9_mono i u s9, ls_10_mono i u s10, ls_11_mono i u s11, ls_12_mono i u s12, ls_13_mono i u s13, ls_14_mono i u s14, ls_15_mono i u s15, ls_16_mono i u s16, ls_17_mono i u s17, ls_18_mono i u s18, ls_19_mono i u s19, ls_20_mono i u s20, ls_21_mono i u s21, ls_22_mono i u s22, ls_23_mono i u s23, ls_24_mono i u s24⟩
      · exact lsim_no fun C T h => hq h.1)
    512 0 (ixE B n') mT0 N (by decide) (by omega) (by omega) ⟨Nat.le_refl _, S00, A00 B, by rw [Nat.sub_self]; exact hJ⟩
  have hend : (ck C1).1 ≤ B + 600000 ∧ (ck C1).2 ≤ 7302250 := by
    obtain ⟨S, A, J⟩ := hI
    have hR := J.1.2.2 _ rfl
    have hm0 : mad (B + 9) 0 = 0 := rfl
    rw [hm0] at hR
    have h1 := hR.1
    have h2 := hR.2
    omega
  refine ⟨N, 60, (ovC C1 (ov (B + 9) (mad (B + 9)) T1 h0), ck C1), Nat.le_refl _, ?_, hend.1, hend.2⟩
  have hov : ovC (c00 B) h0 = h0 := funext fun a => if_pos rfl
  unfold g_L_law
  rw [show ((h0, (B, 0)) : JMem) = (ovC (c00 B) h0, ck (c00 B)) from by rw [hov]; rfl]
  refine (jnew_go (Q := True) (C := c00 B) (ci := 0) (h0 := h0) hc00 (by decide) ⟨?_, trivial⟩).1
  show (obd (g_B_init B B (ovC (ix1 B) h0, ck (ix1 B))) _) = _
  rw [g1.1, obd_some]
  show (obd (g_R_init B (B + 9) (jnO 9 (ovC (ix19 B) h0, (B + 9, (ck (ix19 B)).2)))) _) = _
  rw [r1, obd_some, hmem]
  exact hrun
end JSLAW
