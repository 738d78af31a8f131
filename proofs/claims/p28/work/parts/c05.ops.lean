/-! the calls that the account makes, told out -/
/-- the coupling, wherever the class's objects lie -/
def JE (G : GT) (E B bx m : Nat) (ad : Nat → Nat) (S : ST) (C : CT) : Prop := ∃ A, JF G E B bx m ad S A C
section OPSF
variable {G : GT} {E B bx m s c : Nat} {ad : Nat → Nat} {S : ST} {C : CT}
theorem je_of {A : AT} {T : MT} (J : JJ G E B bx m ad S A C T) : JE G E B bx m ad S C := ⟨A, jf_of J⟩
theorem je_cw (J : JE G E B bx m ad S C) : CW B C := by obtain ⟨A, J⟩ := J; exact J.1.1
theorem je_ob (J : JE G E B bx m ad S C) : cob C bx 0 = true := by obtain ⟨A, J⟩ := J; exact cob_of (rb_tag (jj_b J))
theorem o_chain (J : JE G E B bx m ad S C) (h : S.1 16 0 < 20) : ∃ C', c_B_chain bx C = some (i32 (S.1 16 0), C') ∧ JE G E B bx m ad (chS S) C' := by
  obtain ⟨A0, J0⟩ := J
  obtain ⟨A, J, -, hfar, hdead⟩ := jj_norm J0
  obtain ⟨T1, u1, -, J1⟩ := jj_newChain J hfar hdead h
  exact ⟨_, u1, je_of J1⟩
theorem o_section {kd so : Nat} {ln : Int32} (J : JE G E B bx m ad S C) (h : S.1 1 0 < 60) (hk : kd < 16) (hso : so < 3) (hl : g_R_isLength (i32 kd) ln = true) : ∃ C', c_B_section bx (i32 kd) (i32 so) ln C = some (i32 (S.1 1 0), C') ∧ JE G E B bx m ad (secS S kd so ln) C' := by
  obtain ⟨A0, J0⟩ := J
  obtain ⟨A, J, -, hfar, hdead⟩ := jj_norm J0
  obtain ⟨l1, l2⟩ := fits_of hk ln C
  obtain ⟨T1, u1, u2, J1⟩ := jj_newSection J hfar hdead h hk hso (l2 hl) (N := 100) (by omega)
  have k1 : c_B_isKind (i32 kd) C = some true := by
    rcases isKind_of (v := i32 kd) (C := C) with ⟨kd', _, _, k1, _⟩ | ⟨_, k2⟩
    · exact k1
    · have k3 : g_R_in (i32 kd) 0 15 = true := (in_i32 (n := 16) (by decide)).mpr ⟨kd, hk, rfl⟩
      rw [k3] at k2; cases k2
  refine ⟨_, ?_, je_of J1⟩
  unfold c_B_section
  rw [cob_of (rb_tag (jj_b J)), jgd_true, numbersOf_some (jj_b J) hso, obd_some, jon_some, k1, obd_some, if_pos rfl, l1, hl, obd_some, if_pos rfl, jgd_true, u1, cbd2_some, jon_some]
  have := rs_number (jj_s J1 (s := S.1 1 0) (by rw [secS_1]; omega))
  rw [show secA A (ck C).1 (S.1 1 0) 7 (S.1 1 0) = (ck C).1 from by simp [secA]] at this
  rw [this, obd_some]
theorem o_add {N : Nat} (hN : 100 ≤ N) (J : JE G E B bx m ad S C) (hc : c < S.1 16 0) (hs : s < S.1 1 0) (h10 : S.1 17 c < 10) (h8 : S.1 8 s = 0) (h19 : S.1 19 c = 0) (hso : S.1 17 c ≠ 0 → S.1 3 s = cso S c) (hsp : spread (S.1 2 s) = false) :
    ∃ C', c_B_add N bx (i32 c) (i32 s) C = some (i32 (S.1 17 c), C') ∧ JE G E B bx m ad (jnS S c s) C' := by
  obtain ⟨A, J⟩ := J
  have hb := jj_b J
  have hsr := jj_s J hs
  have hr := jj_c J hc
  have ws := jj_ws J hs
  have wc := jj_wc J hc
  have c8 : cgA C (A 7 s) 7 12 = some none := by rw [rs_home hsr, h8]; rfl
  have c19 : cgA C (A 1 c) 1 9 = some none := by rw [rc_holder hr, h19]; rfl
  have n10 : ¬ (10 : Int32) ≤ i32 (S.1 17 c) := by rw [show (10 : Int32) = i32 10 from rfl, i32_le (by decide) (by omega)]; omega
  obtain ⟨so1, -⟩ := sort_of J hc
  obtain ⟨T1, u1, J1⟩ := jj_join J hc hs h10 h8 h19 hso (fun q => by rw [hsp] at q; cases q)
  have e87 : c_B_add_69 N (A 1 c) (A 7 s) C = some (i32 (S.1 17 c), jnC C (A 17 c) (A 1 c) (A 7 s) (S.1 17 c)) := by
    unfold c_B_add_69
    rw [cob_of (rs_tag hsr), jgd_true, spreads_of J hs, obd_some, if_neg (by rw [hsp]; decide)]
    unfold c_B_add_87
    rw [cob_of (rc_tag hr), jgd_true, join_of J hc hs h10, obd_some]
    have := rs_place (jj_s J1 (s := s) (by rw [jnS_k (k := 1) (by decide)]; exact hs))
    rw [jnS_9s, im_succ] at this
    rw [this, obd_some]
  refine ⟨_, ?_, je_of J1⟩
  unfold c_B_add
  rw [cob_of (rb_tag hb), jgd_true, chAt_some J hc, obd_some, jgd_true, secAt_some J hs, obd_some, jon_some, jon_some, c8, obd_some, jon_none, c19, obd_some, jon_none, rc_size hr, obd_some, if_neg n10, obd_some]
  by_cases h0 : S.1 17 c = 0
  · rw [h0, if_pos (by decide)]
    rw [h0] at e87
    exact e87
  · have p0 : ¬ i32 (S.1 17 c) ≤ 0 := by rw [show (0 : Int32) = i32 0 from rfl, i32_le (by omega) (by decide)]; omega
    rw [if_neg h0] at so1
    rw [if_neg p0, cob_of (rc_tag hr), jgd_true, so1, obd_some, rs_sort hsr, obd_some, if_pos (by rw [hso h0])]
    exact e87
theorem o_rule {r l : Nat} (J : JE G E B bx m ad S C) (hs : s < S.1 1 0) (hf : S.1 3 s = 2) (hr : r ≤ 2) (hl : l ≤ 1) :
    ∃ C', c_B_rule bx (i32 s) (i32 r) (i32 l) C = some (true, C') ∧ JE G E B bx m ad (uN (uN S 5 s r) 6 s l) C' := by
  obtain ⟨A, J⟩ := J
  have hsr := jj_s J hs
  refine ⟨_, ?_, je_of (jj_rule J hs hf hr hl)⟩
  unfold c_B_rule
  rw [cob_of (rb_tag (jj_b J)), jgd_true, secAt_some J hs, obd_some, jon_some, rs_sort hsr, obd_some, hf, if_pos (by rfl), if_neg (i32_nonneg (by omega)), if_neg (by rw [show (2 : Int32) = i32 2 from rfl, i32_lt (by decide) (by omega)]; omega), if_neg (i32_nonneg (by omega)), if_pos (by rw [show (1 : Int32) = i32 1 from rfl, i32_le (by omega) (by decide)]; exact hl), cpI_of (rs_tag hsr) (by decide) (by decide), obd_some]
  rw [cpI_of (C := csI C (16 * 7 + 7) (A 7 s) 0 (i32 r)) (show C.1 (A 7 s) = 7 + 1 from rs_tag hsr) (by decide) (by decide), obd_some]
theorem o_coef {j : Nat} {b : Int64} (J : JE G E B bx m ad S C) (hs : s < S.1 1 0) (hj : j < nfac (S.1 2 s)) (hh : hold (S.1 3 s) b) :
    ∃ C', c_B_coefficient bx (i32 s) (i32 j) b C = some (true, C') ∧ JE G E B bx m ad (uJ S 7 (5 * s + j) (clean (S.1 3 s) b)) C' := by
  obtain ⟨A, J⟩ := J
  have hb := jj_b J
  have hsr := jj_s J hs
  have hws := jj_ws J hs
  have n5 := nfac_5 (S.1 2 s)
  have hal : cal C (A 117 s) = some (i32 (nfac (S.1 2 s))) := cal_of (by rw [hsr.2.2.1.1]; decide) hsr.2.2.1.2.1
  have f2 : c_Section_hasFactor (A 7 s) (i32 j) C = some true := by
    unfold c_Section_hasFactor
    rw [if_neg (i32_nonneg (by omega)), rs_factors hsr, obd_some, obd_some, hal, obd_some, if_neg (by rw [i32_le (by omega) (by omega)]; omega)]
  refine ⟨_, ?_, je_of (jj_coef J hs hj (clean_vb hh))⟩
  unfold c_B_coefficient
  rw [cob_of (rb_tag hb), jgd_true, secAt_some J hs, obd_some, jon_some, cob_of (rs_tag hsr), jgd_true, f2, obd_some, if_pos rfl, rs_numbers hsr, obd_some, obd_some, (nums_holds hb hws.1.2.1 b).1 hh, obd_some, if_pos rfl, obd_some, obd_some, nums_clean hb hws.1.2.1 b, obd_some, jgd_true, setFactor_of J hs hj, obd_some]
theorem o_loop {N f t ln : Nat} {v : Int64} (hN : 100 ≤ N) (J : JE G E B bx m ad S C) (hc : c < S.1 16 0) (h19 : S.1 19 c = 0) (h3 : S.1 20 c < 3) (hft : f ≤ t) (ht : t < S.1 17 c) (h1 : 1 ≤ ln) (h64 : ln ≤ 64) (hh : hold (cso S c) v) (hr : ∀ p, f ≤ p → p ≤ t → rate (S.1 2 (S.1 18 (10 * c + p))) = false) :
    ∃ C', c_B_loop N bx (i32 c) (i32 f) (i32 t) (i32 ln) v C = some (i32 (S.1 20 c + 1), C') ∧ JE G E B bx m ad (lpS S c f t ln (clean (cso S c) v)) C' := by
  obtain ⟨A0, J0⟩ := J
  obtain ⟨A, J, -, hfar, hdead⟩ := jj_norm J0
  have hb := jj_b J
  have hcr := jj_c J hc
  have wc := jj_wc J hc
  have h10 := wc.1.1
  have c19 : cgA C (A 1 c) 1 9 = some none := by rw [rc_holder hcr, h19]; rfl
  have p3 : i32 (S.1 20 c) < 3 := (i32_lt (b := 3) (by omega) (by decide)).mpr h3
  have c1 : ¬ i32 f < 0 := i32_nonneg (by omega)
  have c2 : ¬ i32 t < i32 f := by rw [i32_lt (by omega) (by omega)]; omega
  have c3 : ¬ i32 (S.1 17 c) ≤ i32 t := by rw [i32_le (by omega) (by omega)]; omega
  have c6 : ¬ i32 ln < 1 := by rw [show (1 : Int32) = i32 1 from rfl, i32_lt (by omega) (by decide)]; omega
  have c7 : ¬ (64 : Int32) < i32 ln := by rw [show (64 : Int32) = i32 64 from rfl, i32_lt (by decide) (by omega)]; omega
  have cpre := changes_all J hc hN hft ht
  have hany : anyR (rtf S c) f (t + 1 - f) = false := anyR_iff.mpr fun p q1 q2 => hr p q1 (by omega)
  obtain ⟨so1, -⟩ := sort_of J hc
  rw [if_neg (by omega)] at so1
  have hcs : cso S c < 3 := by
    have := places_lt J hc (p := 0) (by omega)
    exact (jj_ws J this).1.2.1
  have hsome := numbersOf_some hb hcs
  have hhh := nums_holds hb hcs v
  obtain ⟨T1, u1, J1⟩ := jj_loop J hfar hdead hc (by omega) hft ht h1 h64 (clean_vb hh) hr hN (ln := ln)
  have hag : ∀ a, a < (ck C).1 → Ag C (cfr C 5 0 4) a := fun a ha => (agr_fr (Nat.le_refl _)).ag ha
  have hlt : ∀ a, C.1 a ≠ 0 → a < (ck C).1 := fun a ha => (J.1.1.2.1 a ha).2
  have hb13 : RCb S A (cfr C 5 0 4) bx := by
    have gx := hag bx (hlt _ (by rw [hb.1.1]; decide))
    have gA : ∀ i, i < 4 → Ag C (cfr C 5 0 4) (A 3 i) := fun i hi => hag _ (hlt _ (va_tag J (show VA S 3 i from hi) (by decide)))
    refine RCb_of hb gx.1 (fun _ _ => rfl) hb.2.1.1 hb.2.1.2.1 hb.2.1.2.2 (fun _ => rfl) (fun _ => rfl) rfl (fun i hi => hag _ (hlt _ (va_tag J (show VA S 5 i from hi) (by decide)))) (fun i hi => ⟨(gA i hi).1, (gA i hi).2.1⟩) (hag _ (hlt _ (va_tag J (show VA S 2 0 from rfl) (by decide)))).1 hb.2.2.2.1.2.2 hb.2.2.2.2.1.2.2 hb.2.2.2.2.2.1.2.2
  have hcl := nums_clean hb13 hcs v
  refine ⟨_, ?_, je_of J1⟩
  unfold c_B_loop
  rw [cob_of (rb_tag hb), jgd_true, chAt_some J hc, obd_some, jon_some, c19, obd_some, jon_none, rc_loopCount hcr, obd_some, if_pos p3, if_neg c1, if_neg c2, rc_size hcr, obd_some, if_neg c3, if_neg c6, if_neg c7, cob_of (rc_tag hcr), jgd_true, cpre, hany, obd_some, if_neg (by decide), jgd_true, so1, obd_some, jgd_true, hsome, obd_some, jon_some, hhh.1 hh, obd_some, if_pos rfl]
  unfold cnew
  dsimp only
  rw [show cfr C (4 + 1) 0 (jnfl 4) = cfr C 5 0 4 from rfl, hcl, obd_some, linit_of (by omega), obd_some]
  have l1 : A 1 c < (ck C).1 := hlt _ (by rw [hcr.1.1]; decide)
  rw [cob_of (ci := 1) (by rw [(lpC_agr.ag l1).1]; exact hcr.1.1), jgd_true, tie_of J hc (by omega), obd_some]
  have := rc_loopCount (jj_c J1 (c := c) (by rw [lpS_k (k := 16) (by decide)]; exact hc))
  rw [lpS_20c, lpA_t (by decide)] at this
  rw [this, obd_some]
/-! what is asked -/
theorem o_about0 (J : JE G E B bx m ad S C) (hs : s < S.1 1 0) : c_B_about bx (i32 s) 0 C = some (i32 (S.1 2 s)) := by
  obtain ⟨A, J⟩ := J
  unfold c_B_about
  rw [cob_of (rb_tag (jj_b J)), jgd_true, secAt_some J hs, obd_some, jon_some, if_pos (by rfl), rs_kind (jj_s J hs), obd_some]
theorem o_about5 (J : JE G E B bx m ad S C) (hs : s < S.1 1 0) : c_B_about bx (i32 s) 5 C = some (S.2.2 11 s) := by
  obtain ⟨A, J⟩ := J
  unfold c_B_about
  rw [cob_of (rb_tag (jj_b J)), jgd_true, secAt_some J hs, obd_some, jon_some, if_neg (by decide), if_neg (by decide), if_neg (by decide), if_neg (by decide), if_neg (by decide), if_pos (by rfl), rs_overs (jj_s J hs), obd_some]
theorem o_about6 (J : JE G E B bx m ad S C) (hs : s < S.1 1 0) : c_B_about bx (i32 s) 6 C = some (S.2.2 12 s) := by
  obtain ⟨A, J⟩ := J
  unfold c_B_about
  rw [cob_of (rb_tag (jj_b J)), jgd_true, secAt_some J hs, obd_some, jon_some, if_neg (by decide), if_neg (by decide), if_neg (by decide), if_neg (by decide), if_neg (by decide), if_neg (by decide), if_pos (by rfl), rs_touches (jj_s J hs), obd_some]
theorem o_about8 (J : JE G E B bx m ad S C) (hs : s < S.1 1 0) : c_B_about bx (i32 s) 8 C = some (i32 (S.1 5 s)) := by
  obtain ⟨A, J⟩ := J
  unfold c_B_about
  rw [cob_of (rb_tag (jj_b J)), jgd_true, secAt_some J hs, obd_some, jon_some, if_neg (by decide), if_neg (by decide), if_neg (by decide), if_neg (by decide), if_neg (by decide), if_neg (by decide), if_neg (by decide), if_neg (by decide), if_pos (by rfl), rs_rounding (jj_s J hs), obd_some]
theorem o_rest (J : JE G E B bx m ad S C) (hs : s < S.1 1 0) : c_B_state bx (i32 s) 100 C = some (S.2.1 15 s) := by
  obtain ⟨A, J⟩ := J
  have hsr := jj_s J hs
  unfold c_B_state
  rw [cob_of (rb_tag (jj_b J)), jgd_true, secAt_some J hs, obd_some, jon_some, if_pos (by rfl), rs_rest hsr, obd_some, obd_some, cob_of (show C.1 (A 121 s) = 6 + 1 from hsr.2.1.2.2.1.2.1), jgd_true, rest_at hsr, obd_some]
theorem o_told {j : Nat} (J : JE G E B bx m ad S C) (hs : s < S.1 1 0) (hj : j < 5) : c_B_told bx (i32 s) (i32 j) C = some (S.2.1 7 (5 * s + j)) := by
  obtain ⟨A, J⟩ := J
  have ws := jj_ws J hs
  unfold c_B_told
  rw [cob_of (rb_tag (jj_b J)), jgd_true, secAt_some J hs, obd_some, jon_some, cob_of (rs_tag (jj_s J hs)), jgd_true]
  by_cases h : j < nfac (S.1 2 s)
  · rw [factor_of J hs h, obd_some]
  · rw [ws.2.2.2.2.2.2.2.2.2.2.2.1 j hj (by omega)]
    rcases fac_or J hs (i32 j) with ⟨j', h1, e, -⟩ | ⟨-, -, f3⟩
    · have := nfac_5 (S.1 2 s)
      have : j = j' := (i32_inj (by omega) (by omega)).mp e
      omega
    · rw [f3, obd_some]
theorem o_count (J : JE G E B bx m ad S C) : c_B_count bx 0 C = some (i32 (S.1 1 0)) := by
  obtain ⟨A, J⟩ := J
  unfold c_B_count
  rw [if_pos (by rfl), rb_sectionCount (jj_b J), obd_some]
theorem o_chain1 (J : JE G E B bx m ad S C) (hc : c < S.1 16 0) : c_B_chain_2 bx (i32 c) 1 C = some (i32 (S.1 20 c)) := by
  obtain ⟨A, J⟩ := J
  unfold c_B_chain_2
  rw [cob_of (rb_tag (jj_b J)), jgd_true, chAt_some J hc, obd_some, jon_some, if_neg (by decide), if_pos (by rfl), rc_loopCount (jj_c J hc), obd_some]
theorem o_chain4 (J : JE G E B bx m ad S C) (hc : c < S.1 16 0) (h17 : S.1 17 c ≠ 0) : c_B_chain_2 bx (i32 c) 4 C = some (i32 (cso S c)) := by
  obtain ⟨A, J⟩ := J
  obtain ⟨so1, -⟩ := sort_of J hc
  rw [if_neg h17] at so1
  unfold c_B_chain_2
  rw [cob_of (rb_tag (jj_b J)), jgd_true, chAt_some J hc, obd_some, jon_some, if_neg (by decide), if_neg (by decide), if_neg (by decide), if_neg (by decide), if_pos (by rfl), cob_of (rc_tag (jj_c J hc)), jgd_true, so1, obd_some]
theorem o_output {i : Nat} (J : JE G E B bx m ad S C) (hc : c < S.1 16 0) (hi : i < S.1 28 c) (h400 : S.1 28 c ≤ 400) : c_B_output bx (i32 c) (i32 i) C = some (S.2.1 27 (400 * c + i)) := by
  obtain ⟨A, J⟩ := J
  have hr := jj_c J hc
  have es : i32 (S.1 28 c) - 1 - i32 i = i32 (S.1 28 c - 1 - i) := by
    rw [show (1 : Int32) = i32 1 from rfl, i32_sub (by omega), i32_sub (by omega)]
  unfold c_B_output c_Chain_madeAs
  rw [cob_of (rb_tag (jj_b J)), jgd_true, chAt_some J hc, obd_some, jon_some, cob_of (rc_tag hr), jgd_true, if_neg (i32_nonneg (by omega)), rc_total hr, obd_some, if_pos (by rw [i32_lt (by omega) (by omega)]; exact hi), obd_some, jgd_true, es, before_of J hc (by omega), obd_some, obd_some, if_pos (by omega), show (S.1 28 c - 1 - (S.1 28 c - 1 - i)) % 400 = i by omega]
end OPSF
