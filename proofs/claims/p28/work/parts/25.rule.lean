/-! rule -/
section RULE
variable {G : GT} {E B bx m : Nat} {ad : Nat → Nat} {S : ST} {A : AT} {C : CT} {T : MT}
/-- two sections are apart -/
theorem ax_sec (h : RC bx S A C) {s s' : Nat} (h1 : s < S.1 1 0) (h2 : s' < S.1 1 0) (hn : s' ≠ s) : A 7 s' ≠ A 7 s := fun e => hn (h.2.2.2 7 s' 7 s h2 h1 e).2
theorem jj_rule (J : JJ G E B bx m ad S A C T) {s r l : Nat} (hs : s < S.1 1 0) (hf : S.1 3 s = 2) (hr : r ≤ 2) (hl : l ≤ 1) :
    JJ G E B bx m ad (uN (uN S 5 s r) 6 s l) A (csI (csI C 119 (A 7 s) 0 (i32 r)) 120 (A 7 s) 0 (i32 l)) (tsI (tsI T 5 s (i32 r)) 6 s (i32 l)) := by
  obtain ⟨⟨w1, w2, w3⟩, hRC, hRT, hWF, hRK, hRD⟩ := id J
  have ht : C.1 (A 7 s) ≠ 0 := by rw [rs_tag (jj_s J hs)]; decide
  refine ⟨⟨cw_csI (cw_csI w1 ht) ht, w2, w3⟩, ⟨hRC.1, fun s' h' => ?_, hRC.2.2.1, hRC.2.2.2⟩, rt_uN (rt_uN hRT (by decide) (by decide) (by decide) (by decide)) (by decide) (by decide) (by decide) (by decide), ⟨hWF.1, fun s' h' => ?_, hWF.2.2.1, hWF.2.2.2⟩, hRK, hRD⟩
  · obtain ⟨g1, ⟨g2, g3, g4⟩, g5, g6⟩ := hRC.2.1 s' h'
    by_cases e : s' = s
    · subst e
      refine ⟨g1, ⟨?_, ?_, g4⟩, g5, g6⟩
      · simp [csI, up3, uN, up2]
      · simp [csI, up3, uN, up2]
    · have hne := ax_sec hRC hs h' e
      refine ⟨g1, ⟨?_, ?_, g4⟩, g5, g6⟩
      · simpa [csI, up3, uN, up2, e, hne] using g2
      · simpa [csI, up3, uN, up2, e, hne] using g3
  · obtain ⟨g1, ⟨g2, g3⟩, g4, g5⟩ := hWF.2.1 s' h'
    by_cases e : s' = s
    · subst e
      refine ⟨g1, ⟨?_, ?_⟩, fun q => ?_, g5⟩
      · simp [uN, up2]; exact hr
      · simp [uN, up2]; exact hl
      · have : S.1 3 s' < 2 := q
        omega
    · refine ⟨g1, ⟨?_, ?_⟩, fun q => ?_, g5⟩
      · simpa [uN, up2, e] using g2
      · simpa [uN, up2, e] using g3
      · have := g4 q
        refine ⟨?_, ?_, this.2.2⟩
        · simpa [uN, up2, e] using this.1
        · simpa [uN, up2, e] using this.2.1
theorem le_i32 {a : Nat} {v : Int32} (h0 : ¬ v < 0) (ha : a < 2 ^ 31) (h : ¬ i32 a < v) : ∃ n, n ≤ a ∧ v = i32 n := by
  rcases i32_or v with q | ⟨n, hn, rfl⟩
  · exact absurd q h0
  · refine ⟨n, ?_, rfl⟩
    rw [i32_lt ha hn] at h
    omega
theorem sim_rule {N M : Nat} : ls_3 N M bx (II G E B bx m ad) (II G E B bx m ad) := by
  rintro C T v r l ⟨S, A, J⟩
  have hb := jj_b J
  have ho : cob C bx 0 = true := cob_of (rb_tag hb)
  have hn := (jj_n J).1
  rcases sec_or J v with ⟨s, hs, rfl, e1, e2⟩ | ⟨e1, e2⟩
  · have hsr := jj_s J hs
    have hws := jj_ws J hs
    have h3 := jj_N J 3 (by decide) s
    have hj : jrg 60 (i32 s) = some s := jrg_i32 (by omega) (by decide)
    by_cases hf : S.1 3 s = 2
    · by_cases c1 : r < 0
      · refine ⟨false, C, T, ?_, ?_, S, A, J⟩
        · unfold c_B_rule
          rw [ho, jgd_true, e2, obd_some, jon_some, rs_sort hsr, obd_some, hf, if_pos (by rfl), if_pos c1]
        · unfold h_R_rule
          rw [e1, obd_some, if_pos rfl, hj, obd_some, h3, hf, if_pos (by rfl)]
          unfold g_R_in
          rw [if_pos c1]
          rfl
      · by_cases c2 : 2 < r
        · refine ⟨false, C, T, ?_, ?_, S, A, J⟩
          · unfold c_B_rule
            rw [ho, jgd_true, e2, obd_some, jon_some, rs_sort hsr, obd_some, hf, if_pos (by rfl), if_neg c1, if_pos c2]
          · unfold h_R_rule
            rw [e1, obd_some, if_pos rfl, hj, obd_some, h3, hf, if_pos (by rfl)]
            unfold g_R_in
            rw [if_neg c1, if_pos c2]
            rfl
        · obtain ⟨r, hr, rfl⟩ := le_i32 (a := 2) c1 (by decide) c2
          have gi : g_R_in (i32 r) 0 2 = true := by
            unfold g_R_in
            rw [if_neg c1, if_neg c2]
          by_cases c3 : l < 0
          · refine ⟨false, C, T, ?_, ?_, S, A, J⟩
            · unfold c_B_rule
              rw [ho, jgd_true, e2, obd_some, jon_some, rs_sort hsr, obd_some, hf, if_pos (by rfl), if_neg c1, if_neg c2, if_pos c3]
            · unfold h_R_rule
              rw [e1, obd_some, if_pos rfl, hj, obd_some, h3, hf, if_pos (by rfl), if_pos gi]
              unfold g_R_in
              rw [if_pos c3]
              rfl
          · by_cases c4 : l ≤ 1
            · obtain ⟨l, hl, rfl⟩ := le_i32 (a := 1) c3 (by decide) (Int32.not_lt.mpr c4)
              have gl : g_R_in (i32 l) 0 1 = true := by
                unfold g_R_in
                rw [if_neg c3, if_neg (Int32.not_lt.mpr c4)]
              refine ⟨true, _, _, ?_, ?_, _, A, jj_rule J hs hf hr hl⟩
              · unfold c_B_rule
                rw [ho, jgd_true, e2, obd_some, jon_some, rs_sort hsr, obd_some, hf, if_pos (by rfl), if_neg c1, if_neg c2, if_neg c3, if_pos c4, cpI_of (rs_tag hsr) (by decide) (by decide), obd_some]
                rw [cpI_of (C := csI C (16 * 7 + 7) (A 7 s) 0 (i32 r)) (show C.1 (A 7 s) = 7 + 1 from rs_tag hsr) (by decide) (by decide), obd_some]
              · unfold h_R_rule
                rw [e1, obd_some, if_pos rfl, hj, obd_some, h3, hf, if_pos (by rfl), if_pos gi, if_pos gl, obd_some]
                rfl
            · refine ⟨false, C, T, ?_, ?_, S, A, J⟩
              · unfold c_B_rule
                rw [ho, jgd_true, e2, obd_some, jon_some, rs_sort hsr, obd_some, hf, if_pos (by rfl), if_neg c1, if_neg c2, if_neg c3, if_neg c4]
              · unfold h_R_rule
                rw [e1, obd_some, if_pos rfl, hj, obd_some, h3, hf, if_pos (by rfl), if_pos gi]
                unfold g_R_in
                rw [if_neg c3, if_pos (Int32.not_le.mp c4)]
                rfl
    · have hk := hws.1.2.1
      have hne : ¬ i32 (S.1 3 s) = 2 := fun q => hf ((i32_inj (a := S.1 3 s) (b := 2) (by omega) (by decide)).mp q)
      refine ⟨false, C, T, ?_, ?_, S, A, J⟩
      · unfold c_B_rule
        rw [ho, jgd_true, e2, obd_some, jon_some, rs_sort hsr, obd_some, if_neg hne]
      · unfold h_R_rule
        rw [e1, obd_some, if_pos rfl, hj, obd_some, h3, if_neg hne]
  · refine ⟨false, C, T, ?_, ?_, S, A, J⟩
    · unfold c_B_rule
      rw [ho, jgd_true, e2, obd_some, jon_none]
    · unfold h_R_rule
      rw [e1, obd_some]
      rfl
end RULE
