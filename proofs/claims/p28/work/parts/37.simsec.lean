section SIMSEC
variable {G : GT} {E B bx m : Nat} {ad : Nat → Nat} {S : ST} {A : AT} {C : CT} {T : MT}
theorem in_true {v a b : Int32} (h : g_R_in v a b = true) : a.toInt ≤ v.toInt ∧ v.toInt ≤ b.toInt := by
  unfold g_R_in at h
  by_cases h1 : v < a
  · rw [if_pos h1] at h; cases h
  · by_cases h2 : b < v
    · rw [if_neg h1, if_pos h2] at h; cases h
    · rw [Int32.lt_iff_toInt_lt] at h1 h2
      omega
theorem fits_of {kd : Nat} (hk : kd < 16) (ln : Int32) (C : CT) : c_B_fitsKind (i32 kd) ln C = some (g_R_isLength (i32 kd) ln) ∧ (g_R_isLength (i32 kd) ln = true → lenok kd ln) := by
  have e0 : c_B_fitsKind (i32 kd) ln C = some (if sST 3 kd = 0 then true else g_R_in ln (sST 2 kd) (sST 3 kd)) := by
    unfold c_B_fitsKind
    rw [if_neg (i32_nonneg (by omega)), jsl_eq (by decide), obd_some, if_neg (by rw [show (16 : Int32) = i32 16 from rfl, i32_le (by decide) (by omega)]; omega), jsl_eq (by decide), obd_some, if_pos (by rw [show (16 : Int32) = i32 16 from rfl, i32_lt (by omega) (by decide)]; omega), jsr_of (by decide) hk, obd_some]
    by_cases q : sST 3 kd = 0
    · rw [if_pos q, if_pos q]; rfl
    · rw [if_neg q, if_neg q, jsr_of (by decide) hk, obd_some]
      unfold g_R_in
      by_cases q1 : ln < sST 2 kd
      · rw [if_pos q1, if_pos q1]
      · rw [if_neg q1, if_neg q1, obd_some]
        by_cases q2 : sST 3 kd < ln
        · rw [if_pos q2, if_pos q2]
        · rw [if_neg q2, if_neg q2]; rfl
  have t1 : (1 : Int32).toInt = 1 := rfl
  have t64 : (64 : Int32).toInt = 64 := rfl
  have t32 : (32 : Int32).toInt = 32 := rfl
  have t2 : (2 : Int32).toInt = 2 := rfl
  have t8 : (8 : Int32).toInt = 8 := rfl
  rw [e0]
  have ha : ∀ kd, kd < 16 → (kd = 6 ∨ kd = 8) → sST 2 kd = 1 ∧ sST 3 kd = 64 ∧ (i32 kd = 6 ∨ ¬ i32 kd = 6 ∧ i32 kd = 8) := by decide
  have hc : ∀ kd, kd < 16 → (12 ≤ kd ∧ kd ≤ 14) → sST 2 kd = 2 ∧ sST 3 kd = 8 ∧ ¬ i32 kd = 6 ∧ ¬ i32 kd = 8 ∧ ¬ i32 kd = 7 ∧ g_R_in (i32 kd) 12 14 = true := by decide
  have hd : ∀ kd, kd < 16 → ¬ ((kd = 6 ∨ kd = 8) ∨ kd = 7 ∨ (12 ≤ kd ∧ kd ≤ 14)) → sST 3 kd = 0 ∧ ¬ i32 kd = 6 ∧ ¬ i32 kd = 8 ∧ ¬ i32 kd = 7 ∧ ¬ g_R_in (i32 kd) 12 14 = true := by decide
  by_cases q1 : kd = 6 ∨ kd = 8
  · obtain ⟨a1, a2, a3⟩ := ha kd hk q1
    have e : g_R_isLength (i32 kd) ln = g_R_in ln 1 64 := by
      unfold g_R_isLength
      rcases a3 with a3 | ⟨a3, a4⟩
      · rw [if_pos a3]; rfl
      · rw [if_neg a3, if_pos a4]; rfl
    rw [a1, a2, e, if_neg (by decide)]
    refine ⟨rfl, fun h => ⟨fun _ => ?_, fun h7 => by omega, fun h12 => by omega⟩⟩
    have := in_true h
    omega
  · by_cases q2 : kd = 7
    · subst q2
      have e : g_R_isLength (i32 7) ln = g_R_in ln 1 32 := by
        unfold g_R_isLength
        rw [if_neg (by decide), if_neg (by decide), if_pos (by decide)]
      rw [e]
      refine ⟨by rw [show sST 3 7 = 32 from rfl, show sST 2 7 = 1 from rfl, if_neg (by decide)], fun h => ⟨fun h6 => by omega, fun _ => ?_, fun h12 => by omega⟩⟩
      have := in_true h
      omega
    · by_cases q3 : 12 ≤ kd ∧ kd ≤ 14
      · obtain ⟨a1, a2, a3, a4, a5, a6⟩ := hc kd hk q3
        have e : g_R_isLength (i32 kd) ln = g_R_in ln 2 8 := by
          unfold g_R_isLength
          rw [if_neg a3, if_neg a4, if_neg a5, if_pos a6]
          by_cases q : g_R_in ln 2 8 = true
          · rw [if_pos q, q]; rfl
          · rw [if_neg q]
            exact (Bool.eq_false_iff.mpr q).symm
        rw [a1, a2, e, if_neg (by decide)]
        refine ⟨rfl, fun h => ⟨fun h6 => absurd h6 q1, fun h7 => absurd h7 q2, fun _ => ?_⟩⟩
        have := in_true h
        omega
      · obtain ⟨a1, a3, a4, a5, a6⟩ := hd kd hk (fun q => q.elim q1 fun q => q.elim q2 q3)
        have e : g_R_isLength (i32 kd) ln = true := by
          unfold g_R_isLength
          rw [if_neg a3, if_neg a4, if_neg a5, if_neg a6]; rfl
        rw [e, if_pos a1]
        exact ⟨rfl, fun _ => ⟨fun h6 => absurd h6 q1, fun h7 => absurd h7 q2, fun h12 => absurd h12 q3⟩⟩
theorem numbersOf_some (hb : RCb S A C bx) {so : Nat} (h : so < 3) : c_B_numbersOf bx (i32 so) C = some (some (A 5 so)) := by
  unfold c_B_numbersOf
  have e : so = 0 ∨ so = 1 ∨ so = 2 := by omega
  rcases e with rfl | rfl | rfl
  · rw [if_pos (by rfl), rb_doubles hb]; rfl
  · rw [if_neg (by decide), if_pos (by rfl), rb_floats hb]; rfl
  · rw [if_neg (by decide), if_neg (by decide), if_pos (by rfl), rb_shorts hb]; rfl
theorem numbersOf_none {v : Int32} (h : ¬ ∃ so, so < 3 ∧ v = i32 so) : c_B_numbersOf bx v C = some none := by
  unfold c_B_numbersOf
  rw [if_neg (fun q : v = 0 => h ⟨0, by decide, q⟩), if_neg (fun q : v = 1 => h ⟨1, by decide, q⟩), if_neg (fun q : v = 2 => h ⟨2, by decide, q⟩)]
theorem isKind_of {v : Int32} : (∃ kd, kd < 16 ∧ v = i32 kd ∧ c_B_isKind v C = some true ∧ g_R_in v 0 15 = true) ∨ (c_B_isKind v C = some false ∧ g_R_in v 0 15 = false) := by
  unfold c_B_isKind
  rw [jsl_eq (by decide)]
  rcases i32_or v with h | ⟨n, hn, rfl⟩
  · exact Or.inr ⟨if_pos h, by unfold g_R_in; rw [if_pos h]⟩
  · rw [if_neg (i32_nonneg hn), obd_some]
    by_cases h : n < 16
    · refine Or.inl ⟨n, h, rfl, if_neg (by rw [show (16 : Int32) = i32 16 from rfl, i32_le (by decide) hn]; omega), (in_i32 (n := 16) (by decide)).mpr ⟨n, h, rfl⟩⟩
    · refine Or.inr ⟨if_pos (by rw [show (16 : Int32) = i32 16 from rfl, i32_le (by decide) hn]; omega), ?_⟩
      cases q : g_R_in (i32 n) 0 15 with
      | false => rfl
      | true =>
        obtain ⟨k, h1, h2⟩ := (in_i32 (n := 16) (by decide)).mp q
        have := (i32_inj hn (by omega)).mp h2
        omega
theorem newSection_full (J : JJ G E B bx m ad S A C T) (h : S.1 1 0 = 60) (k so ln : Int32) (o : Option Nat) : c_B_newSection bx k so ln o C = some (none, C) := by
  have hb := jj_b J
  unfold c_B_newSection
  rw [rb_sectionCount hb, obd_some, if_neg (i32_nonneg (by omega)), obd_some, rb_sections hb, obd_some, obd_some, cal_of (n := 60) (by rw [hb.2.2.2.1.1]; decide) hb.2.2.2.1.2.1, obd_some, if_neg (by rw [h, i32_lt (by omega) (by omega)]; omega)]
theorem sim_section {N M : Nat} (hN : 100 ≤ N) : ls_0 N M bx (II G E B bx m ad) (II G E B bx m ad) := by
  rintro C T v1 v2 v3 ⟨S, A0, J0⟩
  obtain ⟨A, J, -, hfar, hdead⟩ := jj_norm J0
  have hb := jj_b J
  have hn := (jj_n J).1
  have ho : cob C bx 0 = true := cob_of (rb_tag hb)
  have h1 := jj_C J 1 (by decide)
  have same : c_B_section bx v1 v2 v3 C = some (-1, C) → h_R_section N v1 v2 v3 T = some (-1, T) → ∃ r C1 T1, c_B_section bx v1 v2 v3 C = some (r, C1) ∧ h_R_section N v1 v2 v3 T = some (r, T1) ∧ II G E B bx m ad C1 T1 := fun a b => ⟨-1, C, T, a, b, S, A, J⟩
  have no : (g_R_in v1 0 15 = true → g_R_in v2 0 2 = true → g_R_isLength v1 v3 = true → T.1 1 0 = 60) → h_R_section N v1 v2 v3 T = some (-1, T) := by
    intro q
    unfold h_R_section
    by_cases q0 : T.1 1 0 = 60
    · rw [if_pos q0]
    · rw [if_neg q0]
      by_cases q1 : g_R_in v1 0 15 = true
      · rw [if_pos q1]
        by_cases q2 : g_R_in v2 0 2 = true
        · rw [if_pos q2]
          by_cases q3 : g_R_isLength v1 v3 = true
          · exact absurd (q q1 q2 q3) q0
          · rw [if_neg q3]
        · rw [if_neg q2]
      · rw [if_neg q1]
  by_cases p2 : ∃ so, so < 3 ∧ v2 = i32 so
  · obtain ⟨so, hso, rfl⟩ := p2
    have i2 : g_R_in (i32 so) 0 2 = true := (in_i32 (n := 3) (by decide)).mpr ⟨so, hso, rfl⟩
    rcases isKind_of (v := v1) (C := C) with ⟨kd, hk, rfl, k1, k2⟩ | ⟨k1, k2⟩
    · obtain ⟨l1, l2⟩ := fits_of hk v3 C
      cases hl : g_R_isLength (i32 kd) v3 with
      | false =>
        refine same ?_ (no fun _ _ q => by rw [hl] at q; cases q)
        unfold c_B_section
        rw [ho, jgd_true, numbersOf_some hb hso, obd_some, jon_some, k1, obd_some, if_pos rfl, l1, hl, obd_some, if_neg (by decide)]
      | true =>
        by_cases h60 : S.1 1 0 = 60
        · refine same ?_ (no fun _ _ _ => by rw [h1, h60]; rfl)
          unfold c_B_section
          rw [ho, jgd_true, numbersOf_some hb hso, obd_some, jon_some, k1, obd_some, if_pos rfl, l1, hl, obd_some, if_pos rfl, jgd_true, newSection_full J h60, cbd2_some]
          rfl
        · obtain ⟨T1, u1, u2, J1⟩ := jj_newSection J hfar hdead (by omega) hk hso (l2 hl) hN
          refine ⟨i32 (S.1 1 0), _, T1, ?_, ?_, _, _, J1⟩
          · unfold c_B_section
            rw [ho, jgd_true, numbersOf_some hb hso, obd_some, jon_some, k1, obd_some, if_pos rfl, l1, hl, obd_some, if_pos rfl, jgd_true, u1, cbd2_some, jon_some]
            have := rs_number (jj_s J1 (s := S.1 1 0) (by rw [secS_1]; omega))
            rw [show secA A (ck C).1 (S.1 1 0) 7 (S.1 1 0) = (ck C).1 from by simp [secA]] at this
            rw [this, obd_some]
          · unfold h_R_section
            rw [if_neg (by rw [h1]; exact i32_ne (by omega) (by decide) h60), if_pos k2, if_pos i2, if_pos hl, u2, tbd2_some]
    · refine same ?_ (no fun q _ _ => by rw [k2] at q; cases q)
      unfold c_B_section
      rw [ho, jgd_true, numbersOf_some hb hso, obd_some, jon_some, k1, obd_some, if_neg (by decide)]
  · refine same ?_ (no fun _ q _ => ?_)
    · unfold c_B_section
      rw [ho, jgd_true, numbersOf_none p2, obd_some]
      rfl
    · exact absurd ((in_i32 (n := 3) (by decide)).mp q) p2
end SIMSEC
