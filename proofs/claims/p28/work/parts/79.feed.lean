/-! a value fed -/
section FEED
variable {G : GT} {E B bx m c : Nat} {ad : Nat → Nat} {S : ST} {A : AT} {C : CT} {T : MT} {x : Int64}
theorem jj_mono {E' : Nat} (J : JJ G E B bx m ad S A C T) (h : E ≤ E') : JJ G E' B bx m ad S A C T :=
  ⟨J.1, J.2.1, J.2.2.1, ⟨J.2.2.2.1.1, J.2.2.2.1.2.1, fun c hc => by
    obtain ⟨w1, w2, w3, w4, w5, w6, w7⟩ := J.2.2.2.1.2.2.1 c hc
    exact ⟨w1, w2, w3, w4, w5, w6, by omega⟩, J.2.2.2.1.2.2.2⟩, J.2.2.2.2⟩
theorem fed_of (J : JJ G E B bx m ad S A C T) (v : Int32) : (∃ c, c < S.1 16 0 ∧ v = i32 c ∧ S.1 17 c ≠ 0 ∧ c_B_fedAlone bx v C = some (some (A 1 c)) ∧ h_R_isFed v T = some true) ∨ (c_B_fedAlone bx v C = some none ∧ h_R_isFed v T = some false) := by
  have ho : cob C bx 0 = true := cob_of (rb_tag (jj_b J))
  rcases ch_or J v with ⟨c, hc, rfl, hq, hk⟩ | ⟨hq, hk⟩
  · have hcr := jj_c J hc
    have h10 := (jj_wc J hc).1.1
    have c20 : c < 20 := by have := (jj_n J).2.1; omega
    have e17 : T.1 17 c = i32 (S.1 17 c) := jj_N J 17 (by decide) _
    have e19 : T.1 19 c = im (S.1 19 c) := jj_M J 19 (by decide) _
    have j20 : jrg 20 (i32 c) = some c := jrg_i32 c20 (by decide)
    by_cases h0 : S.1 17 c = 0
    · refine Or.inr ⟨?_, ?_⟩
      · unfold c_B_fedAlone
        rw [ho, jgd_true, hk, obd_some, jon_some, rc_size hcr, obd_some, h0, if_pos (show i32 0 = (0 : Int32) from rfl)]
        rfl
      · unfold h_R_isFed
        rw [hq, obd_some, if_pos (show true = true from rfl), j20, obd_some, e17, h0, if_pos (by decide)]
    · have n0 : ¬ i32 (S.1 17 c) = (0 : Int32) := i32_ne (b := 0) (by omega) (by decide) h0
      have n1 : ¬ i32 (S.1 17 c) ≤ (0 : Int32) := by rw [show (0 : Int32) = i32 0 from rfl, i32_le (by omega) (by decide)]; omega
      cases h19 : S.1 19 c with
      | zero =>
        refine Or.inl ⟨c, hc, rfl, h0, ?_, ?_⟩
        · unfold c_B_fedAlone
          rw [ho, jgd_true, hk, obd_some, jon_some, rc_size hcr, obd_some, if_neg n0, rc_holder hcr, obd_some, h19]
          rfl
        · unfold h_R_isFed
          rw [hq, obd_some, if_pos (show true = true from rfl), j20, obd_some, e17, if_neg n1, obd_some, e19, h19, im_zero, if_pos rfl]
      | succ h =>
        have hh := (jj_wc J hc).2.2.1 h h19
        have := (jj_n J).1
        refine Or.inr ⟨?_, ?_⟩
        · unfold c_B_fedAlone
          rw [ho, jgd_true, hk, obd_some, jon_some, rc_size hcr, obd_some, if_neg n0, rc_holder hcr, obd_some, h19, show oA A 7 (h + 1) = some (A 7 h) from rfl, jon_some]
          rfl
        · unfold h_R_isFed
          rw [hq, obd_some, if_pos (show true = true from rfl), j20, obd_some, e17, if_neg n1, obd_some, e19, h19, im_succ, if_neg]
          intro z
          have a := congrArg Int32.toInt z
          rw [i32_toInt (by omega)] at a
          have b : (-1 : Int32).toInt = -1 := rfl
          omega
  · refine Or.inr ⟨?_, ?_⟩
    · unfold c_B_fedAlone
      rw [ho, jgd_true, hk, obd_some]
      rfl
    · unfold h_R_isFed
      rw [hq, obd_some, if_neg (by decide)]
theorem room_up {E y z : Nat} (h1 : y ≤ min E 4000000) (h2 : z ≤ 64) (h3 : E + 64 ≤ 4000000) : y + z ≤ min (E + 64) 4000000 := by omega
/-- all that comes of one value -/
theorem go_ref {N M : Nat} (hM : 30 ≤ M) (hN : 100 ^ (12 * M) ≤ N) (J : JJ G E B bx m ad S A C T) (hc : c < S.1 16 0) (h17 : S.1 17 c ≠ 0) (hv : vb (cso S c) x) (hE : E + 64 ≤ 4000000) :
    ∃ out S' C' T', c_B_send N M (some (A 1 c)) (0 : Int32) x (0 : Int32) C = some (i32 out, C') ∧ h_R_goes N (i32 c) (dv (cso S c) x) T = some (i32 out, T') ∧ JJ G (E + 64) B bx m ad S' A C' T' ∧ Dy S S' := by
  have c20 : c < 20 := by have := (jj_n J).2.1; omega
  have hN100 : 100 ≤ N := by
    have := pow_up (a := 0) (b := 12 * M) (by omega)
    rw [Nat.pow_zero] at this
    omega
  have hcnt := (jj_wc J hc).1.2.2
  have hsp : spq S c (S.1 17 c) 0 ≤ 2 := by
    have h := spq_cnt (S := S) (c := c) (S.1 17 c) 0
    rw [Nat.zero_add] at h
    have z : cnt (fun p => spread (S.1 2 (S.1 18 (10 * c + p)))) 0 = 0 := rfl
    omega
  have hwd : wid S c (S.1 17 c) 0 ≤ 64 := Nat.le_trans (wid_le J hc (S.1 17 c) 0 (by omega)).2 (Nat.le_trans (Nat.pow_le_pow_right (by decide) hsp) (by decide))
  generalize hT4 : tsD (tsI (tsI (tsI T 34 0 (0 : Int32)) 39 0 (i32 c)) 40 0 (0 : Int32)) 41 0 (dv (cso S c) x) = T4
  have f4 : Fg T T4 := by rw [← hT4]; exact (((fg_I (by decide)).trans (fg_I (by decide))).trans (fg_I (by decide))).trans (fg_D (by decide))
  have hh : Here 0 c 0 x S T4 := by
    rw [← hT4]
    refine ⟨?_, ?_, tsD_eq, hv, ?_⟩
    · show (tsI (tsI (tsI T 34 0 (0 : Int32)) 39 0 (i32 c)) 40 0 (0 : Int32)).1 39 0 = _
      rw [tsI_ne (by decide), tsI_eq]
    · show (tsI (tsI (tsI T 34 0 (0 : Int32)) 39 0 (i32 c)) 40 0 (0 : Int32)).1 40 0 = _
      rw [tsI_eq]; rfl
    · show (tsI (tsI (tsI T 34 0 (0 : Int32)) 39 0 (i32 c)) 40 0 (0 : Int32)).1 34 0 = _
      rw [tsI_ne (by decide), tsI_ne (by decide), tsI_eq]; rfl
  have J4 : JJ G (E + 64) B bx m ad S A C T4 := jj_mono (jj_T J (rt_Fg (jj_rt J) f4)) (by omega)
  obtain ⟨out, cost, S', C', T', g1, g2, g3, g4, g5, g6, g7, g8, -⟩ := send_ok (G := G) (E := E + 64) (B := B) (bx := bx) (m := m) (ad := ad) (A := A) (N := N) (root := c) hN100 c20 M (S.1 17 c) 0 c 0 0 S C T4 x J4 hc (Nat.le_refl c) (by omega) h17 hh (Nat.le_refl 0) (by omega) (by omega) (fun d hd _ => room_up (jj_wc J hd).2.2.2.2.2.2 hwd hE)
  have hcost : cost + 1 ≤ N := by
    have a := pow_up (a := 12 * M - 2) (b := 12 * M) (by omega)
    have b := pow_one (12 * M - 2)
    generalize 100 ^ (12 * M - 2) = X at *
    generalize 100 ^ (12 * M) = Y at *
    omega
  obtain ⟨k, hk⟩ : ∃ k, N = (k + 1) + cost := ⟨N - 1 - cost, by omega⟩
  refine ⟨out, S', C', T', g1, ?_, g4, g5⟩
  unfold h_R_goes
  simp only [jlet]
  rw [hT4]
  have e : h_R_goes_26 N N (i32 c) 0 true T4 = h_R_goes_26 N ((k + 1) + cost) (i32 c) 0 true T4 := by rw [← hk]
  rw [e, g2, if_pos rfl]
  unfold h_R_goes_113 h_R_goesOn
  rw [g8, if_pos (show i32 0 = (0 : Int32) from rfl), tbd2_some]
  show (if false = true then _ else some ((0 : Int32) + i32 out, T')) = _
  rw [if_neg (by decide), Int32.zero_add]
theorem mem0_so (J : JJ G E B bx m ad S A C T) (hc : c < S.1 16 0) (h17 : S.1 17 c ≠ 0) : cso S c < 3 := by
  obtain ⟨h1, h2, -⟩ := mem_r J hc (p := 0) (by omega)
  rw [← h2]
  exact so_lt J h1
theorem sim_feed {N M : Nat} (hM : 30 ≤ M) (hN : 100 ^ (12 * M) ≤ N) (hE : E + 6400 ≤ 4000000) : ls_8 N M bx (II G E B bx m ad) (II G (E + 6400) B bx m ad) := by
  rintro C T v b ⟨S, A, J⟩
  have hb := jj_b J
  have ho : cob C bx 0 = true := cob_of (rb_tag hb)
  rcases fed_of J v with ⟨c, hc, rfl, h17, e1, e2⟩ | ⟨e1, e2⟩
  · have h3 := mem0_so J hc h17
    obtain ⟨s1, s2⟩ := sort_of J hc
    rw [if_neg h17] at s1 s2
    have hct := cob_of (ci := 1) (rc_tag (jj_c J hc))
    by_cases hh : hold (cso S c) b
    · obtain ⟨out, S', C', T', g1, g2, g3, -⟩ := go_ref hM hN J hc h17 (clean_vb hh) (by omega)
      refine ⟨i32 out, C', T', ?_, ?_, S', A, jj_mono g3 (by omega)⟩
      · unfold c_B_feed
        rw [ho, jgd_true, e1, obd_some, jon_some, hct, jgd_true, s1, obd_some, jgd_true, numbersOf_some hb h3, obd_some, jon_some, (nums_holds hb h3 b).1 hh, obd_some, if_pos (show true = true from rfl), nums_clean hb h3 b, obd_some, g1, cbd2_some]
      · unfold h_R_feed
        rw [e2, obd_some, if_pos (show true = true from rfl), s2, obd_some, if_pos ((isValue_hold b h3).mpr hh), obd_some, valueOf_clean h3 hh, obd_some, g2, tbd2_some]
    · refine ⟨-1, C, T, ?_, ?_, S, A, jj_mono J (by omega)⟩
      · unfold c_B_feed
        rw [ho, jgd_true, e1, obd_some, jon_some, hct, jgd_true, s1, obd_some, jgd_true, numbersOf_some hb h3, obd_some, jon_some, (nums_holds hb h3 b).2 hh, obd_some]
        rfl
      · unfold h_R_feed
        rw [e2, obd_some, if_pos (show true = true from rfl), s2, obd_some, if_neg (fun q => hh ((isValue_hold b h3).mp q))]
  · refine ⟨-1, C, T, ?_, ?_, S, A, jj_mono J (by omega)⟩
    · unfold c_B_feed
      rw [ho, jgd_true, e1, obd_some]
      rfl
    · unfold h_R_feed
      rw [e2, obd_some, if_neg (by decide)]
end FEED
