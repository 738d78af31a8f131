/-! feed of such a chain, told out -/
section FEEDF
variable {G : GT} {E B bx m c : Nat} {ad : Nat → Nat} {S S' : ST} {A : AT} {C C' : CT} {x : Int64} {P : PA} {X : CY}
theorem turns_fix {N : Nat} {kS : Option Nat → Int32 → Int64 → Int32 → CT → Option (Int32 × CT)} {dep : Int32} (hN : 100 ≤ N) : ∀ (q g k : Nat) (S : ST) (C : CT) (X : CY) (x : Int64), JF G E B bx m ad S A C → PC S c P → VX S c P.1.1 X → k + q = P.1.1 → vb 2 x →
    ∃ S' C', c_B_send_15 N kS (g + q) (some (A 1 c)) dep x (i32 k) C = c_B_send_15 N kS g (some (A 1 c)) dep (aC P q k X x).1 (i32 P.1.1) C' ∧ JF G E B bx m ad S' A C' ∧ Dy S S' ∧ S'.1 28 = S.1 28 ∧ VX S' c P.1.1 (aC P q k X x).2 ∧ vb 2 (aC P q k X x).1
  | 0, g, k, S, C, X, x, J, hP, hX, hk, hv => by
    have : k = P.1.1 := by omega
    subst this
    exact ⟨S, C, rfl, J, Dy.refl S, rfl, hX, hv⟩
  | q + 1, g, k, S, C, X, x, J, hP, hX, hk, hv => by
    obtain ⟨S1, C1, u1, u2, u3, u4, u5, u6⟩ := turn_fix (N := N) (nn := g + q) (kS := kS) (dep := dep) hN J hP hX (show k < P.1.1 by omega) hv
    obtain ⟨S2, C2, v1, v2, v3, v4, v5, v6⟩ := turns_fix hN q g (k + 1) S1 C1 (aX P X k x) (aT P X k x).1 u2 (pc_dy hP u3) u5 (by omega) u6
    exact ⟨S2, C2, u1.trans v1, v2, u3.trans v3, v4.trans u4, v5, v6⟩
/-- what comes of a sample, and what the chain holds then -/
def aF (P : PA) (X : CY) (x : Int64) : Int64 × CY := aC P P.1.1 0 X x
theorem send_fix {N M : Nat} (hN : 100 ≤ N) (J : JF G E B bx m ad S A C) (hP : PC S c P) (hX : VX S c P.1.1 X) (hv : vb 2 x) (hE : S.1 28 c + 1 ≤ min E 4000000) :
    ∃ S' C', c_B_send N (M + 1) (some (A 1 c)) (0 : Int32) x (0 : Int32) C = some (1, C') ∧ JF G E B bx m ad S' A C' ∧ Dy S S' ∧ VX S' c P.1.1 (aF P X x).2 ∧ vb 2 (aF P X x).1 ∧ S'.1 28 c = S.1 28 c + 1 ∧ S'.2.1 27 (400 * c + S.1 28 c % 400) = (aF P X x).1 ∧ (∀ d, d ≠ c → S'.1 28 d = S.1 28 d) := by
  obtain ⟨⟨hc, h17, h0, h20, h19⟩, hm, hl0, hl1⟩ := id hP
  have h10 := (jj_wc J hc).1.1
  obtain ⟨g, rfl⟩ : ∃ g, N = g + 1 + P.1.1 := ⟨N - 1 - P.1.1, by omega⟩
  obtain ⟨S1, C1, u1, u2, u3, u4, u5, u6⟩ := turns_fix (N := g + 1 + P.1.1) (kS := c_B_send (g + 1 + P.1.1) M) (dep := i32 0) hN P.1.1 (g + 1) 0 S C X x J hP hX (by omega) hv
  have hP1 := pc_dy hP u3
  obtain ⟨⟨hc1, h171, -, -, -⟩, hm1, -, -⟩ := id hP1
  have hso1 : cso S1 c = 2 := (hm1 0 h0).1
  obtain ⟨d1, J2⟩ := jj_emit (v := (aC P P.1.1 0 X x).1) u2 hc1 (by omega) (by rw [hso1]; exact u6) (by rw [u4]; exact hE)
  have d2 := d1.dy
  refine ⟨_, _, ?_, jf_of J2, u3.trans d2, ⟨fun k hk => ?_, ?_, ?_⟩, u6, ?_, ?_, fun d hd => ?_⟩
  · show c_B_send_b _ _ _ _ _ _ _ = _
    unfold c_B_send_b
    rw [if_pos (by decide), show (0 : Int32) = i32 0 from rfl, u1]
    show obd (some (A 1 c)) _ = _
    rw [obd_some, rc_size (jj_c u2 hc1), obd_some, h171, if_pos (Int32.le_refl _), cob_of (ci := 1) (rc_tag (jj_c u2 hc1)), jgd_true, emit_cls u2 hc1, obd_some]
  · show _ = (aC P P.1.1 0 X x).2.1 k
    rw [d2.1 18 (by decide), ← u5.1 k hk]
    unfold vS
    rfl
  · show _ = (aC P P.1.1 0 X x).2.2.1
    rw [← u5.2.1]; rfl
  · show _ = (aC P P.1.1 0 X x).2.2.2
    rw [← u5.2.2]; rfl
  · rw [emS_28, u4]
  · rw [emS_27, u4, if_pos rfl]
    rfl
  · rw [← u4]
    exact up2_j _ _ _ hd
theorem fed_fix (J : JF G E B bx m ad S A C) (hc : c < S.1 16 0) (h17 : S.1 17 c ≠ 0) (h19 : S.1 19 c = 0) : c_B_fedAlone bx (i32 c) C = some (some (A 1 c)) := by
  have h10 := (jj_wc J hc).1.1
  have n0 : ¬ i32 (S.1 17 c) = 0 := i32_ne (b := 0) (by omega) (by decide) h17
  unfold c_B_fedAlone
  rw [cob_of (rb_tag (jj_b J)), jgd_true, chAt_some J hc, obd_some, jon_some, rc_size (jj_c J hc), obd_some, if_neg n0, rc_holder (jj_c J hc), obd_some, h19]
  rfl
theorem feed_fix {N M : Nat} (hN : 100 ≤ N) (J : JF G E B bx m ad S A C) (hP : PC S c P) (hX : VX S c P.1.1 X) (hv : vb 2 x) (hE : S.1 28 c + 1 ≤ min E 4000000) :
    ∃ S' C', c_B_feed N (M + 1) bx (i32 c) x C = some (1, C') ∧ JF G E B bx m ad S' A C' ∧ Dy S S' ∧ VX S' c P.1.1 (aF P X x).2 ∧ vb 2 (aF P X x).1 ∧ S'.1 28 c = S.1 28 c + 1 ∧ S'.2.1 27 (400 * c + S.1 28 c % 400) = (aF P X x).1 ∧ (∀ d, d ≠ c → S'.1 28 d = S.1 28 d) := by
  obtain ⟨⟨hc, h17, h0, h20, h19⟩, hm, hl0, hl1⟩ := id hP
  have hso : cso S c = 2 := (hm 0 h0).1
  have hb := jj_b J
  obtain ⟨s1, -⟩ := sort_of J hc
  rw [if_neg (by omega), hso] at s1
  obtain ⟨S', C', u1, u2⟩ := send_fix (M := M) hN J hP hX hv hE
  refine ⟨S', C', ?_, u2⟩
  have hh : hold 2 x := hv
  have hcl : clean 2 x = x := rfl
  unfold c_B_feed
  rw [cob_of (rb_tag hb), jgd_true, fed_fix J hc (by omega) h19, obd_some, jon_some, cob_of (ci := 1) (rc_tag (jj_c J hc)), jgd_true, s1, obd_some, jgd_true, numbersOf_some hb (by decide), obd_some, jon_some, (nums_holds hb (by decide) x).1 hh, obd_some, if_pos (show true = true from rfl), nums_clean hb (by decide) x, obd_some, hcl, u1, cbd2_some]
end FEEDF
