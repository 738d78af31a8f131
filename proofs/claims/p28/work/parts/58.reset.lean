/-! reset -/
section RESET
variable {G : GT} {E B bx m s l c c0 : Nat} {ad : Nat → Nat} {S : ST} {A : AT} {C : CT} {T : MT}
def rsq (t : TR) : Nat → Nat → ST → ST
  | 0, _, S => S
  | q + 1, i, S => rsq t q (i + 1) (chz S (t.2 i))
theorem reset21_go {N : Nat} (hN : 100 ≤ N) {t : TR} (h20 : t.1 ≤ 20) : ∀ (q n i : Nat) (S : ST) (C : CT), JJ G E B bx m ad S A C (tOf S) → TH A C t → (∀ a, a < t.1 → t.2 a < S.1 16 0) → t.1 = i + q → q < n →
    ∃ C1, c_B_reset_21 N n bx (i32 t.1) (i32 i) C = some (true, C1) ∧ JJ G E B bx m ad (rsq t q i S) A C1 (tOf (rsq t q i S))
  | 0, 0, _, _, _, _, _, _, _, h => absurd h (by omega)
  | 0, n + 1, i, S, C, J, hH, hc, hi, _ => by
    refine ⟨C, ?_, J⟩
    unfold c_B_reset_21
    rw [if_pos (by rw [i32_le (by omega) (by omega)]; omega)]
  | q + 1, 0, _, _, _, _, _, _, _, h => absurd h (by omega)
  | q + 1, n + 1, i, S, C, J, hH, hc, hi, hn => by
    have hb := jj_b J
    have hci := hc i (by omega)
    obtain ⟨C1, u1, u2, u3⟩ := chz_class hN J hci
    have e16 : (chz S (t.2 i)).1 16 = S.1 16 := chz_dy.1 16 (by decide)
    obtain ⟨C2, v1, v2⟩ := reset21_go hN h20 q n (i + 1) _ C1 u2 (fun a ha => by rw [u3]; exact hH a ha) (fun a ha => by rw [e16]; exact hc a ha) (by omega) (by omega)
    refine ⟨C2, ?_, v2⟩
    have hca : caA C (A 3 3) 1 (i32 i) = some (some (A 1 (t.2 i))) := by
      rw [caA_of (ci := 1) (n := 20) hb.2.2.2.2.2.2.1.1 (by decide) hb.2.2.2.2.2.2.1.2 (by omega) (by decide), hH i (by omega)]
    unfold c_B_reset_21
    rw [if_neg (by rw [i32_le (by omega) (by omega)]; omega), rb_tree hb, obd_some, obd_some, cal_of (n := 20) (by rw [hb.2.2.2.2.2.2.1.1]; decide) hb.2.2.2.2.2.2.1.2, obd_some, if_neg (by rw [i32_le (by omega) (by omega)]; omega), obd_some, obd_some, hca, obd_some, jon_some, obd_some, obd_some, hca, obd_some, obd_some, cob_of (rc_tag (jj_c J hci)), jgd_true, u1, obd_some]
    unfold c_B_reset_57
    rw [show i32 i + 1 = i32 (i + 1) from i32_add i 1]
    exact v1
/-- what the reference needs to know of a tree -/
def TS (S : ST) (t : TR) : Prop := t.1 ≤ 20 ∧ ∀ a, a < t.1 → t.2 a < 20 ∧ S.1 17 (t.2 a) ≤ 10 ∧ S.1 20 (t.2 a) ≤ 3 ∧ ∀ p, p < S.1 17 (t.2 a) → S.1 18 (10 * t.2 a + p) < 60
theorem ts_dy {S' : ST} {t : TR} (h : TS S t) (hd : Dy S S') : TS S' t := by
  unfold TS
  rw [hd.1 17 (by decide), hd.1 18 (by decide), hd.1 20 (by decide)]
  exact h
theorem ts_of (J : JJ G E B bx m ad S A C T) {t : TR} {i p : Nat} (h : TI S c0 t i p) (h0 : c0 < S.1 16 0) : TS S t := by
  have h20 := (jj_n J).2.1
  have h60 := (jj_n J).1
  refine ⟨ti_bound h h0 h20, fun a ha => ?_⟩
  have hc : t.2 a < S.1 16 0 := by have := h.2.1 a ha; omega
  have w := (jj_wc J hc).1
  exact ⟨by omega, w.1, w.2.1, fun p hp => by have := places_lt J hc hp; omega⟩
theorem reset17_go {N : Nat} (hN : 100 ≤ N) {t : TR} : ∀ (q n i : Nat) (S : ST) (T : MT), RT S T → TM T t → TS S t → t.1 = i + q → q < n →
    ∃ T1, h_R_reset_17 N n (i32 i) T = some (true, T1) ∧ RT (rsq t q i S) T1
  | 0, 0, _, _, _, _, _, _, _, h => absurd h (by omega)
  | 0, n + 1, i, S, T, hR, hM, hs, hi, _ => by
    have := hs.1
    refine ⟨T, ?_, hR⟩
    unfold h_R_reset_17
    rw [hM.1, if_pos (by rw [i32_le (by omega) (by omega)]; omega)]
  | q + 1, 0, _, _, _, _, _, _, _, h => absurd h (by omega)
  | q + 1, n + 1, i, S, T, hR, hM, hs, hi, hn => by
    have := hs.1
    obtain ⟨s1, s2, s3, s4⟩ := hs.2 i (by omega)
    obtain ⟨T1, u1, u2, u3⟩ := chz_ref (N := N) hN hR s1 s2 s3 s4
    obtain ⟨T2, v1, v2⟩ := reset17_go hN q n (i + 1) _ T1 u2 ⟨by rw [u3.1 42 (by decide)]; exact hM.1, fun a ha => by rw [u3.1 43 (by decide)]; exact hM.2 a ha⟩ (ts_dy hs chz_dy) (by omega) (by omega)
    refine ⟨T2, ?_, v2⟩
    unfold h_R_reset_17
    rw [hM.1, if_neg (by rw [i32_le (by omega) (by omega)]; omega), jrg_i32 (by omega) (by decide), obd_some, hM.2 i (by omega), u1, obd_some, show i32 i + 1 = i32 (i + 1) from i32_add i 1]
    exact v1
theorem sim_reset {N M : Nat} (hN : 100 ≤ N) : ls_14 N M bx (II G E B bx m ad) (II G E B bx m ad) := by
  rintro C T v ⟨S, A, J⟩
  rcases ch_or J v with ⟨c, hc, rfl, hq, hk⟩ | ⟨hq, hk⟩
  · obtain ⟨C1, u1, u2, u3, u4⟩ := gather_of hN J hc
    obtain ⟨T1, v1, v2, v3, -⟩ := trees_of hN J hc
    have hts := ts_of J u4 hc
    obtain ⟨C2, w1, w2⟩ := reset21_go hN hts.1 (tre S c).1 N 0 S C1 (jj_T u2 (rt_tOf S)) u3 (fun a ha => by have := u4.2.1 a ha; omega) (by omega) (by have := hts.1; omega)
    obtain ⟨T2, x1, x2⟩ := reset17_go hN (tre S c).1 N 0 S T1 v2 v3 hts (by omega) (by have := hts.1; omega)
    refine ⟨true, C2, T2, ?_, ?_, _, A, jj_T w2 x2⟩
    · unfold c_B_reset
      rw [cob_of (rb_tag (jj_b J)), jgd_true, hk, obd_some, jon_some, jgd_true, u1, cbd2_some]
      exact w1
    · unfold h_R_reset
      rw [hq, obd_some, if_pos rfl, v1, obd_some]
      exact x1
  · refine ⟨false, C, T, ?_, ?_, S, A, J⟩
    · unfold c_B_reset
      rw [cob_of (rb_tag (jj_b J)), jgd_true, hk, obd_some]
      rfl
    · unfold h_R_reset
      rw [hq, obd_some, if_neg (by decide)]
end RESET
