/-! sections with rings at work -/
section RINGS
variable {G : GT} {E B bx m s : Nat} {ad : Nat → Nat} {S : ST} {A : AT} {C : CT} {T : MT} {x v : Int64}
theorem ring_r (J : JJ G E B bx m ad S A C T) (hs : s < S.1 1 0) (hk : ringy (S.1 2 s) = true) : S.1 14 s < rln S s ∧ S.1 70 s < rln S s ∧ S.2.2 4 s = i32 (rln S s) ∧ 1 ≤ rln S s ∧ rln S s ≤ 64 ∧ vso S s = S.1 3 s := by
  have hd := ds_of (jj_s J hs)
  obtain ⟨l0, l1, l2⟩ := ring_len J hs hk
  have k12 : S.1 2 s ≠ 12 := fun q => by rw [q] at hk; exact absurd hk (by decide)
  exact ⟨by rcases hd.2.2.2.2.2.2.2.1 with h | h <;> omega, by rcases hd.2.2.2.2.2.2.1 with h | h <;> omega, l0, l1, l2, vso_ne k12⟩
theorem rings_ref (J : JJ G E B bx m ad S A C T) (hs : s < S.1 1 0) (hk : ringy (S.1 2 s) = true) : h_R_rings (i32 s) (dv (S.1 3 s) v) T = some (dv (S.1 3 s) (S.2.1 13 (64 * s + S.1 14 s)), tsI (tsD T 13 (64 * s + S.1 14 s) (dv (S.1 3 s) v)) 14 s (i32 ((S.1 14 s + 1) % rln S s))) := by
  obtain ⟨r1, r2, r3, r4, r5, r6⟩ := ring_r J hs hk
  have hs60 : s < 60 := by have := (jj_n J).1; omega
  have e60 : jrg 60 (i32 s) = some s := jrg_i32 hs60 (by decide)
  have e14 : T.1 14 s = i32 (S.1 14 s) := jj_N J 14 (by decide) s
  have e4 : T.1 4 s = i32 (rln S s) := by rw [jj_I J 4 (by decide), r3]
  have ed : T.2.2.1 13 (64 * s + S.1 14 s) = dv (S.1 3 s) (S.2.1 13 (64 * s + S.1 14 s)) := by
    have h := (jj_rt J).2.2.2.2.2.2.1 (64 * s + S.1 14 s)
    rw [show (64 * s + S.1 14 s) / 64 = s by omega, r6] at h
    exact h
  unfold h_R_rings
  rw [e60, obd_some, obd_some, e14]
  simp only [jlet]
  rw [show (64 : Int32) * i32 s + i32 (S.1 14 s) = i32 (64 * s + S.1 14 s) from by rw [show (64 : Int32) = i32 64 from rfl, i32_mul, i32_add], jrg_i32 (by omega) (by decide), obd_some, obd_some, obd_some]
  have e14' : (tsD T 13 (64 * s + S.1 14 s) (dv (S.1 3 s) v)).1 14 s = i32 (S.1 14 s) := e14
  rw [e14', e4, show i32 (S.1 14 s) + 1 = i32 (S.1 14 s + 1) from i32_add _ 1, jrem_i32 (by omega) (by omega) (by omega), obd_some, obd_some, ed]
theorem pu_dys : Dys S (puS S s v) s ∨ 64 ≤ S.1 14 s := by
  by_cases h : S.1 14 s < 64
  · refine Or.inl ⟨fun k j h1 => ?_, fun k j h1 h2 => ?_, fun _ _ _ => rfl⟩
    · show up2 (up2 S.1 70 s ((S.1 70 s + 1) % rln S s)) 14 s ((S.1 14 s + 1) % rln S s) k j = _
      unfold up2
      rw [if_neg (fun q => h1 ⟨Or.inl q.1, q.2⟩), if_neg (fun q => h1 ⟨Or.inr q.1, q.2⟩)]
    · show up2 S.2.1 13 (64 * s + S.1 14 s) v k j = _
      unfold up2
      rw [if_neg (fun q => h2 ⟨q.1, by omega, by omega⟩)]
  · exact Or.inr (by omega)
theorem pu_dys' (h : S.1 14 s < 64) : Dys S (puS S s v) s := by
  rcases pu_dys (S := S) (s := s) (v := v) with q | q
  · exact q
  · omega
theorem at_ring (J : JJ G E B bx m ad S A C T) (hs : s < S.1 1 0) (hk : ringy (S.1 2 s) = true) : c_Row_at (A 118 s) (0 : Int32) C = some (S.2.1 13 (64 * s + S.1 14 s)) := by
  obtain ⟨r1, r2, r3, r4, r5, r6⟩ := ring_r J hs hk
  have h := at_of (k := 0) J hs (by omega)
  rw [Nat.add_zero, Nat.mod_eq_of_lt r1] at h
  exact h
theorem wk_6 {N : Nat} (J : JJ G E B bx m ad S A C T) (hs : s < S.1 1 0) (hk : S.1 2 s = 6) (hv : vb (S.1 3 s) x) : ∃ y S' C' T', c_Section_delayed (A 7 s) x C = some (y, C') ∧ h_R_works N (i32 s) (dv (S.1 3 s) x) T = some (dv (S.1 3 s) y, T') ∧ JJ G E B bx m ad S' A C' T' ∧ vb (S.1 3 s) y ∧ Dys S S' s ∧ Mf T T' := by
  have hrg : ringy (S.1 2 s) = true := by rw [hk]; rfl
  obtain ⟨r1, r2, r3, r4, r5, r6⟩ := ring_r J hs hrg
  have hs60 : s < 60 := by have := (jj_n J).1; omega
  have e60 : jrg 60 (i32 s) = some s := jrg_i32 hs60 (by decide)
  have ek : T.1 2 s = i32 6 := by rw [jj_N J 2 (by decide), hk]
  have hr := jj_s J hs
  obtain ⟨u1, u2⟩ := jj_push J hs hrg hv
  refine ⟨S.2.1 13 (64 * s + S.1 14 s), _, _, _, ?_, ?_, u2, by rw [← r6]; exact st_vb J hs (by omega), pu_dys' (by omega), Mf.trans (mf_D (by decide)) (mf_I (by decide))⟩
  · unfold c_Section_delayed
    simp only [rs_states hr, cob_of (ci := 6) hr.2.2.2.1, at_ring J hs hrg, u1, obd_some, jgd_true]
  · unfold h_R_works
    rw [e60, obd_some, ek, if_neg (by decide : ¬ (i32 6 : Int32) = 0), if_neg (by decide : ¬ (i32 6 : Int32) = 1), if_neg (by decide : ¬ (i32 6 : Int32) = 2), if_neg (by decide : ¬ (i32 6 : Int32) = 3), if_neg (by decide : ¬ (i32 6 : Int32) = 4), if_neg (by decide : ¬ (i32 6 : Int32) = 5), if_pos (by rfl : (i32 6 : Int32) = 6), rings_ref J hs hrg, tbd2_some]
theorem wk_8 {N : Nat} (J : JJ G E B bx m ad S A C T) (hs : s < S.1 1 0) (hk : S.1 2 s = 8) (hv : vb (S.1 3 s) x) : ∃ y S' C' T', c_Section_comb (A 7 s) x C = some (y, C') ∧ h_R_works N (i32 s) (dv (S.1 3 s) x) T = some (dv (S.1 3 s) y, T') ∧ JJ G E B bx m ad S' A C' T' ∧ vb (S.1 3 s) y ∧ Dys S S' s ∧ Mf T T' := by
  have hrg : ringy (S.1 2 s) = true := by rw [hk]; rfl
  obtain ⟨r1, r2, r3, r4, r5, r6⟩ := ring_r J hs hrg
  have h3 := so_lt J hs
  have hs60 : s < 60 := by have := (jj_n J).1; omega
  have e60 : jrg 60 (i32 s) = some s := jrg_i32 hs60 (by decide)
  have ek : T.1 2 s = i32 8 := by rw [jj_N J 2 (by decide), hk]
  have hr := jj_s J hs
  have hb := jj_b J
  have c_0 := cf_vb J hs (k := 0) (by decide)
  have s_0 : vb (S.1 3 s) (S.2.1 13 (64 * s + S.1 14 s)) := by rw [← r6]; exact st_vb J hs (by omega)
  obtain ⟨B0, ab, mb, fb⟩ := begins_ref (jj_rt J) hs60
  obtain ⟨U0, a0, m0, f0⟩ := term2_ref h3 mb (by decide) hv (fun _ _ => rfl)
  have m0 : MS U0 s (S.1 3 s) 1 (tmB (S.1 3 s) x) := m0
  have JU0 := jj_T J (rt_Sc (jj_rt J) (fb.trans f0))
  have rc : h_R_c (i32 s) (0 : Int32) U0 = some (dv (S.1 3 s) (S.2.1 7 (5 * s + 0))) := coef_dv JU0 hs (j := 0) (by decide)
  have e14 : U0.1 14 s = i32 (S.1 14 s) := jj_N JU0 14 (by decide) s
  have rs : h_R_st (i32 s) (i32 (S.1 14 s)) U0 = some (dv (S.1 3 s) (S.2.1 13 (64 * s + S.1 14 s))) := by
    have h := st_dv JU0 hs (k := S.1 14 s) (by omega)
    rw [r6] at h; exact h
  obtain ⟨U1, a1, m1, f1⟩ := term_ref h3 m0 (by decide) c_0 s_0 (off := false) (fun q => absurd q (by decide))
  have m1 : MS U1 s (S.1 3 s) 2 (plB (S.1 3 s) (tmB (S.1 3 s) x) (prB (S.1 3 s) (S.2.1 7 (5 * s + 0)) (S.2.1 13 (64 * s + S.1 14 s)))) := m1
  obtain ⟨y, S1, C1, T1, uc, ur, J1, vy, sl, mf⟩ := settle (jj_T J (rt_Sc (jj_rt J) (fb.trans (f0.trans f1)))) hs rfl m1 (by decide)
  have p1 : S1.1 = S.1 := sl.1
  have hs1 : s < S1.1 1 0 := by rw [p1]; exact hs
  have hrg1 : ringy (S1.1 2 s) = true := by rw [p1]; exact hrg
  obtain ⟨v1, v2⟩ := jj_push (v := y) J1 hs1 hrg1 (by rw [p1]; exact vy)
  have rr := rings_ref (v := y) J1 hs1 hrg1
  rw [p1] at rr
  have hr1 := jj_s J1 hs1
  have tc : c_Section_times (A 7 s) (0 : Int32) (S.2.1 13 (64 * s + S.1 14 s)) C = some (prB (S.1 3 s) (S.2.1 7 (5 * s + 0)) (S.2.1 13 (64 * s + S.1 14 s))) := times_of (k := 0) J hs (by rw [hk]; decide) (fun _ => s_0)
  have tt := nums_term (so := S.1 3 s) hb h3 x
  have pl := nums_plus (so := S.1 3 s) hb h3 (c := tmB (S.1 3 s) x) (v := prB (S.1 3 s) (S.2.1 7 (5 * s + 0)) (S.2.1 13 (64 * s + S.1 14 s))) (fun h2 => by rw [show tmB (S.1 3 s) x = x from if_pos h2]; exact hv) (fun h2 => prB_vb h2 _ _)
  refine ⟨y, _, _, _, ?_, ?_, v2, vy, sl.dys.trans (pu_dys' (by rw [p1]; omega)), (Sc.mf (fb.trans (f0.trans f1))).trans (mf.trans (Mf.trans (mf_D (by decide)) (mf_I (by decide))))⟩
  · unfold c_Section_comb
    simp only [rs_numbers hr, rs_states hr, cob_of (ci := 7) (rs_tag hr), cob_of (ci := 6) hr.2.2.2.1, at_ring J hs hrg, tc, tt, pl, uc, rs_states hr1, cob_of (ci := 6) hr1.2.2.2.1, v1, obd_some, jgd_true, cbd2_some]
  · unfold h_R_works
    rw [e60, obd_some, ek, if_neg (by decide : ¬ (i32 8 : Int32) = 0), if_neg (by decide : ¬ (i32 8 : Int32) = 1), if_neg (by decide : ¬ (i32 8 : Int32) = 2), if_neg (by decide : ¬ (i32 8 : Int32) = 3), if_neg (by decide : ¬ (i32 8 : Int32) = 4), if_neg (by decide : ¬ (i32 8 : Int32) = 5), if_neg (by decide : ¬ (i32 8 : Int32) = 6), if_neg (by decide : ¬ (i32 8 : Int32) = 7), if_pos (by rfl : (i32 8 : Int32) = 8)]
    simp only [ab, a0, rc, e14, rs, a1, ur, obd_some, tbd2_some]
    rw [rr, tbd2_some, p1]
/-- the sum of a MEAN's latest -/
def mAc (so : Nat) (f : Nat → Int64) : Nat → Int64
  | 0 => 0
  | k + 1 => if k = 0 then tmB so (f 0) else plB so (mAc so f k) (tmB so (f k))
theorem mAc_vb {so : Nat} {f : Nat → Int64} (h2 : so < 2) (hf : vb so (f 0)) : ∀ k, 1 ≤ k → vb so (mAc so f k)
  | 0, h => absurd h (by decide)
  | k + 1, _ => by
    show vb so (if k = 0 then tmB so (f 0) else plB so (mAc so f k) (tmB so (f k)))
    split
    · rw [show tmB so (f 0) = f 0 from if_pos h2]; exact hf
    · exact plB_vb h2 _ _
def mfn (S : ST) (s k : Nat) : Int64 := S.2.1 13 (64 * s + (S.1 14 s + k) % rln S s)
theorem mean_ref {N : Nat} (J : JJ G E B bx m ad S A C (tOf S)) (hs : s < S.1 1 0) (hk : S.1 2 s = 7) : ∀ (q n k : Nat) (T : MT), RT S T → MS T s (S.1 3 s) k (mAc (S.1 3 s) (mfn S s) k) → k + q = rln S s → q < n →
    ∃ T1, h_R_works_620 N n (i32 s) (i32 k) T = h_R_works_620 N (n - q) (i32 s) (i32 (rln S s)) T1 ∧ 0 < n - q ∧ MS T1 s (S.1 3 s) (rln S s) (mAc (S.1 3 s) (mfn S s) (rln S s)) ∧ Sc T T1
  | 0, n, k, T, hR, hm, hq, hn => by
    have : k = rln S s := by omega
    subst this
    exact ⟨T, rfl, by omega, hm, Sc.refl T⟩
  | q + 1, 0, _, _, _, _, _, h => absurd h (by omega)
  | q + 1, n + 1, k, T, hR, hm, hq, hn => by
    have hrg : ringy (S.1 2 s) = true := by rw [hk]; rfl
    obtain ⟨r1, r2, r3, r4, r5, r6⟩ := ring_r J hs hrg
    have h3 := so_lt J hs
    have hs60 : s < 60 := by have := (jj_n J).1; omega
    have e60 : jrg 60 (i32 s) = some s := jrg_i32 hs60 (by decide)
    have JT := jj_T J hR
    have hm64 := Nat.mod_lt (S.1 14 s + k) (show 0 < rln S s by omega)
    have hv : vb (S.1 3 s) (mfn S s k) := by rw [← r6]; exact st_vb J hs (by omega)
    obtain ⟨T1, u1, u2, u3⟩ := term2_ref h3 hm (by omega) hv (fun q _ => by rw [q]; rfl)
    have u2 : MS T1 s (S.1 3 s) (k + 1) (mAc (S.1 3 s) (mfn S s) (k + 1)) := by
      have e : (if k = 0 then tmB (S.1 3 s) (mfn S s k) else plB (S.1 3 s) (mAc (S.1 3 s) (mfn S s) k) (tmB (S.1 3 s) (mfn S s k))) = mAc (S.1 3 s) (mfn S s) (k + 1) := by
        show _ = (if k = 0 then tmB (S.1 3 s) (mfn S s 0) else plB (S.1 3 s) (mAc (S.1 3 s) (mfn S s) k) (tmB (S.1 3 s) (mfn S s k)))
        by_cases k0 : k = 0
        · rw [if_pos k0, if_pos k0, k0]
        · rw [if_neg k0, if_neg k0]
      rw [e] at u2; exact u2
    obtain ⟨T2, v1, v2, v3, v4⟩ := mean_ref J hs hk q n (k + 1) T1 (rt_Sc hR u3) u2 (by omega) (by omega)
    refine ⟨T2, ?_, by omega, v3, u3.trans v4⟩
    have rs : h_R_st (i32 s) (i32 ((S.1 14 s + k) % rln S s)) T = some (dv (S.1 3 s) (mfn S s k)) := by
      have h := st_dv JT hs (k := (S.1 14 s + k) % rln S s) (by omega)
      rw [r6] at h; exact h
    rw [show n + 1 - (q + 1) = n - q by omega, ← v1]
    conv => lhs; unfold h_R_works_620
    rw [e60, obd_some, jj_I JT 4 (by decide), r3, if_neg (by rw [i32_le (by omega) (by omega)]; omega), obd_some, obd_some, jj_N JT 14 (by decide), i32_add, jj_I JT 4 (by decide), r3, jrem_i32 (by omega) (by omega) (by omega), obd_some, rs, obd_some, u1, obd_some, show i32 k + 1 = i32 (k + 1) from i32_add k 1]
theorem mean_cls {N : Nat} (J : JJ G E B bx m ad S A C T) (hs : s < S.1 1 0) (hk : S.1 2 s = 7) : ∀ (q n k : Nat), 1 ≤ k → k + q = rln S s → q < n →
    c_Section_mean_27 N n (A 7 s) (mAc (S.1 3 s) (mfn S s) k) (i32 k) C = c_Section_mean_27 N (n - q) (A 7 s) (mAc (S.1 3 s) (mfn S s) (rln S s)) (i32 (rln S s)) C ∧ 0 < n - q
  | 0, n, k, _, hq, hn => by
    have : k = rln S s := by omega
    subst this
    exact ⟨rfl, by omega⟩
  | q + 1, 0, _, _, _, h => absurd h (by omega)
  | q + 1, n + 1, k, h1, hq, hn => by
    have hrg : ringy (S.1 2 s) = true := by rw [hk]; rfl
    obtain ⟨r1, r2, r3, r4, r5, r6⟩ := ring_r J hs hrg
    have h3 := so_lt J hs
    have hr := jj_s J hs
    have hb := jj_b J
    have ih := mean_cls (N := N) J hs hk q n (k + 1) (by omega) (by omega) (by omega)
    refine ⟨?_, by omega⟩
    have hm64 := Nat.mod_lt (S.1 14 s + k) (show 0 < rln S s by omega)
    have hm0 := Nat.mod_lt (S.1 14 s + 0) (show 0 < rln S s by omega)
    have hv : vb (S.1 3 s) (mfn S s k) := by rw [← r6]; exact st_vb J hs (by omega)
    have hv0 : vb (S.1 3 s) (mfn S s 0) := by rw [← r6]; exact st_vb J hs (by omega)
    have sz : c_Row_size (A 118 s) C = some (i32 (rln S s)) := by
      unfold c_Row_size
      rw [rs_cells hr, obd_some, obd_some, cal_of (n := rln S s) (by rw [hr.2.2.2.2.2.2.1]; decide) hr.2.2.2.2.2.2.2.1, obd_some]
    have ha : c_Row_at (A 118 s) (i32 k) C = some (mfn S s k) := at_of J hs (by omega)
    have tt := nums_term (so := S.1 3 s) hb h3 (mfn S s k)
    have pl := nums_plus (so := S.1 3 s) hb h3 (c := mAc (S.1 3 s) (mfn S s) k) (v := tmB (S.1 3 s) (mfn S s k)) (fun h2 => mAc_vb h2 hv0 k h1) (fun h2 => by rw [show tmB (S.1 3 s) (mfn S s k) = mfn S s k from if_pos h2]; exact hv)
    have e : mAc (S.1 3 s) (mfn S s) (k + 1) = plB (S.1 3 s) (mAc (S.1 3 s) (mfn S s) k) (tmB (S.1 3 s) (mfn S s k)) := if_neg (by omega)
    rw [show n + 1 - (q + 1) = n - q by omega, ← ih.1, e]
    conv => lhs; unfold c_Section_mean_27
    simp only [rs_states hr, rs_numbers hr, cob_of (ci := 6) hr.2.2.2.1, sz, obd_some, jgd_true]
    rw [if_neg (by rw [i32_le (by omega) (by omega)]; omega)]
    simp only [ha, tt, pl, obd_some, show i32 k + 1 = i32 (k + 1) from i32_add k 1]
theorem wk_7 {N : Nat} (hN : 100 ≤ N) (J : JJ G E B bx m ad S A C T) (hs : s < S.1 1 0) (hk : S.1 2 s = 7) (hv : vb (S.1 3 s) x) : ∃ y S' C' T', c_Section_mean N (A 7 s) x C = some (y, C') ∧ h_R_works N (i32 s) (dv (S.1 3 s) x) T = some (dv (S.1 3 s) y, T') ∧ JJ G E B bx m ad S' A C' T' ∧ vb (S.1 3 s) y ∧ Dys S S' s ∧ Mf T T' := by
  have hrg : ringy (S.1 2 s) = true := by rw [hk]; rfl
  obtain ⟨r1, r2, r3, r4, r5, r6⟩ := ring_r J hs hrg
  have h3 := so_lt J hs
  have hs60 : s < 60 := by have := (jj_n J).1; omega
  have e60 : jrg 60 (i32 s) = some s := jrg_i32 hs60 (by decide)
  have ek : T.1 2 s = i32 7 := by rw [jj_N J 2 (by decide), hk]
  have hr := jj_s J hs
  obtain ⟨u1, J1⟩ := jj_push J hs hrg hv
  have rr := rings_ref (v := x) J hs hrg
  have d1 := pu_dys' (S := S) (s := s) (v := x) (by omega)
  have ek1 : ∀ k, k ≠ 14 → k ≠ 70 → (puS S s x).1 k = S.1 k := fun k h1 h2 => funext fun j => d1.1 k j (fun q => by rcases q.1 with h | h <;> omega)
  have q3 : (puS S s x).1 3 = S.1 3 := ek1 3 (by decide) (by decide)
  have q2 : (puS S s x).1 2 = S.1 2 := ek1 2 (by decide) (by decide)
  have hs1 : s < (puS S s x).1 1 0 := by rw [ek1 1 (by decide) (by decide)]; exact hs
  have hk1 : (puS S s x).1 2 s = 7 := by rw [q2]; exact hk
  have hrg1 : ringy ((puS S s x).1 2 s) = true := by rw [hk1]; rfl
  generalize hS1 : puS S s x = S1 at *
  generalize hC1 : csI (csJ C 900 (A 96 s) (S.1 70 s) x) 97 (A 118 s) 0 (i32 ((S.1 70 s + 1) % rln S s)) = C1 at *
  generalize hT1 : tsI (tsD T 13 (64 * s + S.1 14 s) (dv (S.1 3 s) x)) 14 s (i32 ((S.1 14 s + 1) % rln S s)) = T1 at *
  obtain ⟨z1, z2, z3, z4, z5, z6⟩ := ring_r J1 hs1 hrg1
  have hr1 := jj_s J1 hs1
  have hb1 := jj_b J1
  have mT : Mf T T1 := by rw [← hT1]; exact Mf.trans (mf_D (by decide)) (mf_I (by decide))
  obtain ⟨B1, ab, mb, fb⟩ := begins_ref (jj_rt J1) hs60
  obtain ⟨U1, a1, a2, a3, a4⟩ := mean_ref (N := N) (jj_T J1 (rt_tOf S1)) hs1 hk1 (rln S1 s) N 0 B1 (rt_Sc (jj_rt J1) fb) mb (by omega) (by omega)
  obtain ⟨y1, S2, C2, T2, uc2, ur2, J2, vy1, sl2, mf2⟩ := settle (jj_T J1 (rt_Sc (jj_rt J1) (fb.trans a4))) hs1 rfl a3 (by omega)
  have p2 : S2.1 = S1.1 := sl2.1
  have hs2 : s < S2.1 1 0 := by rw [p2]; exact hs1
  have q7 : S2.2.1 7 = S1.2.1 7 := sl_J sl2 (by decide)
  have c_0 := cf_vb J1 hs1 (k := 0) (by decide)
  obtain ⟨B2, ab2, mb2, fb2⟩ := begins_ref (jj_rt J2) hs60
  rw [p2] at mb2
  have JB2 := jj_T J2 (rt_Sc (jj_rt J2) fb2)
  have rc : h_R_c (i32 s) (0 : Int32) B2 = some (dv (S1.1 3 s) (S1.2.1 7 (5 * s + 0))) := by
    have h := coef_dv JB2 hs2 (j := 0) (by decide)
    rw [p2, q7] at h; exact h
  have h31 : S1.1 3 s < 3 := so_lt J1 hs1
  obtain ⟨U2, b1, b2, b3⟩ := term_ref h31 mb2 (by decide) c_0 vy1 (off := false) (fun _ => ⟨rfl, fun _ => rfl⟩)
  have b2 : MS U2 s (S1.1 3 s) 1 (prB (S1.1 3 s) (S1.2.1 7 (5 * s + 0)) y1) := b2
  obtain ⟨y2, S3, C3, T3, uc3, ur3, J3, vy2, sl3, mf3⟩ := settle (jj_T J2 (rt_Sc (jj_rt J2) (fb2.trans b3))) hs2 (show S2.1 3 s = S1.1 3 s by rw [p2]) b2 (by decide)
  have hr2 := jj_s J2 hs2
  have tc : c_Section_times (A 7 s) (0 : Int32) y1 C2 = some (prB (S1.1 3 s) (S1.2.1 7 (5 * s + 0)) y1) := by
    have h := times_of (k := 0) J2 hs2 (v := y1) (by rw [p2, hk1]; decide) (fun _ => by rw [p2]; exact vy1)
    rw [p2, q7] at h; exact h
  have tt := nums_term (so := S1.1 3 s) hb1 h31 (mfn S1 s 0)
  have at0 : c_Row_at (A 118 s) (0 : Int32) C1 = some (mfn S1 s 0) := at_of (k := 0) J1 hs1 (by omega)
  have sz : c_Row_size (A 118 s) C1 = some (i32 (rln S1 s)) := by
    unfold c_Row_size
    rw [rs_cells hr1, obd_some, obd_some, cal_of (n := rln S1 s) (by rw [hr1.2.2.2.2.2.2.1]; decide) hr1.2.2.2.2.2.2.2.1, obd_some]
  have cl := mean_cls (N := N) J1 hs1 hk1 (rln S1 s - 1) N 1 (by omega) (by omega) (by omega)
  have m1 : mAc (S1.1 3 s) (mfn S1 s) 1 = tmB (S1.1 3 s) (mfn S1 s 0) := rfl
  rw [m1] at cl
  have lastC : ∀ w, 0 < w → c_Section_mean_27 N w (A 7 s) (mAc (S1.1 3 s) (mfn S1 s) (rln S1 s)) (i32 (rln S1 s)) C1 = some (y2, C3) := fun w hw => by
    obtain ⟨w, rfl⟩ : ∃ z, w = z + 1 := ⟨w - 1, by omega⟩
    unfold c_Section_mean_27
    simp only [rs_states hr1, rs_numbers hr1, cob_of (ci := 6) hr1.2.2.2.1, cob_of (ci := 7) (rs_tag hr1), sz, obd_some, jgd_true]
    rw [if_pos (Int32.le_refl _)]
    simp only [uc2, cob_of (ci := 7) (rs_tag hr2), tc, uc3, obd_some, jgd_true, cbd2_some]
  have lastR : ∀ w, 0 < w → h_R_works_620 N w (i32 s) (i32 (rln S1 s)) U1 = some (dv (S1.1 3 s) y2, T3) := fun w hw => by
    obtain ⟨w, rfl⟩ : ∃ z, w = z + 1 := ⟨w - 1, by omega⟩
    have JU := jj_T J1 (rt_Sc (jj_rt J1) (fb.trans a4))
    unfold h_R_works_620
    rw [e60, obd_some, jj_I JU 4 (by decide), z3, if_pos (Int32.le_refl _)]
    simp only [ur2, ab2, rc, b1, ur3, obd_some, tbd2_some]
  refine ⟨y2, S3, C3, T3, ?_, ?_, J3, by rw [← q3]; exact vy2, d1.trans (sl2.dys.trans sl3.dys), mT.trans ((Sc.mf (fb.trans a4)).trans (mf2.trans ((Sc.mf (fb2.trans b3)).trans mf3)))⟩
  · unfold c_Section_mean
    simp only [rs_states hr, cob_of (ci := 6) hr.2.2.2.1, u1, rs_states hr1, rs_numbers hr1, cob_of (ci := 6) hr1.2.2.2.1, at0, tt, obd_some, jgd_true]
    rw [show (1 : Int32) = i32 1 from rfl, cl.1]
    exact lastC _ cl.2
  · unfold h_R_works
    rw [e60, obd_some, ek, if_neg (by decide : ¬ (i32 7 : Int32) = 0), if_neg (by decide : ¬ (i32 7 : Int32) = 1), if_neg (by decide : ¬ (i32 7 : Int32) = 2), if_neg (by decide : ¬ (i32 7 : Int32) = 3), if_neg (by decide : ¬ (i32 7 : Int32) = 4), if_neg (by decide : ¬ (i32 7 : Int32) = 5), if_neg (by decide : ¬ (i32 7 : Int32) = 6), if_pos (by rfl : (i32 7 : Int32) = 7), rr, tbd2_some, ab, obd_some, show (0 : Int32) = i32 0 from rfl, a1, lastR _ a2, q3]
end RINGS
