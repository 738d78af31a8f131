/-! one long cell written; coefficients -/
section FRJ
variable {S : ST} {A : AT} {C : CT} {a j : Nat} {v : Int64}
theorem csJ_oth {a' z : Nat} (h : a' ≠ a) : (csJ C 900 a j v).2.2.2.1 900 a' z = C.2.2.2.1 900 a' z := by simp [csJ, up3, h]
theorem csJ_same {z : Nat} : (csJ C 900 a j v).2.2.2.1 900 a z = if z = j then v else C.2.2.2.1 900 a z := by by_cases h : z = j <;> simp [csJ, up3, h]
theorem ring_csJ {a' n e base r : Nat} {f : Nat → Int64} (h : ring C a' n e f base r) (ha : a' ≠ a) : ring (csJ C 900 a j v) a' n e f base r :=
  ⟨h.1, h.2.1, h.2.2.1, h.2.2.2.1, fun k hk => (csJ_oth ha).trans (h.2.2.2.2 k hk)⟩
theorem RCs_csJ {s : Nat} (h : RCs S A C s) (h1 : A 117 s ≠ a) (h2 : A 96 s ≠ a) (h3 : A 98 s ≠ a) : RCs S A (csJ C 900 a j v) s :=
  ⟨h.1, ⟨h.2.1.1, h.2.1.2.1, ⟨h.2.1.2.2.1.1, h.2.1.2.2.1.2.1, h.2.1.2.2.1.2.2.1, h.2.1.2.2.1.2.2.2.1, h.2.1.2.2.1.2.2.2.2.1, h.2.1.2.2.1.2.2.2.2.2.1, (csJ_oth h3).trans h.2.1.2.2.1.2.2.2.2.2.2⟩, h.2.1.2.2.2⟩, ⟨h.2.2.1.1, h.2.2.1.2.1, fun k hk => (csJ_oth h1).trans (h.2.2.1.2.2 k hk)⟩, h.2.2.2.1, h.2.2.2.2.1, h.2.2.2.2.2.1, ring_csJ h.2.2.2.2.2.2 h2⟩
theorem RCl_csJ {l : Nat} (h : RCl S A C l) (h2 : A 68 l ≠ a) : RCl S A (csJ C 900 a j v) l := ⟨h.1, h.2.1, h.2.2.1, h.2.2.2.1, ring_csJ h.2.2.2.2 h2⟩
theorem RCc_csJ {c : Nat} (h : RCc S A C c) (h1 : A 21 c ≠ a) (h2 : ∀ i, i < S.1 20 c → A 68 (3 * c + i) ≠ a) : RCc S A (csJ C 900 a j v) c :=
  ⟨h.1, h.2.1, h.2.2.1, ⟨h.2.2.2.1.1, h.2.2.2.1.2.1, fun k hk => (csJ_oth h1).trans (h.2.2.2.1.2.2 k hk)⟩, fun i hi => RCl_csJ (h.2.2.2.2 i hi) (h2 i hi)⟩
theorem RK_csJ (h : RK S A C) (h1 : ∀ k, k < S.1 44 0 → A 50 k ≠ a) : RK S A (csJ C 900 a j v) := by
  intro k hk
  obtain ⟨g1, g2, g3, g4, g5, g6⟩ := h k hk
  refine ⟨g1, g2, g3, g4, g5, fun i hi => ⟨fun p hp => ⟨(csJ_oth (h1 k hk)).trans ((g6 i hi).1 p hp).1, fun z hz => (csJ_oth (h1 k hk)).trans (((g6 i hi).1 p hp).2 z hz)⟩, fun q hq z hz => (csJ_oth (h1 k hk)).trans ((g6 i hi).2 q hq z hz)⟩⟩
theorem RD_csJ {G : GT} (h : RD G A C) (h1 : A 0 2 ≠ a) : RD G A (csJ C 900 a j v) := by
  rcases h with h | ⟨g1, g2, g3, g4, g5, g6, g7⟩
  · exact Or.inl h
  · refine Or.inr ⟨g1, g2, g3, g4, g5, g6, fun q => ?_⟩
    have e : (csJ C 900 a j v).2.2.2.1 900 (A 0 2) = C.2.2.2.1 900 (A 0 2) := funext fun z => csJ_oth h1
    rw [e]
    exact g7 q
end FRJ
section COEF
variable {G : GT} {E B bx m : Nat} {ad : Nat → Nat} {S : ST} {A : AT} {C : CT} {T : MT}
/-- apart by their kinds -/
theorem ax_t (h : RC bx S A C) {t i t' i' : Nat} (h1 : VA S t i) (h2 : VA S t' i') (hn : t' ≠ t ∨ i' ≠ i) : A t' i' ≠ A t i := fun e => by
  have := h.2.2.2 t' i' t i h2 h1 e
  rcases hn with q | q
  · exact q this.1
  · exact q this.2
theorem va_l {c i : Nat} (hc : c < S.1 16 0) (hi : i < S.1 20 c) (h3 : i < 3) : VA S 68 (3 * c + i) := by
  show (3 * c + i) / 3 < S.1 16 0 ∧ (3 * c + i) % 3 < S.1 20 ((3 * c + i) / 3)
  have e1 : (3 * c + i) / 3 = c := by omega
  have e2 : (3 * c + i) % 3 = i := by omega
  rw [e1, e2]; exact ⟨hc, hi⟩
theorem nfac_5 (kd : Nat) : nfac kd ≤ 5 := by unfold nfac; split <;> decide
theorem coefs_eq : ∀ kd, kd < 16 → g_R_coefficientsOf (i32 kd) = i32 (nfac kd) := by decide
theorem jj_coef (J : JJ G E B bx m ad S A C T) {s j : Nat} {v : Int64} (hs : s < S.1 1 0) (hj : j < nfac (S.1 2 s)) (hv : vb (S.1 3 s) v) :
    JJ G E B bx m ad (uJ S 7 (5 * s + j) v) A (csJ C 900 (A 117 s) j v) (tsD T 7 (5 * s + j) (dv (S.1 3 s) v)) := by
  obtain ⟨⟨w1, w2, w3⟩, hRC, hRT, hWF, hRK, hRD⟩ := id J
  have h5 := nfac_5 (S.1 2 s)
  have hsr := jj_s J hs
  have ht : C.1 (A 117 s) ≠ 0 := by rw [hsr.2.2.1.1]; decide
  have hva : VA S 117 s := hs
  refine ⟨⟨cw_csJ w1 ht, w2, w3⟩, ⟨hRC.1, fun s' h' => ?_, fun c hc => ?_, hRC.2.2.2⟩, rt_uD hRT (Or.inl ⟨rfl, by rw [show (5 * s + j) / 5 = s by omega]⟩), ⟨hWF.1, fun s' h' => ?_, hWF.2.2.1, ⟨fun s' h1 h2 => ?_, hWF.2.2.2.2⟩⟩, ?_, ?_⟩
  · have hr := hRC.2.1 s' h'
    have n96 : A 96 s' ≠ A 117 s := ax_t hRC hva (show VA S 96 s' from h') (Or.inl (by decide))
    have n98 : A 98 s' ≠ A 117 s := ax_t hRC hva (show VA S 98 s' from h') (Or.inl (by decide))
    by_cases e : s' = s
    · subst e
      refine ⟨hr.1, ⟨hr.2.1.1, hr.2.1.2.1, ⟨hr.2.1.2.2.1.1, hr.2.1.2.2.1.2.1, hr.2.1.2.2.1.2.2.1, hr.2.1.2.2.1.2.2.2.1, hr.2.1.2.2.1.2.2.2.2.1, hr.2.1.2.2.1.2.2.2.2.2.1, (csJ_oth n98).trans hr.2.1.2.2.1.2.2.2.2.2.2⟩, hr.2.1.2.2.2⟩, ⟨hr.2.2.1.1, hr.2.2.1.2.1, fun k hk => ?_⟩, hr.2.2.2.1, hr.2.2.2.2.1, hr.2.2.2.2.2.1, ring_csJ hr.2.2.2.2.2.2 n96⟩
      rw [csJ_same]
      by_cases ek : k = j
      · subst ek; simp [uJ, up2]
      · rw [if_neg ek, hr.2.2.1.2.2 k hk]
        simp [uJ, up2, ek]
    · have n117 : A 117 s' ≠ A 117 s := ax_t hRC hva (show VA S 117 s' from h') (Or.inr e)
      refine ⟨hr.1, ⟨hr.2.1.1, hr.2.1.2.1, ⟨hr.2.1.2.2.1.1, hr.2.1.2.2.1.2.1, hr.2.1.2.2.1.2.2.1, hr.2.1.2.2.1.2.2.2.1, hr.2.1.2.2.1.2.2.2.2.1, hr.2.1.2.2.1.2.2.2.2.2.1, (csJ_oth n98).trans hr.2.1.2.2.1.2.2.2.2.2.2⟩, hr.2.1.2.2.2⟩, ⟨hr.2.2.1.1, hr.2.2.1.2.1, fun k hk => ?_⟩, hr.2.2.2.1, hr.2.2.2.2.1, hr.2.2.2.2.2.1, ring_csJ hr.2.2.2.2.2.2 n96⟩
      rw [csJ_oth n117, hr.2.2.1.2.2 k hk]
      have hk5 := nfac_5 (S.1 2 s')
      have hk' : k < nfac (S.1 2 s') := hk
      have : ¬ (5 * s' + k = 5 * s + j) := by omega
      simp [uJ, up2, this]
  · exact RCc_csJ (hRC.2.2.1 c hc) (ax_t hRC hva (show VA S 21 c from hc) (Or.inl (by decide))) (fun i hi => ax_t hRC hva (va_l hc hi (by have h1 := (hWF.2.2.1 c hc).1.2.1; have h2 : i < S.1 20 c := hi; omega)) (Or.inl (by decide)))
  · obtain ⟨g1, g2, g3, g4, g5, g6, g7, g8, g9, gA, gB, gC, gD⟩ := hWF.2.1 s' h'
    refine ⟨g1, g2, g3, g4, g5, g6, g7, g8, fun k hk => ?_, gA, gB, fun k hk h2 => ?_, gD⟩
    · show vb (S.1 3 s') (up2 S.2.1 7 (5 * s + j) v 7 (5 * s' + k))
      by_cases e : 5 * s' + k = 5 * s + j
      · have : s' = s := by omega
        rw [e, up2_same, this]; exact hv
      · rw [up2_j _ _ _ e]; exact g9 k hk
    · have e : ¬ (5 * s' + k = 5 * s + j) := by
        intro e
        have e1 : s' = s := by omega
        subst e1
        have : k = j := by omega
        subst this
        have h2' : nfac (S.1 2 s') ≤ k := h2
        omega
      show up2 S.2.1 7 (5 * s + j) v 7 (5 * s' + k) = 0
      rw [up2_j _ _ _ e]; exact gC k hk h2
  · obtain ⟨q1, q2, q3⟩ := hWF.2.2.2.1 s' h1 h2
    refine ⟨q1, q2, fun z hz => ?_⟩
    have h1' : S.1 1 0 ≤ s' := h1
    show up2 S.2.1 7 (5 * s + j) v 7 (5 * s' + z) = 0
    rw [up2_j _ _ _ (by omega)]; exact q3 z hz
  · exact RK_csJ hRK (fun k hk => ax_t hRC hva (show VA S 50 k from hk) (Or.inl (by decide)))
  · exact RD_csJ hRD (ax_t hRC hva (show VA S 0 2 from (by decide : (2 : Nat) < 3)) (Or.inl (by decide)))
/-- a coefficient's number is one of the section's, or not -/
theorem fac_or (J : JJ G E B bx m ad S A C T) {s : Nat} (hs : s < S.1 1 0) (k : Int32) : (∃ j, j < nfac (S.1 2 s) ∧ k = i32 j ∧ h_R_isCoefficient (i32 s) k T = some true ∧ c_Section_hasFactor (A 7 s) k C = some true ∧ c_Section_factor (A 7 s) k C = some (S.2.1 7 (5 * s + j))) ∨
    (h_R_isCoefficient (i32 s) k T = some false ∧ c_Section_hasFactor (A 7 s) k C = some false ∧ c_Section_factor (A 7 s) k C = some 0) := by
  have hsr := jj_s J hs
  have hws := jj_ws J hs
  have hn := (jj_n J).1
  have h5 := nfac_5 (S.1 2 s)
  have hsec : h_R_isSection (i32 s) T = some true := by
    rcases sec_or J (i32 s) with ⟨_, _, _, e, _⟩ | ⟨e1, e2⟩
    · exact e
    · rw [secAt_some J hs] at e2; cases e2
  have hq : h_R_isCoefficient (i32 s) k T = some (g_R_in k 0 (i32 (nfac (S.1 2 s)) - 1)) := by
    unfold h_R_isCoefficient
    rw [hsec, obd_some, if_pos rfl, jrg_i32 (by omega) (by decide), obd_some, jj_N J 2 (by decide), coefs_eq _ hws.1.1]
    cases g_R_in k 0 (i32 (nfac (S.1 2 s)) - 1) <;> rfl
  have hal : cal C (A 117 s) = some (i32 (nfac (S.1 2 s))) := cal_of (by rw [hsr.2.2.1.1]; decide) hsr.2.2.1.2.1
  cases hg : g_R_in k 0 (i32 (nfac (S.1 2 s)) - 1) with
  | true =>
    obtain ⟨j, h1, rfl⟩ := (in_i32 (by omega)).mp hg
    refine Or.inl ⟨j, h1, rfl, by rw [hq, hg], ?_, ?_⟩
    · unfold c_Section_hasFactor
      rw [if_neg (i32_nonneg (by omega)), rs_factors hsr, obd_some, obd_some, hal, obd_some, if_neg (by rw [i32_le (by omega) (by omega)]; omega)]
    · unfold c_Section_factor
      rw [if_neg (i32_nonneg (by omega)), rs_factors hsr, obd_some, obd_some, hal, obd_some, if_pos (by rw [i32_lt (by omega) (by omega)]; omega), obd_some, obd_some,
        caJ_of hsr.2.2.1.1 hsr.2.2.1.2.1 h1 (by omega), obd_some, hsr.2.2.1.2.2 j h1]
  | false =>
    refine Or.inr ⟨by rw [hq, hg], ?_, ?_⟩
    · unfold c_Section_hasFactor
      rcases i32_or k with h | ⟨z, hz, rfl⟩
      · rw [if_pos h]
      · have : ¬ z < nfac (S.1 2 s) := fun q => by
          have := (in_i32 (n := nfac (S.1 2 s)) (by omega)).mpr ⟨z, q, rfl⟩
          rw [hg] at this; cases this
        rw [if_neg (i32_nonneg hz), rs_factors hsr, obd_some, obd_some, hal, obd_some, if_pos (by rw [i32_le (by omega) hz]; omega)]
    · unfold c_Section_factor
      rcases i32_or k with h | ⟨z, hz, rfl⟩
      · rw [if_pos h]; rfl
      · have : ¬ z < nfac (S.1 2 s) := fun q => by
          have := (in_i32 (n := nfac (S.1 2 s)) (by omega)).mpr ⟨z, q, rfl⟩
          rw [hg] at this; cases this
        rw [if_neg (i32_nonneg hz), rs_factors hsr, obd_some, obd_some, hal, obd_some, if_neg (by rw [i32_lt hz (by omega)]; omega)]; rfl
theorem coef_dv (J : JJ G E B bx m ad S A C T) {s j : Nat} (hs : s < S.1 1 0) (hj : j < 5) : h_R_c (i32 s) (i32 j) T = some (dv (S.1 3 s) (S.2.1 7 (5 * s + j))) := by
  have hn := (jj_n J).1
  unfold h_R_c
  rw [show (5 : Int32) = i32 5 from rfl, i32_mul, i32_add, jrg_i32 (by omega) (by decide), obd_some, (jj_rt J).2.2.2.2.2.1, show (5 * s + j) / 5 = s by omega]
theorem sim_told {N M : Nat} : ls_13 N M bx (II G E B bx m ad) (II G E B bx m ad) := by
  rintro C T v k ⟨S, A, J⟩
  have hb := jj_b J
  have ho : cob C bx 0 = true := cob_of (rb_tag hb)
  have hn := (jj_n J).1
  rcases sec_or J v with ⟨s, hs, rfl, e1, e2⟩ | ⟨e1, e2⟩
  · have hsr := jj_s J hs
    have h3 := jj_N J 3 (by decide) s
    have hj : jrg 60 (i32 s) = some s := jrg_i32 (by omega) (by decide)
    rcases fac_or J hs k with ⟨j, h1, rfl, f1, f2, f3⟩ | ⟨f1, f2, f3⟩
    · have h5 := nfac_5 (S.1 2 s)
      have hws := jj_ws J hs
      refine ⟨S.2.1 7 (5 * s + j), C, T, ⟨?_, rfl⟩, ⟨?_, rfl⟩, S, A, J⟩
      · unfold c_B_told
        rw [ho, jgd_true, e2, obd_some, jon_some, cob_of (rs_tag hsr), jgd_true, f3, obd_some]
      · unfold h_R_told
        rw [f1, obd_some, if_pos rfl, hj, obd_some, coef_dv J hs (by omega), obd_some, h3, bitsOf_dv hws.1.2.1 (hws.2.2.2.2.2.2.2.2.1 j (by omega)), obd_some]
    · refine ⟨0, C, T, ⟨?_, rfl⟩, ⟨?_, rfl⟩, S, A, J⟩
      · unfold c_B_told
        rw [ho, jgd_true, e2, obd_some, jon_some, cob_of (rs_tag hsr), jgd_true, f3, obd_some]
      · unfold h_R_told
        rw [f1, obd_some]; rfl
  · refine ⟨0, C, T, ⟨?_, rfl⟩, ⟨?_, rfl⟩, S, A, J⟩
    · unfold c_B_told
      rw [ho, jgd_true, e2, obd_some, jon_none]
    · unfold h_R_told h_R_isCoefficient
      rw [e1]; rfl
/-- numbers of the sorts -/
def num (so : Nat) (b : Int64) : Prop := match so with
  | 0 => n64 b.toUInt64
  | 1 => n32 b.toInt32.toUInt32
  | _ => True
theorem clean_pos {so : Nat} {b : Int64} (h : num so b) : clean so b = b := by
  match so, h with
  | 0, h => exact if_pos h
  | 1, h => exact if_pos h
  | _ + 2, _ => rfl
def nanOf (so : Nat) : Int64 := match so with | 0 => 0x7ff8000000000000 | _ => 0x7fc00000
theorem clean_neg {so : Nat} {b : Int64} (h : ¬ num so b) : clean so b = nanOf so := by
  match so, h with
  | 0, h => exact if_neg h
  | 1, h => exact if_neg h
  | _ + 2, h => exact absurd trivial h
theorem real_isNumber (hb : RCb S A C bx) {so : Nat} (h2 : so < 2) (b : Int64) : (num so b → c_Real_isNumber (A 5 so) b C = some true) ∧ (¬ num so b → c_Real_isNumber (A 5 so) b C = some false) := by
  obtain ⟨-, r0, r1⟩ := hb.2.2.1
  match so, h2 with
  | 0, _ =>
    have e : c_Real_isNumber (A 5 0) b C = if (0x7ff0000000000000 : Int64) < b &&& 9223372036854775807 then some false else some true := by
      unfold c_Real_isNumber
      rw [show cgJ C (A 5 0) 5 4 = some (-0x8000000000000000) from (if_pos r0.1).trans (congrArg some r0.2.2.2.2.2.1), obd_some, show cgJ C (A 5 0) 5 5 = some 0x7ff0000000000000 from (if_pos r0.1).trans (congrArg some r0.2.2.2.2.2.2.1), obd_some]
      rfl
    rw [e]
    constructor
    · intro h; rw [if_neg (Int64.not_lt.mpr ((n64_mask b).mpr h))]
    · intro h; rw [if_pos (Int64.not_le.mp (fun q => h ((n64_mask b).mp q)))]
  | 1, _ =>
    have e : c_Real_isNumber (A 5 1) b C = if (0x7f800000 : Int64) < b &&& 2147483647 then some false else some true := by
      unfold c_Real_isNumber
      rw [show cgJ C (A 5 1) 5 4 = some (-0x80000000) from (if_pos r1.1).trans (congrArg some r1.2.2.2.2.2.1), obd_some, show cgJ C (A 5 1) 5 5 = some 0x7f800000 from (if_pos r1.1).trans (congrArg some r1.2.2.2.2.2.2.1), obd_some]
      rfl
    rw [e]
    constructor
    · intro h; rw [if_neg (Int64.not_lt.mpr ((n32_maskL b).mpr h))]
    · intro h; rw [if_pos (Int64.not_le.mp (fun q => h ((n32_maskL b).mp q)))]
theorem real_tag (hb : RCb S A C bx) {so : Nat} (h2 : so < 2) : C.1 (A 5 so) = 6 := by
  match so, h2 with
  | 0, _ => exact hb.2.2.1.2.1.1
  | 1, _ => exact hb.2.2.1.2.2.1
theorem real_nan (hb : RCb S A C bx) {so : Nat} (h2 : so < 2) : cgJ C (A 5 so) 5 6 = some (nanOf so) := by
  match so, h2 with
  | 0, _ => exact (if_pos hb.2.2.1.2.1.1).trans (congrArg some hb.2.2.1.2.1.2.2.2.2.2.2.2)
  | 1, _ => exact (if_pos hb.2.2.1.2.2.1).trans (congrArg some hb.2.2.1.2.2.2.2.2.2.2.2.2)
theorem real_clean (hb : RCb S A C bx) {so : Nat} (h2 : so < 2) (b : Int64) : c_Real_clean (A 5 so) b C = some (clean so b) := by
  unfold c_Real_clean
  rw [cob_of (real_tag hb h2), jgd_true]
  by_cases h : num so b
  · rw [(real_isNumber hb h2 b).1 h, obd_some, if_pos rfl, clean_pos h]
  · rw [(real_isNumber hb h2 b).2 h, obd_some, if_neg (by decide), real_nan hb h2, obd_some, clean_neg h]
theorem real_holds (hb : RCb S A C bx) {so : Nat} (h2 : so < 2) (b : Int64) : (hold so b → c_Real_holds (A 5 so) b C = some true) ∧ (¬ hold so b → c_Real_holds (A 5 so) b C = some false) := by
  match so, h2 with
  | 0, _ =>
    have e : c_Real_holds (A 5 0) b C = some true := by
      unfold c_Real_holds
      rw [show cgI C (A 5 0) 5 0 = some 52 from (if_pos hb.2.2.1.2.1.1).trans (congrArg some hb.2.2.1.2.1.2.1), obd_some]
      rfl
    exact ⟨fun _ => e, fun h => absurd trivial h⟩
  | 1, _ =>
    have e : c_Real_holds (A 5 1) b C = if b = b.toInt32.toInt64 then some true else some false := by
      unfold c_Real_holds
      rw [show cgI C (A 5 1) 5 0 = some 23 from (if_pos hb.2.2.1.2.2.1).trans (congrArg some hb.2.2.1.2.2.2.1), obd_some, if_neg (by decide)]
      rfl
    rw [e]
    exact ⟨fun h => if_pos h, fun h => if_neg h⟩
theorem shorts_holds {x : Nat} (b : Int64) : (hold 2 b → g_Shorts_holds x b = true) ∧ (¬ hold 2 b → g_Shorts_holds x b = false) := by
  have e : b.toInt32.toInt16.toInt32.toInt64.toInt = b.toInt.bmod (2 ^ 16) := by
    rw [Int32.toInt_toInt64, Int16.toInt_toInt32, Int32.toInt_toInt16, Int64.toInt_toInt32, Int.bmod_bmod_of_dvd (by decide)]
  have h1 : (b = b.toInt32.toInt16.toInt32.toInt64) ↔ hold 2 b := by
    show _ ↔ -32768 ≤ b ∧ b ≤ 32767
    have e1 : (-32768 : Int64).toInt = -32768 := by decide
    have e2 : (32767 : Int64).toInt = 32767 := by decide
    rw [Int64.le_iff_toInt_le, Int64.le_iff_toInt_le, e1, e2, ← Int64.toInt_inj, e]
    have l1 := Int.le_bmod (x := b.toInt) (m := 2 ^ 16) (by decide)
    have l2 := Int.bmod_lt (x := b.toInt) (m := 2 ^ 16) (by decide)
    constructor
    · intro h; omega
    · intro h; exact (Int.bmod_eq_of_le (by omega) (by omega)).symm
  have e3 : g_Shorts_holds x b = if b = b.toInt32.toInt16.toInt32.toInt64 then true else false := by
    unfold g_Shorts_holds g_Shorts_holds_e
    rfl
  rw [e3]
  exact ⟨fun h => if_pos (h1.mpr h), fun h => if_neg (fun q => h (h1.mp q))⟩
/-- holds, clean: of the numbers of a section's sort -/
theorem nums_holds (hb : RCb S A C bx) {so : Nat} (h3 : so < 3) (b : Int64) : (hold so b → (if cob C (A 5 so) 5 = true then c_Real_holds (A 5 so) b C else jgd (cob C (A 5 so) 8) (some (g_Shorts_holds (A 5 so) b))) = some true) ∧
    (¬ hold so b → (if cob C (A 5 so) 5 = true then c_Real_holds (A 5 so) b C else jgd (cob C (A 5 so) 8) (some (g_Shorts_holds (A 5 so) b))) = some false) := by
  by_cases h2 : so < 2
  · rw [if_pos (cob_of (real_tag hb h2))]
    exact real_holds hb h2 b
  · have : so = 2 := by omega
    subst this
    have ht := hb.2.2.1.1
    rw [if_neg (by unfold cob; rw [ht]; decide), cob_of ht, jgd_true]
    exact ⟨fun h => by rw [(shorts_holds b).1 h], fun h => by rw [(shorts_holds b).2 h]⟩
theorem nums_clean (hb : RCb S A C bx) {so : Nat} (h3 : so < 3) (b : Int64) : (if cob C (A 5 so) 5 = true then c_Real_clean (A 5 so) b C else jgd (cob C (A 5 so) 8) (some (g_Shorts_clean (A 5 so) b))) = some (clean so b) := by
  by_cases h2 : so < 2
  · rw [if_pos (cob_of (real_tag hb h2))]
    exact real_clean hb h2 b
  · have : so = 2 := by omega
    subst this
    have ht := hb.2.2.1.1
    rw [if_neg (by unfold cob; rw [ht]; decide), cob_of ht, jgd_true]
    rfl
theorem setFactor_of (J : JJ G E B bx m ad S A C T) {s j : Nat} (hs : s < S.1 1 0) (hj : j < nfac (S.1 2 s)) (v : Int64) : c_Section_setFactor (A 7 s) (i32 j) v C = some (csJ C 900 (A 117 s) j v) := by
  have hsr := jj_s J hs
  have h5 := nfac_5 (S.1 2 s)
  have hal : cal C (A 117 s) = some (i32 (nfac (S.1 2 s))) := cal_of (by rw [hsr.2.2.1.1]; decide) hsr.2.2.1.2.1
  unfold c_Section_setFactor
  rw [if_neg (i32_nonneg (by omega)), rs_factors hsr, obd_some, obd_some, hal, obd_some, if_neg (by rw [i32_le (by omega) (by omega)]; omega), obd_some, obd_some, cqJ_of hsr.2.2.1.1 hsr.2.2.1.2.1 hj (by omega), obd_some]
theorem sim_coefficient {N M : Nat} : ls_1 N M bx (II G E B bx m ad) (II G E B bx m ad) := by
  rintro C T v k b ⟨S, A, J⟩
  have hb := jj_b J
  have ho : cob C bx 0 = true := cob_of (rb_tag hb)
  have hn := (jj_n J).1
  rcases sec_or J v with ⟨s, hs, rfl, e1, e2⟩ | ⟨e1, e2⟩
  · have hsr := jj_s J hs
    have hws := jj_ws J hs
    have h3 := jj_N J 3 (by decide) s
    have hj : jrg 60 (i32 s) = some s := jrg_i32 (by omega) (by decide)
    rcases fac_or J hs k with ⟨j, h1, rfl, f1, f2, f3⟩ | ⟨f1, f2, f3⟩
    · have h5 := nfac_5 (S.1 2 s)
      by_cases hh : hold (S.1 3 s) b
      · refine ⟨true, _, _, ?_, ?_, _, A, jj_coef J hs h1 (clean_vb hh)⟩
        · unfold c_B_coefficient
          rw [ho, jgd_true, e2, obd_some, jon_some, cob_of (rs_tag hsr), jgd_true, f2, obd_some, if_pos rfl, rs_numbers hsr, obd_some, obd_some, (nums_holds hb hws.1.2.1 b).1 hh, obd_some, if_pos rfl, obd_some, obd_some, nums_clean hb hws.1.2.1 b, obd_some, jgd_true, setFactor_of J hs h1, obd_some]
        · unfold h_R_coefficient
          rw [f1, obd_some, if_pos rfl, hj, obd_some, h3, if_pos ((isValue_hold b hws.1.2.1).mpr hh), obd_some, h3, valueOf_clean hws.1.2.1 hh, obd_some, show (5 : Int32) = i32 5 from rfl, i32_mul, i32_add, jrg_i32 (by omega) (by decide), obd_some]
          rfl
      · refine ⟨false, C, T, ?_, ?_, S, A, J⟩
        · unfold c_B_coefficient
          rw [ho, jgd_true, e2, obd_some, jon_some, cob_of (rs_tag hsr), jgd_true, f2, obd_some, if_pos rfl, rs_numbers hsr, obd_some, obd_some, (nums_holds hb hws.1.2.1 b).2 hh, obd_some]
          rfl
        · unfold h_R_coefficient
          rw [f1, obd_some, if_pos rfl, hj, obd_some, h3, if_neg (fun q => hh ((isValue_hold b hws.1.2.1).mp q))]
    · refine ⟨false, C, T, ?_, ?_, S, A, J⟩
      · unfold c_B_coefficient
        rw [ho, jgd_true, e2, obd_some, jon_some, cob_of (rs_tag hsr), jgd_true, f2, obd_some]
        rfl
      · unfold h_R_coefficient
        rw [f1, obd_some]; rfl
  · refine ⟨false, C, T, ?_, ?_, S, A, J⟩
    · unfold c_B_coefficient
      rw [ho, jgd_true, e2, obd_some, jon_none]
    · unfold h_R_coefficient h_R_isCoefficient
      rw [e1]; rfl
end COEF
