/-! sections that cut, that look at sizes, that mix at work -/
section SHAPES
variable {G : GT} {E B bx m s so : Nat} {ad : Nat → Nat} {S : ST} {A : AT} {C : CT} {T : MT} {x v made : Int64}
theorem order_swap (x y : FP.Core.Datum) : FP.Core.order y x = some .lt ↔ FP.Core.order x y = some .gt := by
  have k : ∀ a b : Int, compare b a = .lt ↔ compare a b = .gt := fun a b => by rw [Int.compare_eq_lt, Int.compare_eq_gt]
  cases x with
  | nan => cases y <;> exact ⟨fun h => (by cases h), fun h => (by cases h)⟩
  | inf s =>
    cases y with
    | nan => exact ⟨fun h => (by cases h), fun h => (by cases h)⟩
    | inf t =>
      show some (compare (FP.Core.signed t 1) (FP.Core.signed s 1)) = some .lt ↔ some (compare (FP.Core.signed s 1) (FP.Core.signed t 1)) = some .gt
      rw [Option.some.injEq, Option.some.injEq]; exact k _ _
    | fin t d r =>
      show some (compare 0 (FP.Core.signed s 1)) = some .lt ↔ some (compare (FP.Core.signed s 1) 0) = some .gt
      rw [Option.some.injEq, Option.some.injEq]; exact k _ _
  | fin s c q =>
    cases y with
    | nan => exact ⟨fun h => (by cases h), fun h => (by cases h)⟩
    | inf t =>
      show some (compare (FP.Core.signed t 1) 0) = some .lt ↔ some (compare 0 (FP.Core.signed t 1)) = some .gt
      rw [Option.some.injEq, Option.some.injEq]; exact k _ _
    | fin t d r =>
      have e : FP.Core.order (.fin t d r) (.fin s c q) = some (compare (FP.Core.signed t (FP.Core.inUnits d r (min q r))) (FP.Core.signed s (FP.Core.inUnits c q (min q r)))) := order_units (by omega) (by omega)
      have e' : FP.Core.order (.fin s c q) (.fin t d r) = some (compare (FP.Core.signed s (FP.Core.inUnits c q (min q r))) (FP.Core.signed t (FP.Core.inUnits d r (min q r)))) := rfl
      rw [e, e', Option.some.injEq, Option.some.injEq]; exact k _ _
theorem od_swap (x y : Int64) : odB so y x = some .lt ↔ odB so x y = some .gt := by
  unfold odB
  by_cases h : so < 2
  · rw [if_pos h, if_pos h]; exact order_swap _ _
  · rw [if_neg h, if_neg h, Option.some.injEq, Option.some.injEq, Int.compare_eq_lt, Int.compare_eq_gt]
theorem ab_iff (x y : Int64) : abB so x y = true ↔ odB so x y = some .gt := by
  unfold abB
  cases h : odB so x y with
  | none => exact ⟨fun h => (by cases h), fun h => (by cases h)⟩
  | some o => cases o <;> exact ⟨fun h => (by first | rfl | cases h), fun h => (by first | rfl | cases h)⟩
/-- with the sign turned -/
def ngB (so : Nat) (x : Int64) : Int64 := if so < 2 then opB so x else g_Shorts_cut (-x)
theorem ngB_vb (h3 : so < 3) (x : Int64) : vb so (ngB so x) := by
  unfold ngB
  by_cases h : so < 2
  · rw [if_pos h]; exact opB_vb h x
  · have : so = 2 := by omega
    subst this
    rw [if_neg h]; exact cut_ref.2
theorem nums_neg (hb : RCb S A C bx) (h3 : so < 3) (hx : so < 2 → vb so x) : (if cob C (A 5 so) 5 = true then c_Real_negative (A 5 so) x C else jgd (cob C (A 5 so) 8) (some (g_Shorts_negative (A 5 so) x))) = some (ngB so x) := by
  unfold ngB
  by_cases h2 : so < 2
  · rw [if_pos (cob_of (ci := 5) (rp_of hb h2).1), real_negative hb h2 (hx h2), if_pos h2]
  · have : so = 2 := by omega
    subst this
    rw [if_neg (by rw [(shorts_cob hb).1]; decide), (shorts_cob hb).2, jgd_true, if_neg h2]; rfl
theorem neg_rv (h2 : so < 2) {d : FP.Core.Datum} (hd : FP.Core.fits (fm so) d) (hn : d ≠ .nan) : FP.dneg (rv64 so d) = rv64 so (FP.Core.negate d) := by
  have hv : FP.Core.val64 (rv64 so d) ≠ .nan := by rw [val_rv h2 hd]; exact fun z => hn ((wd_nan h2).mp z)
  rw [FP.dneg_core ((FP.Core.notNaN_iff _).mpr hv)]
  have hwn : FP.Core.negate (wd so d) = wd so (FP.Core.negate d) := by
    match so, h2 with
    | 0, _ => rfl
    | 1, _ => exact FP.Core.negate_round _ _
  apply FP.Core.val64_inj
  · rw [FP.Core.val64_dneg]; exact FP.Core.negate_ne_nan hv
  · rw [FP.Core.val64_dneg, val_rv h2 hd, val_rv h2 (FP.Core.negate_fits hd), hwn]
theorem wk_9 {N : Nat} (J : JJ G E B bx m ad S A C T) (hs : s < S.1 1 0) (hk : S.1 2 s = 9) (hv : vb (S.1 3 s) x) : ∃ y S' C' T', c_Section_clipped (A 7 s) x C = some (y, C') ∧ h_R_works N (i32 s) (dv (S.1 3 s) x) T = some (dv (S.1 3 s) y, T') ∧ JJ G E B bx m ad S' A C' T' ∧ vb (S.1 3 s) y ∧ Dys S S' s ∧ Mf T T' := by
  have h3 := so_lt J hs
  have hs60 : s < 60 := by have := (jj_n J).1; omega
  have e60 : jrg 60 (i32 s) = some s := jrg_i32 hs60 (by decide)
  have ek : T.1 2 s = i32 9 := by rw [jj_N J 2 (by decide), hk]
  have hr := jj_s J hs
  have hb := jj_b J
  have hc := cf_vb J hs (k := 0) (by decide)
  have fc : c_Section_factor (A 7 s) (0 : Int32) C = some (S.2.1 7 (5 * s + 0)) := factor_of (k := 0) J hs (by rw [hk]; decide)
  have rc : h_R_c (i32 s) (0 : Int32) T = some (dv (S.1 3 s) (S.2.1 7 (5 * s + 0))) := coef_dv J hs (j := 0) (by decide)
  have e12 : T.1 12 s = S.2.2 12 s := jj_I J 12 (by decide) s
  generalize S.2.1 7 (5 * s + 0) = e at *
  have hng := ngB_vb h3 e
  have a1 := nums_above hb h3 (x := x) (y := e) (fun _ => hv) (fun _ => hc)
  have a2 := nums_neg hb h3 (x := e) (fun _ => hc)
  have a3 := nums_above hb h3 (x := ngB (S.1 3 s) e) (y := x) (fun _ => hng) (fun _ => hv)
  have cp : cpI C (A 7 s) 7 11 (S.2.2 12 s + 1) = some (csI C 123 (A 7 s) 0 (S.2.2 12 s + 1)) := cpI_of (ci := 7) (rs_tag hr) (by decide) (by decide)
  have Jt := jj_touch J hs (S.2.2 12 s + 1)
  have dt12 : Dys S (uI S 12 s (S.2.2 12 s + 1)) s := ⟨fun _ _ _ => rfl, fun _ _ _ _ => rfl, fun k j h => (if_neg (fun q => h ⟨Or.inr q.1, q.2⟩) : up2 S.2.2 12 s (S.2.2 12 s + 1) k j = S.2.2 k j)⟩
  have r78 : ∀ z : Int64, vb (S.1 3 s) z → (abB (S.1 3 s) x e = true → z = z) → h_R_shapes_78 (i32 s) (dv (S.1 3 s) x) (dv (S.1 3 s) e) (dv (S.1 3 s) z) T = if abB (S.1 3 s) x e = true then some (dv (S.1 3 s) e, tsI T 12 s (S.2.2 12 s + 1)) else if abB (S.1 3 s) z x = true then some (dv (S.1 3 s) z, tsI T 12 s (S.2.2 12 s + 1)) else some (dv (S.1 3 s) x, T) := by
    intro z hz _
    unfold h_R_shapes_78
    rw [dcmp_dv h3 hv hc, dcmp_dv h3 hv hz, e60]
    simp only [obd_some, jlet, e12]
    have c1 : (Op.cmpValue (odB (S.1 3 s) x e) .l ≤ 0) ↔ ¬ abB (S.1 3 s) x e = true := by
      rw [ab_iff]
      cases odB (S.1 3 s) x e with
      | none => exact ⟨fun _ h => (by cases h), fun _ => by decide⟩
      | some o => cases o <;> exact ⟨fun h => by revert h; decide, fun h => by revert h; decide⟩
    have c2 : (0 ≤ Op.cmpValue (odB (S.1 3 s) x z) .g) ↔ ¬ abB (S.1 3 s) z x = true := by
      rw [ab_iff, ← od_swap]
      cases odB (S.1 3 s) x z with
      | none => exact ⟨fun _ h => (by cases h), fun _ => by decide⟩
      | some o => cases o <;> exact ⟨fun h => by revert h; decide, fun h => by revert h; decide⟩
    by_cases g1 : abB (S.1 3 s) x e = true
    · rw [if_neg (fun q => c1.mp q g1), if_pos g1]
    · rw [if_pos (c1.mpr g1), if_neg g1]
      by_cases g2 : abB (S.1 3 s) z x = true
      · rw [if_neg (fun q => c2.mp q g2), if_pos g2]
      · rw [if_pos (c2.mpr g2), if_neg g2]
  have rs : h_R_shapes (i32 s) (dv (S.1 3 s) x) T = h_R_shapes_78 (i32 s) (dv (S.1 3 s) x) (dv (S.1 3 s) e) (dv (S.1 3 s) (ngB (S.1 3 s) e)) T := by
    unfold h_R_shapes
    rw [rc, obd_some, e60, obd_some, ek, if_pos (by rfl : (i32 9 : Int32) = 9), obd_some, jj_N J 3 (by decide)]
    by_cases h2 : S.1 3 s < 2
    · rw [if_neg (by rw [show (2 : Int32) = i32 2 from rfl]; exact i32_ne (by omega) (by decide) (by omega))]
      obtain ⟨d, hd, rfl⟩ := vb_ev h2 hc
      have en : ngB (S.1 3 s) (ev (fm (S.1 3 s)) d) = ev (fm (S.1 3 s)) (FP.Core.negate d) := by
        unfold ngB opB
        rw [if_pos h2, if_pos h2, dt_ev hd]
      rw [en, dv_ev h2 hd, dv_ev h2 (FP.Core.negate_fits hd)]
      by_cases hn : d = .nan
      · rw [if_neg (fun q => (cmpl0 h2 hd).mp q hn)]
        subst hn
        show _ = h_R_shapes_78 _ _ _ (rv64 (S.1 3 s) .nan) T
        rw [rv_nan h2]
      · rw [if_pos ((cmpl0 h2 hd).mpr hn), neg_rv h2 hd hn]
    · have h2' : S.1 3 s = 2 := by omega
      have en : ngB (S.1 3 s) e = g_Shorts_cut (-e) := if_neg h2
      rw [en]
      rw [h2'] at hc ⊢
      rw [if_pos (by rfl), dv2 e, d2l_l2d' hc.1 hc.2, cut_ref.1]; rfl
  have wk : h_R_works N (i32 s) (dv (S.1 3 s) x) T = tbd2 (h_R_shapes (i32 s) (dv (S.1 3 s) x) T) fun a b => some (a, b) := by
    unfold h_R_works
    rw [e60, obd_some, ek, if_neg (by decide : ¬ (i32 9 : Int32) = 0), if_neg (by decide : ¬ (i32 9 : Int32) = 1), if_neg (by decide : ¬ (i32 9 : Int32) = 2), if_neg (by decide : ¬ (i32 9 : Int32) = 3), if_neg (by decide : ¬ (i32 9 : Int32) = 4), if_neg (by decide : ¬ (i32 9 : Int32) = 5), if_neg (by decide : ¬ (i32 9 : Int32) = 6), if_neg (by decide : ¬ (i32 9 : Int32) = 7), if_neg (by decide : ¬ (i32 9 : Int32) = 8)]
  rw [wk, rs, r78 _ hng (fun _ => rfl)]
  unfold c_Section_clipped
  simp only [rs_numbers hr, cob_of (ci := 7) (rs_tag hr), fc, a1, a2, a3, rs_touches hr, cp, obd_some, jgd_true]
  by_cases g1 : abB (S.1 3 s) x e = true
  · rw [if_pos g1, if_pos g1]
    exact ⟨e, _, _, _, rfl, rfl, Jt, hc, dt12, mf_I (by decide)⟩
  · rw [if_neg g1, if_neg g1]
    by_cases g2 : abB (S.1 3 s) (ngB (S.1 3 s) e) x = true
    · rw [if_pos g2, if_pos g2]
      exact ⟨_, _, _, _, rfl, rfl, Jt, hng, dt12, mf_I (by decide)⟩
    · rw [if_neg g2, if_neg g2]
      exact ⟨x, S, C, T, rfl, rfl, J, hv, Dys.refl s S, Mf.refl T⟩
theorem num_sz (h3 : so < 3) (hx : vb so x) : nuB so (szB so x) = nuB so x := by
  unfold nuB szB
  by_cases h2 : so < 2
  · rw [if_pos h2, if_pos h2, if_pos h2, dt_ev (absd_fits (dt_fits x))]
    cases dt so x <;> rfl
  · rw [if_neg h2, if_neg h2]
theorem wk_10 {N : Nat} (J : JJ G E B bx m ad S A C T) (hs : s < S.1 1 0) (hk : S.1 2 s = 10) (hv : vb (S.1 3 s) x) : ∃ y S' C' T', c_Section_deadened (A 7 s) x C = some (y, C') ∧ h_R_works N (i32 s) (dv (S.1 3 s) x) T = some (dv (S.1 3 s) y, T') ∧ JJ G E B bx m ad S' A C' T' ∧ vb (S.1 3 s) y ∧ Dys S S' s ∧ Mf T T' := by
  have h3 := so_lt J hs
  have hs60 : s < 60 := by have := (jj_n J).1; omega
  have e60 : jrg 60 (i32 s) = some s := jrg_i32 hs60 (by decide)
  have ek : T.1 2 s = i32 10 := by rw [jj_N J 2 (by decide), hk]
  have hr := jj_s J hs
  have hb := jj_b J
  have hc := cf_vb J hs (k := 0) (by decide)
  have fc : c_Section_factor (A 7 s) (0 : Int32) C = some (S.2.1 7 (5 * s + 0)) := factor_of (k := 0) J hs (by rw [hk]; decide)
  have rc : h_R_c (i32 s) (0 : Int32) T = some (dv (S.1 3 s) (S.2.1 7 (5 * s + 0))) := coef_dv J hs (j := 0) (by decide)
  have e12 : T.1 12 s = S.2.2 12 s := jj_I J 12 (by decide) s
  generalize S.2.1 7 (5 * s + 0) = e at *
  have hz := szB_vb h3 hv
  have n1 := nums_num hb h3 (x := x) (fun _ => hv)
  have n2 := nums_num hb h3 (x := e) (fun _ => hc)
  have z1 := nums_size hb h3 (x := x) (fun _ => hv)
  have a1 := nums_above hb h3 (x := szB (S.1 3 s) x) (y := e) (fun _ => hz) (fun _ => hc)
  have cp : cpI C (A 7 s) 7 11 (S.2.2 12 s + 1) = some (csI C 123 (A 7 s) 0 (S.2.2 12 s + 1)) := cpI_of (ci := 7) (rs_tag hr) (by decide) (by decide)
  have Jt := jj_touch J hs (S.2.2 12 s + 1)
  have dt12 : Dys S (uI S 12 s (S.2.2 12 s + 1)) s := ⟨fun _ _ _ => rfl, fun _ _ _ _ => rfl, fun k j h => (if_neg (fun q => h ⟨Or.inr q.1, q.2⟩) : up2 S.2.2 12 s (S.2.2 12 s + 1) k j = S.2.2 k j)⟩
  have c1 : (Op.cmpValue (odB (S.1 3 s) (szB (S.1 3 s) x) e) .g ≤ 0) ↔ nuB (S.1 3 s) x = true ∧ nuB (S.1 3 s) e = true ∧ ¬ abB (S.1 3 s) (szB (S.1 3 s) x) e = true := by
    rw [ab_iff]
    cases hx : nuB (S.1 3 s) x with
    | false =>
      rw [od_none h3 (Or.inl (by rw [num_sz h3 hv]; exact hx))]
      exact ⟨fun h => absurd h (by decide), fun h => (by cases h.1)⟩
    | true =>
      cases he : nuB (S.1 3 s) e with
      | false =>
        rw [od_none h3 (Or.inr he)]
        exact ⟨fun h => absurd h (by decide), fun h => (by cases h.2.1)⟩
      | true =>
        obtain ⟨o, ho⟩ := od_some h3 (x := szB (S.1 3 s) x) (y := e) (by rw [num_sz h3 hv]; exact hx) he
        rw [ho]
        cases o
        · exact ⟨fun _ => ⟨rfl, rfl, fun z => (by cases z)⟩, fun _ => by decide⟩
        · exact ⟨fun _ => ⟨rfl, rfl, fun z => (by cases z)⟩, fun _ => by decide⟩
        · exact ⟨fun h => absurd h (by decide), fun h => absurd rfl h.2.2⟩
  have rs : h_R_works N (i32 s) (dv (S.1 3 s) x) T = if nuB (S.1 3 s) x = true ∧ nuB (S.1 3 s) e = true ∧ ¬ abB (S.1 3 s) (szB (S.1 3 s) x) e = true then some (dv (S.1 3 s) 0, tsI T 12 s (S.2.2 12 s + 1)) else some (dv (S.1 3 s) x, T) := by
    unfold h_R_works h_R_shapes
    rw [e60, obd_some, ek, if_neg (by decide : ¬ (i32 10 : Int32) = 0), if_neg (by decide : ¬ (i32 10 : Int32) = 1), if_neg (by decide : ¬ (i32 10 : Int32) = 2), if_neg (by decide : ¬ (i32 10 : Int32) = 3), if_neg (by decide : ¬ (i32 10 : Int32) = 4), if_neg (by decide : ¬ (i32 10 : Int32) = 5), if_neg (by decide : ¬ (i32 10 : Int32) = 6), if_neg (by decide : ¬ (i32 10 : Int32) = 7), if_neg (by decide : ¬ (i32 10 : Int32) = 8), rc, obd_some, obd_some, ek, if_neg (by decide : ¬ (i32 10 : Int32) = 9), if_pos (by rfl : (i32 10 : Int32) = 10), obd_some, jj_N J 3 (by decide), size_ref h3 hv, obd_some, dcmp_dv h3 hz hc]
    by_cases g : nuB (S.1 3 s) x = true ∧ nuB (S.1 3 s) e = true ∧ ¬ abB (S.1 3 s) (szB (S.1 3 s) x) e = true
    · rw [if_pos (c1.mpr g), if_pos g, obd_some, obd_some]
      simp only [jlet, tbd2_some, e12, dv_zero]
    · rw [if_neg (fun q => g (c1.mp q)), if_neg g, tbd2_some]
  rw [rs]
  unfold c_Section_deadened
  simp only [rs_numbers hr, cob_of (ci := 7) (rs_tag hr), fc, n1, n2, z1, a1, rs_touches hr, cp, obd_some, jgd_true]
  by_cases g1 : nuB (S.1 3 s) x = true
  · rw [if_pos g1]
    by_cases g2 : nuB (S.1 3 s) e = true
    · rw [if_pos g2]
      by_cases g3 : abB (S.1 3 s) (szB (S.1 3 s) x) e = true
      · rw [if_pos g3, if_neg (fun q => q.2.2 g3)]
        exact ⟨x, S, C, T, rfl, rfl, J, hv, Dys.refl s S, Mf.refl T⟩
      · rw [if_neg g3, if_pos ⟨g1, g2, g3⟩]
        exact ⟨0, _, _, _, rfl, rfl, Jt, vb_zero _, dt12, mf_I (by decide)⟩
    · rw [if_neg g2, if_neg (fun q => g2 q.2.1)]
      exact ⟨x, S, C, T, rfl, rfl, J, hv, Dys.refl s S, Mf.refl T⟩
  · rw [if_neg g1, if_neg (fun q => g1 q.1)]
    exact ⟨x, S, C, T, rfl, rfl, J, hv, Dys.refl s S, Mf.refl T⟩
theorem wk_11 {N : Nat} (J : JJ G E B bx m ad S A C T) (hs : s < S.1 1 0) (hk : S.1 2 s = 11) (hv : vb (S.1 3 s) x) : ∃ y S' C' T', c_Section_peak (A 7 s) x C = some (y, C') ∧ h_R_works N (i32 s) (dv (S.1 3 s) x) T = some (dv (S.1 3 s) y, T') ∧ JJ G E B bx m ad S' A C' T' ∧ vb (S.1 3 s) y ∧ Dys S S' s ∧ Mf T T' := by
  have h3 := so_lt J hs
  have hs60 : s < 60 := by have := (jj_n J).1; omega
  have e60 : jrg 60 (i32 s) = some s := jrg_i32 hs60 (by decide)
  have ek : T.1 2 s = i32 11 := by rw [jj_N J 2 (by decide), hk]
  have hr := jj_s J hs
  have hb := jj_b J
  have k12 : S.1 2 s ≠ 12 := by rw [hk]; decide
  have ev : vso S s = S.1 3 s := vso_ne k12
  have hrg : ringy (S.1 2 s) = false := by rw [hk]; rfl
  have hrl : rln S s = 1 := by unfold rln; rw [hk]; rfl
  have c_0 := cf_vb J hs (k := 0) (by decide)
  have s_0 : vb (S.1 3 s) (S.2.1 13 (64 * s + 0)) := by rw [← ev]; exact st_vb J hs (by decide)
  have hz := szB_vb h3 hv
  have z1 := nums_size hb h3 (x := x) (fun _ => hv)
  have a1 := nums_above hb h3 (x := szB (S.1 3 s) x) (y := S.2.1 13 (64 * s + 0)) (fun _ => hz) (fun _ => s_0)
  have at0 : c_Row_at (A 118 s) (0 : Int32) C = some (S.2.1 13 (64 * s + 0)) := at_flat (k := 0) J hs hrg (by omega)
  have rs0 : h_R_st (i32 s) (0 : Int32) T = some (dv (S.1 3 s) (S.2.1 13 (64 * s + 0))) := by
    have h := st_dv J hs (k := 0) (by decide)
    rw [ev] at h; exact h
  have rc0 : h_R_c (i32 s) (0 : Int32) T = some (dv (S.1 3 s) (S.2.1 7 (5 * s + 0))) := coef_dv J hs (j := 0) (by decide)
  have wk : h_R_works N (i32 s) (dv (S.1 3 s) x) T = tbd2 (h_R_shapes (i32 s) (dv (S.1 3 s) x) T) fun a b => some (a, b) := by
    unfold h_R_works
    rw [e60, obd_some, ek, if_neg (by decide : ¬ (i32 11 : Int32) = 0), if_neg (by decide : ¬ (i32 11 : Int32) = 1), if_neg (by decide : ¬ (i32 11 : Int32) = 2), if_neg (by decide : ¬ (i32 11 : Int32) = 3), if_neg (by decide : ¬ (i32 11 : Int32) = 4), if_neg (by decide : ¬ (i32 11 : Int32) = 5), if_neg (by decide : ¬ (i32 11 : Int32) = 6), if_neg (by decide : ¬ (i32 11 : Int32) = 7), if_neg (by decide : ¬ (i32 11 : Int32) = 8)]
  have c1 : (0 < Op.cmpValue (odB (S.1 3 s) (szB (S.1 3 s) x) (S.2.1 13 (64 * s + 0))) .l) ↔ abB (S.1 3 s) (szB (S.1 3 s) x) (S.2.1 13 (64 * s + 0)) = true := by
    rw [ab_iff]
    cases odB (S.1 3 s) (szB (S.1 3 s) x) (S.2.1 13 (64 * s + 0)) with
    | none => exact ⟨fun h => by revert h; decide, fun h => (by cases h)⟩
    | some o => cases o <;> exact ⟨fun h => by revert h; decide, fun h => by revert h; decide⟩
  have fin : ∀ (y : Int64) (S1 : ST) (C1 : CT) (T1 : MT), JJ G E B bx m ad S1 A C1 T1 → S1.1 = S.1 → Dys S S1 s → Mf T T1 → vb (S.1 3 s) y →
      ∃ S' C' T', c_Section_peak_47 (A 7 s) y C1 = some (y, C') ∧ h_R_shapes_202 (i32 s) (dv (S.1 3 s) y) T1 = some (dv (S.1 3 s) y, T') ∧ JJ G E B bx m ad S' A C' T' ∧ Dys S S' s ∧ Mf T T' := by
    intro y S1 C1 T1 J1 p1 D1 M1 vy
    have hs1 : s < S1.1 1 0 := by rw [p1]; exact hs
    have hr1 := jj_s J1 hs1
    have rl1 : rln S1 s = 1 := (congrFun (dy_rln D1.dy) s).trans hrl
    obtain ⟨C2, u1, u2, u3⟩ := put_flat (k := 0) (v := y) J1 hs1 (by rw [p1]; exact hrg) (by rw [p1]; exact k12) (by omega) (by rw [p1]; exact vy)
    rw [p1] at u2 u3
    refine ⟨_, C2, _, ?_, ?_, u3, D1.trans ⟨fun _ _ _ => rfl, fun k j h1 h2 => (if_neg (fun q => h2 ⟨q.1, by omega, by omega⟩) : up2 S1.2.1 13 (64 * s + 0) y k j = S1.2.1 k j), fun _ _ _ => rfl⟩, M1.trans (mf_D (by decide))⟩
    · unfold c_Section_peak_47
      have u1 : c_Row_put (A 118 s) (0 : Int32) y C1 = some C2 := u1
      simp only [rs_states hr1, cob_of (ci := 6) hr1.2.2.2.1, u1, obd_some, jgd_true]
    · unfold h_R_shapes_202
      have u2 : h_R_st_2 (i32 s) (0 : Int32) (dv (S.1 3 s) y) T1 = some (tsD T1 13 (64 * s + 0) (dv (S.1 3 s) y)) := u2
      rw [u2, obd_some]
  rw [wk]
  unfold c_Section_peak h_R_shapes
  rw [rc0, obd_some, e60, obd_some, ek, if_neg (by decide : ¬ (i32 11 : Int32) = 9), if_neg (by decide : ¬ (i32 11 : Int32) = 10), if_pos (by rfl : (i32 11 : Int32) = 11), obd_some, jj_N J 3 (by decide), size_ref h3 hv, obd_some, rs0, obd_some, dcmp_dv h3 hz s_0]
  simp only [rs_numbers hr, rs_states hr, cob_of (ci := 7) (rs_tag hr), cob_of (ci := 6) hr.2.2.2.1, z1, at0, a1, obd_some, jgd_true]
  by_cases g : abB (S.1 3 s) (szB (S.1 3 s) x) (S.2.1 13 (64 * s + 0)) = true
  · rw [if_pos g, if_pos (c1.mpr g)]
    obtain ⟨S', C', T', u1, u2, u3, u4, u5⟩ := fin _ S C T J rfl (Dys.refl s S) (Mf.refl T) hz
    exact ⟨_, S', C', T', u1, by rw [u2, tbd2_some], u3, hz, u4, u5⟩
  · rw [if_neg g, if_neg (fun q => g (c1.mp q))]
    obtain ⟨B0, ab, mb, fb⟩ := begins_ref (jj_rt J) hs60
    have JB := jj_T J (rt_Sc (jj_rt J) fb)
    have rs1 : h_R_st (i32 s) (0 : Int32) B0 = some (dv (S.1 3 s) (S.2.1 13 (64 * s + 0))) := by
      have h := st_dv JB hs (k := 0) (by decide)
      rw [ev] at h; exact h
    obtain ⟨U, a2, m2, f2⟩ := term_ref h3 mb (by decide) c_0 s_0 (off := false) (fun _ => ⟨rfl, fun _ => rfl⟩)
    have m2 : MS U s (S.1 3 s) 1 (prB (S.1 3 s) (S.2.1 7 (5 * s + 0)) (S.2.1 13 (64 * s + 0))) := m2
    obtain ⟨y, S1, C1, T1, uc, ur, J1, vy, sl, mf⟩ := settle (jj_T J (rt_Sc (jj_rt J) (fb.trans f2))) hs rfl m2 (by decide)
    have tc : c_Section_times (A 7 s) (0 : Int32) (S.2.1 13 (64 * s + 0)) C = some (prB (S.1 3 s) (S.2.1 7 (5 * s + 0)) (S.2.1 13 (64 * s + 0))) := times_of (k := 0) J hs (by rw [hk]; decide) (fun _ => s_0)
    obtain ⟨S', C', T', u1, u2, u3, u4, u5⟩ := fin y S1 C1 T1 J1 sl.1 sl.dys ((Sc.mf (fb.trans f2)).trans mf) vy
    refine ⟨y, S', C', T', ?_, ?_, u3, vy, u4, u5⟩
    · rw [tc, obd_some, uc, cbd2_some, u1]
    · rw [ab, obd_some, rs1, obd_some, a2, obd_some, ur, tbd2_some, u2, tbd2_some]
/-- the sum of a MIX: what the chain within made is at hand -/
theorem mix_sum (J : JJ G E B bx m ad S A C T) (hs : s < S.1 1 0) (hk : S.1 2 s = 15) (hv : vb (S.1 3 s) x) (hm : vb (S.1 3 s) made) :
    (∃ U, h_R_begins (i32 s) T = some U ∧ Sc T U ∧ h_R_c (i32 s) (0 : Int32) U = some (dv (S.1 3 s) (S.2.1 7 (5 * s + 0))) ∧ ∃ U1, h_R_term (dv (S.1 3 s) (S.2.1 7 (5 * s + 0))) (dv (S.1 3 s) x) false U = some U1 ∧ Sc U U1 ∧ h_R_c (i32 s) (1 : Int32) U1 = some (dv (S.1 3 s) (S.2.1 7 (5 * s + 1))) ∧
      ∃ U2, h_R_term (dv (S.1 3 s) (S.2.1 7 (5 * s + 1))) (dv (S.1 3 s) made) false U1 = some U2 ∧ Sc U1 U2 ∧
      ∃ y S' C' T', (∀ N, c_Section_step N (A 7 s) x made C = some (y, C')) ∧ h_R_comes U2 = some (dv (S.1 3 s) y, T') ∧ JJ G E B bx m ad S' A C' T' ∧ vb (S.1 3 s) y ∧ Dys S S' s ∧ Mf T T') := by
  have h3 := so_lt J hs
  have hs60 : s < 60 := by have := (jj_n J).1; omega
  have hr := jj_s J hs
  have hb := jj_b J
  have c_0 := cf_vb J hs (k := 0) (by decide)
  have c_1 := cf_vb J hs (k := 1) (by decide)
  obtain ⟨U, ab, mb, fb⟩ := begins_ref (jj_rt J) hs60
  have JU := jj_T J (rt_Sc (jj_rt J) fb)
  obtain ⟨U1, a1, m1, f1⟩ := term_ref h3 mb (by decide) c_0 hv (off := false) (fun _ => ⟨rfl, fun _ => rfl⟩)
  have m1 : MS U1 s (S.1 3 s) 1 (prB (S.1 3 s) (S.2.1 7 (5 * s + 0)) x) := m1
  have JU1 := jj_T J (rt_Sc (jj_rt J) (fb.trans f1))
  obtain ⟨U2, a2, m2, f2⟩ := term_ref h3 m1 (by decide) c_1 hm (off := false) (fun q => absurd q (by decide))
  have m2 : MS U2 s (S.1 3 s) 2 (plB (S.1 3 s) (prB (S.1 3 s) (S.2.1 7 (5 * s + 0)) x) (prB (S.1 3 s) (S.2.1 7 (5 * s + 1)) made)) := m2
  obtain ⟨y, S1, C1, T1, uc, ur, J1, vy, sl, mf⟩ := settle (jj_T J (rt_Sc (jj_rt J) (fb.trans (f1.trans f2)))) hs rfl m2 (by decide)
  have t0 : c_Section_times (A 7 s) (0 : Int32) x C = some (prB (S.1 3 s) (S.2.1 7 (5 * s + 0)) x) := times_of (k := 0) J hs (by rw [hk]; decide) (fun _ => hv)
  have t1 : c_Section_times (A 7 s) (1 : Int32) made C = some (prB (S.1 3 s) (S.2.1 7 (5 * s + 1)) made) := times_of (k := 1) J hs (by rw [hk]; decide) (fun _ => hm)
  have pl := nums_plus (so := S.1 3 s) hb h3 (c := prB (S.1 3 s) (S.2.1 7 (5 * s + 0)) x) (v := prB (S.1 3 s) (S.2.1 7 (5 * s + 1)) made) (fun h2 => prB_vb h2 _ _) (fun h2 => prB_vb h2 _ _)
  refine ⟨U, ab, fb, coef_dv JU hs (j := 0) (by decide), U1, a1, f1, coef_dv JU1 hs (j := 1) (by decide), U2, a2, f2, y, S1, C1, T1, fun N => ?_, ur, J1, vy, sl.dys, (Sc.mf (fb.trans (f1.trans f2))).trans mf⟩
  unfold c_Section_step
  rw [rs_kind hr, obd_some, hk, if_neg (by decide : ¬ (i32 15 : Int32) = 0), if_neg (by decide : ¬ (i32 15 : Int32) = 1), if_neg (by decide : ¬ (i32 15 : Int32) = 2), if_neg (by decide : ¬ (i32 15 : Int32) = 3), if_neg (by decide : ¬ (i32 15 : Int32) = 4), if_neg (by decide : ¬ (i32 15 : Int32) = 5), if_neg (by decide : ¬ (i32 15 : Int32) = 6), if_neg (by decide : ¬ (i32 15 : Int32) = 7), if_neg (by decide : ¬ (i32 15 : Int32) = 8), if_neg (by decide : ¬ (i32 15 : Int32) = 9), if_neg (by decide : ¬ (i32 15 : Int32) = 10), if_neg (by decide : ¬ (i32 15 : Int32) = 11), if_neg (by decide : ¬ (i32 15 : Int32) = 12), if_neg (by decide : ¬ (i32 15 : Int32) = 13), if_neg (by decide : ¬ (i32 15 : Int32) = 14), if_pos (by rfl)]
  simp only [rs_numbers hr, cob_of (ci := 7) (rs_tag hr), t0, t1, pl, uc, obd_some, jgd_true, cbd2_some]
theorem wk_15 {N : Nat} (J : JJ G E B bx m ad S A C T) (hs : s < S.1 1 0) (hk : S.1 2 s = 15) (hv : vb (S.1 3 s) x) : ∃ y S' C' T', c_Section_step N (A 7 s) x 0 C = some (y, C') ∧ h_R_works N (i32 s) (dv (S.1 3 s) x) T = some (dv (S.1 3 s) y, T') ∧ JJ G E B bx m ad S' A C' T' ∧ vb (S.1 3 s) y ∧ Dys S S' s ∧ Mf T T' := by
  have hs60 : s < 60 := by have := (jj_n J).1; omega
  have e60 : jrg 60 (i32 s) = some s := jrg_i32 hs60 (by decide)
  have ek : T.1 2 s = i32 15 := by rw [jj_N J 2 (by decide), hk]
  have rc0 : h_R_c (i32 s) (0 : Int32) T = some (dv (S.1 3 s) (S.2.1 7 (5 * s + 0))) := coef_dv J hs (j := 0) (by decide)
  obtain ⟨U, a1, f1, a2, U1, a3, f2, a4, U2, a5, f3, y, S', C', T', u1, u2, u3, u4, u5, u6⟩ := mix_sum (made := 0) J hs hk hv (vb_zero _)
  refine ⟨y, S', C', T', u1 N, ?_, u3, u4, u5, u6⟩
  rw [dv_zero] at a5
  unfold h_R_works h_R_shapes
  rw [e60, obd_some, ek, if_neg (by decide : ¬ (i32 15 : Int32) = 0), if_neg (by decide : ¬ (i32 15 : Int32) = 1), if_neg (by decide : ¬ (i32 15 : Int32) = 2), if_neg (by decide : ¬ (i32 15 : Int32) = 3), if_neg (by decide : ¬ (i32 15 : Int32) = 4), if_neg (by decide : ¬ (i32 15 : Int32) = 5), if_neg (by decide : ¬ (i32 15 : Int32) = 6), if_neg (by decide : ¬ (i32 15 : Int32) = 7), if_neg (by decide : ¬ (i32 15 : Int32) = 8), rc0, obd_some, obd_some, ek, if_neg (by decide : ¬ (i32 15 : Int32) = 9), if_neg (by decide : ¬ (i32 15 : Int32) = 10), if_neg (by decide : ¬ (i32 15 : Int32) = 11), a1, obd_some, a3, obd_some, a4, obd_some, a5, obd_some, u2, tbd2_some, tbd2_some]
end SHAPES
