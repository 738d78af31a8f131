/-! ratio: both sides -/
section RATIOB
variable {G : GT} {E B bx m : Nat} {ad : Nat → Nat} {S : ST} {A : AT} {C : CT} {T : MT}
theorem whole_of {s : Nat} (J : JJ G E B bx m ad S A C T) (hs : s < S.1 1 0) : c_Section_takesWhole (A 7 s) C = some (g_R_isPlain (i32 (S.1 2 s))) := by
  unfold c_Section_takesWhole c_Section_takesWhole_18 g_R_isPlain g_R_isPlain_12
  rw [rs_kind (jj_s J hs), obd_some]
  by_cases h : i32 (S.1 2 s) = (9 : Int32)
  · rw [if_pos h, if_pos h]
  · rw [if_neg h, if_neg h, obd_some]
    by_cases h2 : i32 (S.1 2 s) = (10 : Int32)
    · rw [if_pos h2, if_pos h2]
    · rw [if_neg h2, if_neg h2]
/-- a whole number's quotient for shorts -/
theorem short_ref (v w : Int32) (hw : w.toInt ≠ 0) (pl : Bool) : ∃ r, g_Shorts_quotient_e v w pl = some r ∧ ∀ (v1 v2 : Int32) (T : MT), h_R_ratio_73 v1 v2 w (if pl = true then Int32.toInt64 v else (16384 : Int64) * Int32.toInt64 v) T = h_R_ratio_151 v1 v2 r T := by
  obtain ⟨b1, b2⟩ := i32_range v
  obtain ⟨b3, b4⟩ := i32_range w
  have hi : (Int32.toInt64 w).toInt = w.toInt := Int32.toInt_toInt64 w
  have hv : (Int32.toInt64 v).toInt = v.toInt := Int32.toInt_toInt64 v
  have z0 : (0 : Int64).toInt = 0 := rfl
  have ya := abs_j w
  have yi : (g_JMath_abs (Int32.toInt64 w)).toInt = w.toInt.natAbs := by rw [ya, j64_toInt (by omega)]
  have kk : (Int32.toInt64 (16384 : Int32)).toInt = 16384 := rfl
  have k1 : Int32.toInt64 (1 : Int32) = 1 := rfl
  have k2 : Int32.toInt64 (16384 : Int32) = 16384 := rfl
  have nv : (-Int32.toInt64 v).toInt = -v.toInt := by rw [Int64.toInt_neg, hv]; exact Int.bmod_eq_of_le (by omega) (by omega)
  have pv : ((16384 : Int64) * Int32.toInt64 v).toInt = 16384 * v.toInt := by
    rw [Int64.toInt_mul, hv, show (16384 : Int64).toInt = 16384 from rfl]; exact Int.bmod_eq_of_le (by omega) (by omega)
  have npv : (-((16384 : Int64) * Int32.toInt64 v)).toInt = -(16384 * v.toInt) := by rw [Int64.toInt_neg, pv]; exact Int.bmod_eq_of_le (by omega) (by omega)
  by_cases g : w.toInt < 0
  · have gi : ¬ (0 : Int64) ≤ Int32.toInt64 w := by rw [Int64.le_iff_toInt_le, z0, hi]; omega
    have ey : -Int32.toInt64 w = g_JMath_abs (Int32.toInt64 w) := by unfold g_JMath_abs; rw [if_neg gi]
    cases pl with
    | true =>
      obtain ⟨r, r1, r2⟩ := short_quo (y := g_JMath_abs (Int32.toInt64 w)) (s1 := -Int32.toInt64 v) (num := -Int32.toInt64 v) (K := 1) (by rw [k1, Int64.mul_one]) (by omega) (by omega) (by omega) (by omega)
      refine ⟨r, ?_, fun v1 v2 T => ?_⟩
      · unfold g_Shorts_quotient_e g_Shorts_quotient_19
        rw [jlet_eq, if_neg (fun z => (i32_neg0 w).mp z g), if_pos rfl, r1]
      · unfold h_R_ratio_73
        rw [if_neg gi, ey, if_pos rfl, r2]
    | false =>
      obtain ⟨r, r1, r2⟩ := short_quo (y := g_JMath_abs (Int32.toInt64 w)) (s1 := -Int32.toInt64 v) (num := -((16384 : Int64) * Int32.toInt64 v)) (K := 16384) (by rw [k2, Int64.neg_mul, Int64.mul_comm]) (by omega) (by omega) (by omega) (by omega)
      refine ⟨r, ?_, fun v1 v2 T => ?_⟩
      · unfold g_Shorts_quotient_e g_Shorts_quotient_19
        rw [jlet_eq, if_neg (fun z => (i32_neg0 w).mp z g), if_neg (by decide), r1]
      · unfold h_R_ratio_73
        rw [if_neg gi, ey, if_neg (by decide), r2]
  · have gi : (0 : Int64) ≤ Int32.toInt64 w := by rw [Int64.le_iff_toInt_le, z0, hi]; omega
    have ey : Int32.toInt64 w = g_JMath_abs (Int32.toInt64 w) := by unfold g_JMath_abs; rw [if_pos gi]
    cases pl with
    | true =>
      obtain ⟨r, r1, r2⟩ := short_quo (y := g_JMath_abs (Int32.toInt64 w)) (s1 := Int32.toInt64 v) (num := Int32.toInt64 v) (K := 1) (by rw [k1, Int64.mul_one]) (by omega) (by omega) (by omega) (by omega)
      refine ⟨r, ?_, fun v1 v2 T => ?_⟩
      · unfold g_Shorts_quotient_e g_Shorts_quotient_19
        rw [jlet_eq, if_pos ((i32_neg0 w).mpr g), if_pos rfl, r1]
      · unfold h_R_ratio_73
        rw [if_pos gi, if_pos rfl, ← r2, ← ey]
    | false =>
      obtain ⟨r, r1, r2⟩ := short_quo (y := g_JMath_abs (Int32.toInt64 w)) (s1 := Int32.toInt64 v) (num := (16384 : Int64) * Int32.toInt64 v) (K := 16384) (by rw [k2, Int64.mul_comm]) (by omega) (by omega) (by omega) (by omega)
      refine ⟨r, ?_, fun v1 v2 T => ?_⟩
      · unfold g_Shorts_quotient_e g_Shorts_quotient_19
        rw [jlet_eq, if_pos ((i32_neg0 w).mpr g), if_neg (by decide), r1]
      · unfold h_R_ratio_73
        rw [if_pos gi, if_neg (by decide), ← r2, ← ey]
theorem sim_ratio {N M : Nat} : ls_2 N M bx (II G E B bx m ad) (II G E B bx m ad) := by
  rintro C T v k p q ⟨S, A, J⟩
  have hb := jj_b J
  have ho : cob C bx 0 = true := cob_of (rb_tag hb)
  have hn := (jj_n J).1
  rcases sec_or J v with ⟨s, hs, rfl, e1, e2⟩ | ⟨e1, e2⟩
  · have hsr := jj_s J hs
    have hws := jj_ws J hs
    have h3 := jj_N J 3 (by decide) s
    have h2k := jj_N J 2 (by decide) s
    have hso := hws.1.2.1
    have hj : jrg 60 (i32 s) = some s := jrg_i32 (by omega) (by decide)
    have hts := cob_of (ci := 7) (rs_tag hsr)
    rcases fac_or J hs k with ⟨j, h1, rfl, f1, f2, f3⟩ | ⟨f1, f2, f3⟩
    · have h5 := nfac_5 (S.1 2 s)
      by_cases hq : q = 0
      · refine ⟨false, C, T, ?_, ?_, S, A, J⟩
        · unfold c_B_ratio
          rw [ho, jgd_true, e2, obd_some, jon_some, hts, jgd_true, f2, obd_some, if_pos (show true = true from rfl), if_pos hq]
        · unfold h_R_ratio
          rw [f1, obd_some, if_pos (show true = true from rfl), if_pos hq]
      · have hqi : q.toInt ≠ 0 := fun z => hq (Int32.toInt_inj.mp z)
        obtain ⟨d, hd⟩ : ∃ d, d = FP.Core.quotient FP.Core.b64 (FP.Core.val64 (FP.i2d p)) (FP.Core.val64 (FP.i2d q)) := ⟨_, rfl⟩
        have hdn : d ≠ .nan := by rw [hd, quo_whole hqi]; exact roundRatio_num
        have hdf : FP.Core.fits FP.Core.b64 d := by rw [hd]; exact FP.Core.quotient_fits FP.Core.good_b64 _ _
        have eX : FP.ddiv (FP.i2d p) (FP.i2d q) = rv64 0 d := by rw [hd]; rfl
        have jx : jnD (FP.ddiv (FP.i2d p) (FP.i2d q)) = some (rv64 0 d) := by rw [eX, jnD_pos ((n64_rv (so := 0) (by decide) hdf).mpr hdn)]
        have m167 : ∀ z : UInt64, h_R_ratio_167 (i32 s) (i32 j) z T = some (true, tsD T 7 (5 * s + j) z) := fun z => by
          unfold h_R_ratio_167
          rw [show (5 : Int32) * i32 s + i32 j = i32 (5 * s + j) from by rw [show (5 : Int32) = i32 5 from rfl, i32_mul, i32_add], jrg_i32 (by omega) (by decide), obd_some]
          rfl
        have cpre : c_B_ratio bx (i32 s) (i32 j) p q C = obd (if cob C (A 5 (S.1 3 s)) 5 = true then c_Real_quotient (A 5 (S.1 3 s)) p q (g_R_isPlain (i32 (S.1 2 s))) (some (A 5 0)) C else jgd (cob C (A 5 (S.1 3 s)) 8) (g_Shorts_quotient (A 5 (S.1 3 s)) p q (g_R_isPlain (i32 (S.1 2 s))) (some (A 5 0)))) fun x8 =>
            obd (if cob C (A 5 (S.1 3 s)) 5 = true then c_Real_holds (A 5 (S.1 3 s)) x8 C else jgd (cob C (A 5 (S.1 3 s)) 8) (some (g_Shorts_holds (A 5 (S.1 3 s)) x8))) fun x11 =>
            if x11 = true then (obd (c_Section_setFactor (A 7 s) (i32 j) x8 C) fun C12 => some (true, C12)) else some (false, C) := by
          unfold c_B_ratio
          rw [ho, jgd_true, e2, obd_some, jon_some, hts, jgd_true, f2, obd_some, if_pos (show true = true from rfl), if_neg hq, rs_numbers hsr, obd_some, jgd_true, whole_of J hs, obd_some, rb_doubles hb, obd_some, obd_some]
          simp only [obd_some, jgd_true]
        by_cases h2 : S.1 3 s < 2
        · have hrf : FP.Core.fits (fm (S.1 3 s)) (FP.Core.round (fm (S.1 3 s)) d) := FP.Core.round_fits (fq_good (fq_fm _)) d
          have vbb := ev_vb h2 hrf
          have hrn := round_num (f := fm (S.1 3 s)) hdn
          have hp := rp_of hb h2
          have cq : c_Real_quotient (A 5 (S.1 3 s)) p q (g_R_isPlain (i32 (S.1 2 s))) (some (A 5 0)) C = some (ev (fm (S.1 3 s)) (FP.Core.round (fm (S.1 3 s)) d)) := by
            unfold c_Real_quotient c_Real_quotient_e
            have h0 := rp_of hb (so := 0) (by decide)
            have dv0 : c_Real_divided (A 5 0) p q C = some (ev FP.Core.b64 d) := by rw [hd]; exact divided_of h0 hqi
            rw [obd_some, cob_of (ci := 5) h0.1, jgd_true, dv0, obd_some, cob_of (ci := 5) hp.1, jgd_true, taken_of (fq_fm _) (Or.inl rfl) hp h0 hdf, obd_some]
          have mq : h_R_ratio (i32 s) (i32 j) p q T = some (true, tsD T 7 (5 * s + j) (dv (S.1 3 s) (ev (fm (S.1 3 s)) (FP.Core.round (fm (S.1 3 s)) d)))) := by
            rw [dv_ev h2 hrf]
            have h40 : ∀ z : UInt64, h_R_ratio_40 (i32 s) (i32 j) p q z T = some (true, tsD T 7 (5 * s + j) z) := fun z => by
              unfold h_R_ratio_40
              rw [hj, obd_some, h3, if_neg (show ¬ i32 (S.1 3 s) = (2 : Int32) from i32_ne (b := 2) (by omega) (by decide) (by omega)), m167]
            unfold h_R_ratio
            rw [f1, obd_some, if_pos (show true = true from rfl), if_neg hq, jx, obd_some, hj, obd_some, h3]
            by_cases hs1 : S.1 3 s = 1
            · rw [hs1] at hrf hrn ⊢
              have hrf' : FP.Core.fits FP.Core.b32 (FP.Core.round FP.Core.b32 d) := hrf
              have hrn' : FP.Core.round FP.Core.b32 d ≠ .nan := hrn
              have ed : FP.d2f (rv64 0 d) = FP.Core.of32 (FP.Core.round FP.Core.b32 d) := by
                have e0 : FP.Core.val64 (rv64 0 d) = d := FP.Core.val64_of64 hdf
                rw [FP.d2f_core ((FP.Core.notNaN_iff _).mpr (by rw [e0]; exact hdn))]
                apply FP.Core.val32_inj
                · rw [FP.Core.val32_d2f, e0]; exact hrn'
                · rw [FP.Core.val32_d2f, e0, FP.Core.val32_of32 hrf']
              have n3 : n32 (FP.Core.of32 (FP.Core.round FP.Core.b32 d)) := (n32_iff _).mpr (by rw [FP.Core.val32_of32 hrf']; exact hrn')
              have n6 := (n64_rv (so := 1) (by decide) hrf).mpr hrn
              rw [if_pos (by rfl), ed, jnF_pos n3, obd_some]
              show obd (jnD (rv64 1 (FP.Core.round (fm 1) d))) _ = _
              rw [jnD_pos n6, obd_some, h40]
            · have hs0 : S.1 3 s = 0 := by omega
              rw [hs0] at ⊢
              rw [if_neg (by decide), h40, show FP.Core.round (fm 0) d = d from FP.Core.round_of_fits FP.Core.good_b64 hdf]
          refine ⟨true, _, _, ?_, mq, _, A, jj_coef J hs h1 vbb⟩
          rw [cpre, if_pos (cob_of (ci := 5) hp.1), cq, obd_some, (nums_holds hb hso _).1 (vb_hold vbb), obd_some, if_pos (show true = true from rfl), setFactor_of J hs h1, obd_some]
        · have hs2 : S.1 3 s = 2 := by omega
          obtain ⟨r, r1, r2⟩ := short_ref p q hqi (g_R_isPlain (i32 (S.1 2 s)))
          have cq : (if cob C (A 5 (S.1 3 s)) 5 = true then c_Real_quotient (A 5 (S.1 3 s)) p q (g_R_isPlain (i32 (S.1 2 s))) (some (A 5 0)) C else jgd (cob C (A 5 (S.1 3 s)) 8) (g_Shorts_quotient (A 5 (S.1 3 s)) p q (g_R_isPlain (i32 (S.1 2 s))) (some (A 5 0)))) = some r := by
            rw [hs2, if_neg (by rw [(shorts_cob hb).1]; decide), (shorts_cob hb).2, jgd_true]
            exact r1
          have mq : h_R_ratio (i32 s) (i32 j) p q T = h_R_ratio_151 (i32 s) (i32 j) r T := by
            unfold h_R_ratio
            rw [f1, obd_some, if_pos (show true = true from rfl), if_neg hq, jx, obd_some, hj, obd_some, h3, if_neg (show ¬ i32 (S.1 3 s) = (1 : Int32) from i32_ne (b := 1) (by omega) (by decide) (by omega))]
            unfold h_R_ratio_40
            rw [hj, obd_some, h3, if_pos (by rw [hs2]; rfl), obd_some, h2k, ← r2]
            by_cases g : g_R_isPlain (i32 (S.1 2 s)) = true
            · rw [if_pos g, if_pos g]
            · rw [if_neg g, if_neg g]
          by_cases hh : hold (S.1 3 s) r
          · have vbb : vb (S.1 3 s) r := by rw [hs2] at hh ⊢; exact hh
            refine ⟨true, _, _, ?_, ?_, _, A, jj_coef J hs h1 vbb⟩
            · rw [cpre, cq, obd_some, (nums_holds hb hso _).1 hh, obd_some, if_pos (show true = true from rfl), setFactor_of J hs h1, obd_some]
            · rw [mq]
              unfold h_R_ratio_151
              have hv2 : g_R_isValue (2 : Int32) r = true := (isValue_hold (so := 2) r (by decide)).mpr (by rw [hs2] at hh; exact hh)
              rw [if_pos hv2, m167, hs2]
              rfl
          · refine ⟨false, C, T, ?_, ?_, S, A, J⟩
            · rw [cpre, cq, obd_some, (nums_holds hb hso _).2 hh, obd_some, if_neg (by decide)]
            · rw [mq]
              unfold h_R_ratio_151
              rw [if_neg (fun z => hh (by rw [hs2]; exact (isValue_hold (so := 2) r (by decide)).mp z))]
    · refine ⟨false, C, T, ?_, ?_, S, A, J⟩
      · unfold c_B_ratio
        rw [ho, jgd_true, e2, obd_some, jon_some, hts, jgd_true, f2, obd_some]
        rfl
      · unfold h_R_ratio
        rw [f1, obd_some]; rfl
  · refine ⟨false, C, T, ?_, ?_, S, A, J⟩
    · unfold c_B_ratio
      rw [ho, jgd_true, e2, obd_some, jon_none]
    · unfold h_R_ratio h_R_isCoefficient
      rw [e1]; rfl
end RATIOB
