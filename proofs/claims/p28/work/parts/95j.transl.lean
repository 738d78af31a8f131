/-! translated, turned -/
section TRANSL
variable {so st bx a : Nat} {pl : Bool} {d : FP.Core.Datum} {S : ST} {A : AT} {C : CT} {x : Int64}
def trB (so st : Nat) (pl : Bool) (x : Int64) : Int64 := if st < 2 then ev (fm st) (FP.Core.round (fm st) (mnD so pl x)) else nrD pl (mnD so pl x)
def okB (so st : Nat) (pl : Bool) (x : Int64) : Bool := if st < 2 then true else g_Shorts_isShort (trB so st pl x)
theorem ok_vb (h3 : st < 3) (h : okB so st pl x = true) : vb st (trB so st pl x) := by
  unfold okB at h
  by_cases h2 : st < 2
  · unfold trB
    rw [if_pos h2]
    exact ev_vb h2 (rd_fits st _)
  · have : st = 2 := by omega
    subst this
    rw [if_neg h2] at h
    exact (isShort_iff _).mp h
theorem meant_of (hb : RCb S A C bx) (h3 : so < 3) (hv : vb so x) : (if cob C (A 5 so) 5 = true then c_Real_meaning (A 5 so) x pl (some (A 5 0)) C else jgd (cob C (A 5 so) 8) (c_Shorts_meaning (A 5 so) x pl (some (A 5 0)) C)) = some (ev FP.Core.b64 (mnD so pl x)) := by
  have h0 := rp_of hb (so := 0) (by decide)
  have t0 := cob_of (ci := 5) h0.1
  by_cases h2 : so < 2
  · have hp := rp_of hb h2
    obtain ⟨d, hd, rfl⟩ := vb_ev h2 hv
    have et : c_Real_taken (A 5 0) (some (A 5 so)) (ev (fm so) d) C = some (ev FP.Core.b64 (FP.Core.round FP.Core.b64 d)) := taken_of (Or.inl rfl) (fq_fm _) h0 hp hd
    have em : mnD so pl (ev (fm so) d) = FP.Core.round FP.Core.b64 d := by
      unfold mnD
      rw [if_pos h2, dt_ev hd]
    rw [if_pos (cob_of (ci := 5) hp.1), em]
    unfold c_Real_meaning c_Real_meaning_e
    rw [obd_some, t0, jgd_true, et, obd_some]
  · have hs2 : so = 2 := by omega
    subst hs2
    have hx : x.toInt.natAbs < 2 ^ 62 := by
      have a1 : -32768 ≤ x.toInt := Int64.le_iff_toInt_le.mp hv.1
      have a2 : x.toInt ≤ 32767 := Int64.le_iff_toInt_le.mp hv.2
      omega
    rw [if_neg (by rw [(shorts_cob hb).1]; decide), (shorts_cob hb).2, jgd_true]
    unfold c_Shorts_meaning c_Shorts_meaning_e c_Shorts_meaning_13 mnD
    rw [if_neg (by decide : ¬ 2 < 2)]
    cases pl with
    | true => rw [if_pos rfl, if_pos rfl, obd_some, t0, jgd_true, scaled_of (e := 0) (Or.inl rfl) h0 hx rfl (by decide), obd_some]
    | false => rw [if_neg (by decide), if_neg (by decide), obd_some, t0, jgd_true, scaled_of (e := -14) (Or.inl rfl) h0 hx rfl (by decide), obd_some]
theorem translated_of (hb : RCb S A C bx) (h3 : so < 3) (s3 : st < 3) (hv : vb so x) : c_B_translated bx (some (A 5 so)) x pl (some (A 5 st)) C = some (trB so st pl x) := by
  have h0 := rp_of hb (so := 0) (by decide)
  have hm := meant_of (pl := pl) hb h3 hv
  have hf := mnD_fits so pl x
  unfold c_B_translated
  rw [rb_doubles hb, obd_some, obd_some, hm, obd_some, obd_some, obd_some]
  by_cases h2 : st < 2
  · have hp := rp_of hb h2
    have et : c_Real_taken (A 5 st) (some (A 5 0)) (ev FP.Core.b64 (mnD so pl x)) C = some (ev (fm st) (FP.Core.round (fm st) (mnD so pl x))) := taken_of (fq_fm _) (Or.inl rfl) hp h0 hf
    have e : trB so st pl x = ev (fm st) (FP.Core.round (fm st) (mnD so pl x)) := if_pos h2
    rw [if_pos (cob_of (ci := 5) hp.1), e]
    unfold c_Real_nearest c_Real_nearest_e
    rw [cob_of (ci := 5) hp.1, jgd_true, et, obd_some, obd_some]
  · have hs2 : st = 2 := by omega
    subst hs2
    have e : trB so 2 pl x = nrD pl (mnD so pl x) := if_neg (by decide)
    rw [if_neg (by rw [(shorts_cob hb).1]; decide), (shorts_cob hb).2, jgd_true, e]
    unfold c_Shorts_nearest
    rw [near_of h0 hf, obd_some]
theorem holds_of (hb : RCb S A C bx) (s3 : st < 3) : (if cob C (A 5 st) 5 = true then c_Real_holds (A 5 st) (trB so st pl x) C else jgd (cob C (A 5 st) 8) (some (g_Shorts_holds (A 5 st) (trB so st pl x)))) = some (okB so st pl x) := by
  obtain ⟨n1, n2⟩ := nums_holds hb s3 (trB so st pl x)
  cases h : okB so st pl x with
  | true => exact n1 (vb_hold (ok_vb s3 h))
  | false =>
    have h2 : st = 2 := by
      unfold okB at h
      by_cases h2 : st < 2
      · rw [if_pos h2] at h; cases h
      · omega
    subst h2
    refine n2 (fun z => ?_)
    have hs : g_Shorts_isShort (trB so 2 pl x) = false := h
    rw [(isShort_iff _).mpr z] at hs
    cases hs
theorem nanF {z : UInt64} (h : FP.Core.val64 z ≠ .nan) : FP.dIsNaN z = false := by
  cases e : FP.dIsNaN z with
  | false => rfl
  | true => exact absurd ((FP.Core.dIsNaN_iff z).mp e) h
/-- a double that means what held bits mean -/
theorem z_short {y : UInt64} (hd : FP.Core.fits FP.Core.b64 d) (hdn : d ≠ .nan) (hv : FP.Core.val64 y = d) : g_R_turned_40 2 pl y = some (if g_Shorts_isShort (nrD pl d) = true then FP.l2d (nrD pl d) else 0x40e3880000000000) := by
  obtain ⟨u, hu⟩ : ∃ u, u = 2 ^ 1021 := ⟨_, rfl⟩
  have hP := one64_u hu
  have hinf : ∀ s, (s = false → 40000 * (FP.Core.one64 : Int) ≤ FP.Core.zval FP.Core.b64 (.inf s)) ∧ (s = true → FP.Core.zval FP.Core.b64 (.inf s) ≤ -40000 * (FP.Core.one64 : Int)) := fun s => by
    have e : FP.Core.zval FP.Core.b64 (.inf s) = FP.Core.signed s (FP.Core.b64.tails * 2 ^ (FP.Core.b64.exps - 2)) := rfl
    have h3 : 2 ^ 70 * u < FP.Core.b64.tails * 2 ^ (FP.Core.b64.exps - 2) := by
      rw [show FP.Core.b64.tails = 2 ^ 52 from by decide, show FP.Core.b64.exps - 2 = 2046 from by decide, hu, ← Nat.pow_add, ← Nat.pow_add]
      exact Nat.pow_lt_pow_right (by decide) (by decide)
    rw [e, hP]
    generalize FP.Core.b64.tails * 2 ^ (FP.Core.b64.exps - 2) = Z at *
    refine ⟨fun z => ?_, fun z => ?_⟩
    · subst z
      show _ ≤ (Z : Int)
      omega
    · subst z
      show -(Z : Int) ≤ _
      omega
  unfold g_R_turned_40
  rw [if_neg (by decide), if_neg (by decide)]
  cases hp : pl with
  | true =>
    rw [if_pos rfl]
    refine turn_short hd (by rw [hv]; exact hdn) hdn ?_
    rw [hv]
    cases d with
    | nan => trivial
    | inf s => exact hinf s
    | fin s c q =>
      have hz : zo true = 0 := rfl
      have hq : q ≤ 971 := hd.2.2.1
      refine ⟨fun _ => ?_, fun h => by omega⟩
      rw [zval_fin, hz, Int.add_zero]
  | false =>
    rw [if_neg (by decide)]
    have hz : zo false = 14 := rfl
    have e0 : FP.Core.val64 0x40d0000000000000 = .fin false (2 ^ 52) (-38) := by decide +kernel
    have ev : FP.Core.val64 (FP.dmul 0x40d0000000000000 y) = FP.Core.round FP.Core.b64 (FP.Core.exactProduct (.fin false (2 ^ 52) (-38)) d) := by
      have := FP.Core.val64_dmul 0x40d0000000000000 y
      rw [e0, hv] at this
      exact this
    have key : FP.Core.val64 (FP.dmul 0x40d0000000000000 y) ≠ .nan ∧ WY false d (FP.Core.zval FP.Core.b64 (FP.Core.val64 (FP.dmul 0x40d0000000000000 y))) := by
      rw [ev]
      cases d with
      | nan => exact absurd rfl hdn
      | inf s =>
        have e1 : FP.Core.round FP.Core.b64 (FP.Core.exactProduct (.fin false (2 ^ 52) (-38)) (.inf s)) = .inf s := by
          show FP.Core.round FP.Core.b64 (if (2 ^ 52 : Nat) = 0 then .nan else .inf (false != s)) = .inf s
          rw [if_neg (by decide), Bool.false_bne]
          rfl
        rw [e1]
        exact ⟨fun z => (by cases z), hinf s⟩
      | fin s c q =>
        obtain ⟨f1, f2, f3, f4⟩ := hd
        have f1 : c < 2 ^ 53 := f1
        have f2 : -1074 ≤ q := f2
        have q0 : FP.Core.b64.qmin = -1074 := rfl
        have e1 : FP.Core.exactProduct (.fin false (2 ^ 52) (-38)) (.fin s c q) = .fin s (2 ^ 52 * c) (-38 + q) := by
          show FP.Core.Datum.fin (false != s) (2 ^ 52 * c) (-38 + q) = _
          rw [Bool.false_bne]
        rw [e1]
        have eU : FP.Core.inUnits (2 ^ 52 * c) (-38 + q) (-1112) = 2 ^ 52 * c * 2 ^ (q + 1074).toNat := by
          unfold FP.Core.inUnits
          rw [show (-38 + q - -1112).toNat = (q + 1074).toNat by omega]
        have e38 : (FP.Core.b64.qmin - -1112).toNat = 38 := by rw [q0]; rfl
        have le : ∀ V, FP.Core.fits FP.Core.b64 V → V ≠ .nan → FP.Core.signed s (2 ^ 52 * c * 2 ^ (q + 1074).toNat) ≤ FP.Core.zval FP.Core.b64 V * ((2 ^ 38 : Nat) : Int) → FP.Core.zval FP.Core.b64 (FP.Core.round FP.Core.b64 (.fin s (2 ^ 52 * c) (-38 + q))) ≤ FP.Core.zval FP.Core.b64 V := fun V fV nV h =>
          FP.Core.zval_round_le FP.Core.good_b64 (e0 := -1112) fV nV (by rw [q0]; decide) (by omega) (by rw [eU, e38]; exact h)
        have ge : ∀ V, FP.Core.fits FP.Core.b64 V → V ≠ .nan → FP.Core.zval FP.Core.b64 V * ((2 ^ 38 : Nat) : Int) ≤ FP.Core.signed s (2 ^ 52 * c * 2 ^ (q + 1074).toNat) → FP.Core.zval FP.Core.b64 V ≤ FP.Core.zval FP.Core.b64 (FP.Core.round FP.Core.b64 (.fin s (2 ^ 52 * c) (-38 + q))) := fun V fV nV h =>
          FP.Core.zval_round_ge FP.Core.good_b64 (e0 := -1112) fV nV (by rw [q0]; decide) (by omega) (by rw [eU, e38]; exact h)
        refine ⟨round_num (fun z => by cases z), ?_⟩
        unfold WY
        rw [hz]
        refine ⟨fun h => ?_, fun h => ?_⟩
        · obtain ⟨V, v1, v2, v3⟩ := rep (s := s) (c := c) (j := (q + 14 + 1074).toNat) f1 (by omega)
          have hVn : V ≠ .nan := by obtain ⟨t, d, r, rfl⟩ := v2; exact fun z => by cases z
          have eq : FP.Core.signed s (2 ^ 52 * c * 2 ^ (q + 1074).toNat) = FP.Core.zval FP.Core.b64 V * ((2 ^ 38 : Nat) : Int) := by
            rw [v3, ← FP.Core.signed_mul]
            refine congrArg (FP.Core.signed s) ?_
            rw [show (q + 14 + 1074).toNat = (q + 1074).toNat + 14 by omega, Nat.pow_add, Nat.mul_comm (2 ^ 52) c, Nat.mul_assoc, Nat.mul_assoc, Nat.mul_assoc, ← Nat.pow_add 2 14 38, Nat.mul_comm (2 ^ 52)]
          have a1 := le V v1 hVn (Int.le_of_eq eq)
          have a2 := ge V v1 hVn (Int.le_of_eq eq.symm)
          rw [← v3]
          omega
        · have hc : 2 ^ 52 ≤ c := by
            rcases f4 with h | h
            · have h : q = -1074 := h
              omega
            · exact h
          have n1 := FP.Core.DInt_ne_nan dI_40
          have n2 := FP.Core.DInt_ne_nan dI_m40
          have w1 := FP.Core.DInt_zval dI_40
          have w2 := FP.Core.DInt_zval dI_m40
          have hbig : 40000 * FP.Core.one64 * 2 ^ 38 ≤ 2 ^ 52 * c * 2 ^ (q + 1074).toNat := by
            obtain ⟨i, hi⟩ : ∃ i, (q + 1074).toNat = 1074 + i := ⟨(q + 1074).toNat - 1074, by omega⟩
            have h1 : FP.Core.one64 ≤ 2 ^ (q + 1074).toNat := by
              unfold FP.Core.one64
              exact Nat.pow_le_pow_right (by decide) (by omega)
            rw [Nat.mul_right_comm]
            exact Nat.mul_le_mul (by omega) h1
          generalize 2 ^ 52 * c * 2 ^ (q + 1074).toNat = Z at *
          generalize FP.Core.one64 = P1 at *
          generalize FP.Core.zval FP.Core.b64 (FP.Core.round FP.Core.b64 (.fin s (2 ^ 52 * c) (-38 + q))) = Y1 at *
          refine ⟨fun z => ?_, fun z => ?_⟩
          · subst z
            have := ge _ (FP.Core.val64_fits 0x40e3880000000000) n1 (by
              rw [w1]
              show _ ≤ (Z : Int)
              omega)
            rw [w1] at this
            exact this
          · subst z
            have := le _ (FP.Core.val64_fits 0xc0e3880000000000) n2 (by
              rw [w2]
              show -(Z : Int) ≤ _
              omega)
            rw [w2] at this
            exact this
    rw [jnD_pos ((n64_iff _).mpr key.1), obd_some]
    exact turn_short hd key.1 hdn key.2
theorem turned_of (h3 : so < 3) (s3 : st < 3) (hv : vb so x) : g_R_turned (dv so x) (i32 so) (i32 st) pl = some (if okB so st pl x = true then dv st (trB so st pl x) else 0x40e3880000000000) := by
  have hf := mnD_fits so pl x
  have key : ∀ z : UInt64, FP.Core.val64 z = mnD so pl x → mnD so pl x ≠ .nan → g_R_turned_40 (i32 st) pl z = some (if okB so st pl x = true then dv st (trB so st pl x) else 0x40e3880000000000) := fun z hz hn => by
    have hzn : FP.Core.val64 z ≠ .nan := by rw [hz]; exact hn
    by_cases h2 : st < 2
    · have ok : okB so st pl x = true := if_pos h2
      have et : trB so st pl x = ev (fm st) (FP.Core.round (fm st) (mnD so pl x)) := if_pos h2
      rw [ok, if_pos rfl, et, dv_ev h2 (rd_fits st _)]
      unfold g_R_turned_40
      match st, h2 with
      | 0, _ =>
        rw [if_pos (by rfl)]
        refine congrArg some (FP.Core.val64_inj hzn ?_)
        have e1 : rv64 0 (FP.Core.round (fm 0) (mnD so pl x)) = FP.Core.of64 (FP.Core.round FP.Core.b64 (mnD so pl x)) := rfl
        rw [e1, FP.Core.round_of_fits FP.Core.good_b64 hf, FP.Core.val64_of64 hf, hz]
      | 1, _ =>
        rw [if_neg (by decide), if_pos (by rfl)]
        have e1 : FP.d2f z = FP.Core.of32 (FP.Core.round FP.Core.b32 (mnD so pl x)) := by
          have hv : FP.Core.val32 (FP.d2f z) = FP.Core.round FP.Core.b32 (mnD so pl x) := by rw [← hz, FP.d2f_core (nanF hzn)]; exact FP.Core.val32_d2f z
          refine FP.Core.val32_inj ?_ ?_
          · rw [hv]; exact round_num hn
          · rw [hv, FP.Core.val32_of32 (FP.Core.round_fits FP.Core.good_b32 _)]
        have hn32 : n32 (FP.d2f z) := by
          rw [n32_iff]
          have hv : FP.Core.val32 (FP.d2f z) = FP.Core.round FP.Core.b32 (mnD so pl x) := by rw [← hz, FP.d2f_core (nanF hzn)]; exact FP.Core.val32_d2f z
          rw [hv]; exact round_num hn
        rw [jnF_pos hn32, obd_some, jnD_pos (f2d_n hn32), obd_some, e1]
        rfl
    · have : st = 2 := by omega
      subst this
      have e := z_short (pl := pl) hf hn hz
      have et : trB so 2 pl x = nrD pl (mnD so pl x) := if_neg (by decide)
      have eo : okB so 2 pl x = g_Shorts_isShort (nrD pl (mnD so pl x)) := by rw [← et]; exact if_neg (by decide)
      rw [eo, et]
      exact e
  have hnan : mnD so pl x = .nan → (if i32 st = 2 then some 0x40e3880000000000 else some (0x7ff8000000000000 : UInt64)) = some (if okB so st pl x = true then dv st (trB so st pl x) else 0x40e3880000000000) := fun hn => by
    by_cases h2 : st < 2
    · have ok : okB so st pl x = true := if_pos h2
      have et : trB so st pl x = ev (fm st) (FP.Core.round (fm st) (mnD so pl x)) := if_pos h2
      have er : FP.Core.round (fm st) .nan = .nan := rfl
      have fn : FP.Core.fits (fm st) .nan := by have := rd_fits st .nan; rw [er] at this; exact this
      rw [ok, if_pos rfl, et, hn, er, dv_ev h2 fn, rv_nan h2, if_neg (show ¬ i32 st = (2 : Int32) from i32_ne (b := 2) (by omega) (by decide) (by omega))]
    · have : st = 2 := by omega
      subst this
      have et : trB so 2 pl x = nrD pl (mnD so pl x) := if_neg (by decide)
      have eo : okB so 2 pl x = false := by
        have : okB so 2 pl x = g_Shorts_isShort (trB so 2 pl x) := if_neg (by decide)
        rw [this, et, hn]; rfl
      rw [eo]; rfl
  unfold g_R_turned
  by_cases h2 : so < 2
  · have hd := dv_val h2 hv
    have em : mnD so false x = mnD so pl x := by unfold mnD; rw [if_pos h2, if_pos h2]
    rw [em] at hd
    have nso : ¬ i32 so = (2 : Int32) := i32_ne (b := 2) (by omega) (by decide) (by omega)
    by_cases hn : mnD so pl x = .nan
    · rw [if_neg (cmp_nan (fun z => (n64_iff _).mp z (hd.trans hn)))]
      exact hnan hn
    · rw [if_pos (cmp_self ((n64_iff _).mpr (by rw [hd]; exact hn))), if_neg nso]
      exact key _ hd hn
  · have : so = 2 := by omega
    subst this
    have a1 : -32768 ≤ x.toInt := Int64.le_iff_toInt_le.mp hv.1
    have a2 : x.toInt ≤ 32767 := Int64.le_iff_toInt_le.mp hv.2
    rw [dv2, if_pos (cmp_self (l2d_n x)), if_pos (by rfl)]
    have hn : mnD 2 pl x ≠ .nan := by
      unfold mnD
      rw [if_neg (by decide)]
      exact roundRatio_num
    cases hp : pl with
    | true =>
      rw [hp] at key hn
      rw [if_pos rfl]
      refine key _ ?_ hn
      rw [FP.Core.val64_l2d]
      unfold mnD
      rw [if_neg (by decide), if_pos rfl]
      rfl
    | false =>
      rw [hp] at key hn
      have hd := part_16384 a1 a2
      have em : FP.Core.val64 (FP.ddiv (FP.l2d x) 0x40d0000000000000) = mnD 2 false x := by
        rw [hd]
        unfold mnD
        rw [if_neg (by decide), if_neg (by decide)]
      rw [if_neg (by decide), jnD_pos ((n64_iff _).mpr (by rw [em]; exact hn)), obd_some]
      exact key _ em hn
/-- the reference's mark of what is no short -/
theorem mark_of (s3 : st < 3) (h2 : st = 2) {b : Bool} {t : Int64} (hb : b = true → vb 2 t) : Op.cmpValue (FP.dcmp (if b = true then dv st t else 0x40e3880000000000) 0x40e3880000000000) .l = 0 ↔ b = false := by
  subst h2
  cases hbb : b with
  | true =>
    have hv := hb hbb
    have a1 : -32768 ≤ t.toInt := Int64.le_iff_toInt_le.mp hv.1
    have a2 : t.toInt ≤ 32767 := Int64.le_iff_toInt_le.mp hv.2
    have hl : FP.Core.DInt t.toInt (FP.l2d t) := FP.Core.l2d_int (a := t) (by omega)
    rw [if_pos rfl, dv2, dI_cmp hl dI_40, sg_eq0]
    exact ⟨fun z => by omega, fun z => by cases z⟩
  | false =>
    rw [if_neg (by decide), dI_cmp dI_40 dI_40, sg_eq0]
    exact ⟨fun _ => rfl, fun _ => by omega⟩
end TRANSL
