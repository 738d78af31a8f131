/-! what a coefficient means, as a double -/
section MEANING
variable {G : GT} {E B bx m s k : Nat} {ad : Nat → Nat} {S : ST} {A : AT} {C : CT} {T : MT}
theorem scaled_of {f : FP.Core.Fmt} {a : Nat} (hf : Fq f) (hp : RP f C a) {v : Int64} (hv : v.toInt.natAbs < 2 ^ 62) {X : Int32} {e : Int} (hX : X.toInt = e) (he : -5000 ≤ e ∧ e ≤ 5000) : c_Real_scaled a v X C = some (ev f (FP.Core.roundRatio f (decide (v.toInt < 0)) v.toInt.natAbs 1 e)) := by
  have ht : cob C a 5 = true := cob_of (ci := 5) hp.1
  have z0 : (0 : Int64).toInt = 0 := rfl
  unfold c_Real_scaled
  by_cases h0 : v = (0 : Int64)
  · subst h0
    have e1 : FP.Core.roundRatio f (decide ((0 : Int64).toInt < 0)) (0 : Int64).toInt.natAbs 1 e = .fin false 0 f.qmin := if_pos rfl
    rw [if_pos rfl, e1, ev_zero hf]
    rfl
  · have h1 : v.toInt ≠ 0 := fun z => h0 (Int64.toInt_inj.mp z)
    rw [if_neg h0]
    by_cases hneg : v.toInt < 0
    · have ge : ¬ (0 : Int64) ≤ v := by rw [Int64.le_iff_toInt_le, z0]; omega
      have eabs : g_JMath_abs v = j64 v.toInt.natAbs := by
        unfold g_JMath_abs
        rw [if_neg ge]
        apply Int64.toInt_inj.mp
        rw [j64_toInt (by omega), Int64.toInt_neg, Int.bmod_eq_of_le (by omega) (by omega)]
        omega
      rw [if_neg ge, decide_eq_true hneg]
      unfold c_Real_scaled_22
      rw [ht, jgd_true, eabs, packed_of hf hp (by omega) (by omega) hX he, obd_some]
    · have ge : (0 : Int64) ≤ v := by rw [Int64.le_iff_toInt_le, z0]; omega
      have eabs : g_JMath_abs v = j64 v.toInt.natAbs := by
        unfold g_JMath_abs
        rw [if_pos ge]
        apply Int64.toInt_inj.mp
        rw [j64_toInt (by omega)]
        omega
      rw [if_pos ge, decide_eq_false hneg]
      unfold c_Real_scaled_22
      rw [ht, jgd_true, eabs, packed_of hf hp (by omega) (by omega) hX he, obd_some]
/-- the datum that held bits mean -/
def mnD (so : Nat) (pl : Bool) (x : Int64) : FP.Core.Datum := if so < 2 then FP.Core.round FP.Core.b64 (dt so x) else FP.Core.roundRatio FP.Core.b64 (decide (x.toInt < 0)) x.toInt.natAbs 1 (if pl = true then 0 else -14)
theorem mnD_fits (so : Nat) (pl : Bool) (x : Int64) : FP.Core.fits FP.Core.b64 (mnD so pl x) := by
  unfold mnD
  split
  · exact FP.Core.round_fits FP.Core.good_b64 _
  · exact FP.Core.roundRatio_fits FP.Core.good_b64 _ _ (by decide) _
theorem meaning_of (J : JJ G E B bx m ad S A C T) (hs : s < S.1 1 0) (hk : k < nfac (S.1 2 s)) : c_B_meaningOf bx (some (A 7 s)) (i32 k) C = some (ev FP.Core.b64 (mnD (S.1 3 s) (g_R_isPlain (i32 (S.1 2 s))) (S.2.1 7 (5 * s + k)))) := by
  have hb := jj_b J
  have hr := jj_s J hs
  have h3 := so_lt J hs
  have h5 := nfac_5 (S.1 2 s)
  have hv := cf_vb J hs (k := k) (by omega)
  have ht := cob_of (ci := 7) (rs_tag hr)
  have h0 := rp_of hb (so := 0) (by decide)
  have t0 := cob_of (ci := 5) h0.1
  unfold c_B_meaningOf
  rw [obd_some, rs_numbers hr, obd_some, ht, jgd_true, factor_of J hs hk, obd_some, jgd_true, whole_of J hs, obd_some, rb_doubles hb, obd_some, obd_some]
  generalize S.2.1 7 (5 * s + k) = x at *
  by_cases h2 : S.1 3 s < 2
  · have hp := rp_of hb h2
    obtain ⟨d, hd, rfl⟩ := vb_ev h2 hv
    have et : c_Real_taken (A 5 0) (some (A 5 (S.1 3 s))) (ev (fm (S.1 3 s)) d) C = some (ev FP.Core.b64 (FP.Core.round FP.Core.b64 d)) := taken_of (Or.inl rfl) (fq_fm _) h0 hp hd
    have em : mnD (S.1 3 s) (g_R_isPlain (i32 (S.1 2 s))) (ev (fm (S.1 3 s)) d) = FP.Core.round FP.Core.b64 d := by
      unfold mnD
      rw [if_pos h2, dt_ev hd]
    rw [if_pos (cob_of (ci := 5) hp.1), em]
    unfold c_Real_meaning c_Real_meaning_e
    rw [obd_some, t0, jgd_true, et, obd_some, obd_some]
  · have hs2 : S.1 3 s = 2 := by omega
    have hx : x.toInt.natAbs < 2 ^ 62 := by
      rw [hs2] at hv
      have a1 : -32768 ≤ x.toInt := Int64.le_iff_toInt_le.mp hv.1
      have a2 : x.toInt ≤ 32767 := Int64.le_iff_toInt_le.mp hv.2
      omega
    rw [hs2, if_neg (by rw [(shorts_cob hb).1]; decide), (shorts_cob hb).2, jgd_true]
    unfold c_Shorts_meaning c_Shorts_meaning_e c_Shorts_meaning_13 mnD
    rw [if_neg (by decide : ¬ 2 < 2)]
    by_cases g : g_R_isPlain (i32 (S.1 2 s)) = true
    · rw [if_pos g, if_pos g, obd_some, t0, jgd_true, scaled_of (e := 0) (Or.inl rfl) h0 hx rfl (by decide), obd_some, obd_some]
    · rw [if_neg g, if_neg g, obd_some, t0, jgd_true, scaled_of (e := -14) (Or.inl rfl) h0 hx rfl (by decide), obd_some, obd_some]
end MEANING
