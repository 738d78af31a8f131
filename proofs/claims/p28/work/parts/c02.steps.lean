/-! what a section of FIXED makes of a sample, told out -/
def szF (v : Int64) : Int64 := if (0 : Int64) ≤ v then v else g_Shorts_cut (-v)
def aS (kd how lim far : Nat) (a b : Int64) (σ : AS) (v : Int64) : Int64 × AS := match kd with
  | 0 => acut how lim σ (a * v)
  | 1 => ((acut how lim σ (a * v + b * σ.1 0)).1, pu0 (acut how lim σ (a * v + b * σ.1 0)).2 (acut how lim σ (a * v + b * σ.1 0)).1)
  | 5 => ((acut how lim (acut how lim σ (v * 16384 + -(a * σ.1 0))).2 (a * (acut how lim σ (v * 16384 + -(a * σ.1 0))).1 + σ.1 0 * 16384)).1, pu0 (acut how lim (acut how lim σ (v * 16384 + -(a * σ.1 0))).2 (a * (acut how lim σ (v * 16384 + -(a * σ.1 0))).1 + σ.1 0 * 16384)).2 (acut how lim σ (v * 16384 + -(a * σ.1 0))).1)
  | 6 => (σ.1 σ.2.1, pur σ far v)
  | 8 => ((acut how lim σ (v * 16384 + a * σ.1 σ.2.1)).1, pur (acut how lim σ (v * 16384 + a * σ.1 σ.2.1)).2 far (acut how lim σ (v * 16384 + a * σ.1 σ.2.1)).1)
  | 9 => if a < v then (a, tou σ) else if v < g_Shorts_cut (-a) then (g_Shorts_cut (-a), tou σ) else (v, σ)
  | 10 => if a < szF v then (v, σ) else (0, tou σ)
  | _ => if σ.1 0 < szF v then (szF v, pu0 σ (szF v)) else ((acut how lim σ (a * σ.1 0)).1, pu0 (acut how lim σ (a * σ.1 0)).2 (acut how lim σ (a * σ.1 0)).1)
def sp (S : ST) (s : Nat) (x : Int64) : Int64 × AS := aS (S.1 2 s) (S.1 5 s) (S.1 6 s) (rln S s) (S.2.1 7 (5 * s + 0)) (S.2.1 7 (5 * s + 1)) (vS S s) x
def StF (G : GT) (E B bx m : Nat) (ad : Nat → Nat) (S : ST) (A : AT) (s : Nat) (x : Int64) (run : Option (Int64 × CT)) : Prop :=
  ∃ S' C', run = some ((sp S s x).1, C') ∧ JF G E B bx m ad S' A C' ∧ vS S' s = (sp S s x).2 ∧ Dys S S' s ∧ vb 2 (sp S s x).1
theorem prF (c v : Int64) : prB 2 c v = c * v := if_neg (by decide)
theorem plF (x y : Int64) : plB 2 x y = x + y := if_neg (by decide)
theorem opF (x : Int64) : opB 2 x = -x := if_neg (by decide)
theorem tmF (x : Int64) : tmB 2 x = x * 16384 := if_neg (by decide)
theorem szFe (x : Int64) : szB 2 x = szF x := if_neg (by decide)
theorem ngF (x : Int64) : ngB 2 x = g_Shorts_cut (-x) := if_neg (by decide)
theorem nuF (x : Int64) : nuB 2 x = true := if_neg (by decide)
theorem abF (x y : Int64) : abB 2 x y = true ↔ y < x := by
  have e : odB 2 x y = some (compare x.toInt y.toInt) := if_neg (by decide)
  unfold abB
  rw [e, Int64.lt_iff_toInt_lt]
  rcases Int.lt_trichotomy x.toInt y.toInt with h | h | h
  · rw [Int.compare_eq_lt.mpr h]
    exact ⟨fun q => absurd q (by decide), fun q => absurd q (by omega)⟩
  · rw [Int.compare_eq_eq.mpr h]
    exact ⟨fun q => absurd q (by decide), fun q => absurd q (by omega)⟩
  · rw [Int.compare_eq_gt.mpr h]
    exact ⟨fun _ => h, fun _ => rfl⟩
section STEPSF
variable {G : GT} {E B bx m s : Nat} {ad : Nat → Nat} {S S' : ST} {A : AT} {C C' : CT} {x made : Int64}
theorem fx_run (J : JF G E B bx m ad S A C) (hs : s < S.1 1 0) (hso : S.1 3 s = 2) :
    (∀ k, k < nfac (S.1 2 s) → ∀ v, c_Section_times (A 7 s) (i32 k) v C = some (S.2.1 7 (5 * s + k) * v)) ∧ (∀ k, k < nfac (S.1 2 s) → ∀ v, c_Section_lessTimes (A 7 s) (i32 k) v C = some (-(S.2.1 7 (5 * s + k) * v))) ∧
    (∀ x y, (if cob C (A 5 2) 5 = true then c_Real_plus (A 5 2) x y C else jgd (cob C (A 5 2) 8) (some (g_Shorts_plus (A 5 2) x y))) = some (x + y)) ∧ (∀ x, (if cob C (A 5 2) 5 = true then some (g_Real_term (A 5 2) x) else jgd (cob C (A 5 2) 8) (some (g_Shorts_term (A 5 2) x))) = some (x * 16384)) ∧
    cgA C (A 7 s) 7 4 = some (some (A 5 2)) ∧ cgA C (A 7 s) 7 6 = some (some (A 118 s)) ∧ cob C (A 7 s) 7 = true ∧ cob C (A 118 s) 6 = true ∧ cgI C (A 7 s) 7 1 = some (i32 (S.1 2 s)) := by
  have hb := jj_b J
  have hr := jj_s J hs
  refine ⟨fun k hk v => ?_, fun k hk v => ?_, fun x y => ?_, fun x => ?_, ?_, rs_states hr, cob_of (rs_tag hr), cob_of (ci := 6) hr.2.2.2.1, rs_kind hr⟩
  · have e := times_of J hs hk (v := v) (fun h => absurd h (by omega))
    rw [hso, prF] at e; exact e
  · have e := less_of J hs hk (v := v) (fun h => absurd h (by omega))
    rw [hso, prF, opF] at e; exact e
  · have e := nums_plus (so := 2) hb (by decide) (c := x) (v := y) (fun h => absurd h (by decide)) (fun h => absurd h (by decide))
    rw [plF] at e; exact e
  · have e := nums_term (so := 2) hb (by decide) x
    rw [tmF] at e; exact e
  · have e := rs_numbers hr
    rw [hso] at e; exact e
theorem fx_0 {N : Nat} (J : JF G E B bx m ad S A C) (hs : s < S.1 1 0) (hso : S.1 3 s = 2) (hk : S.1 2 s = 0) : StF G E B bx m ad S A s x (c_Section_step N (A 7 s) x made C) := by
  obtain ⟨t1, -, -, -, -, -, t7, -, t9⟩ := fx_run J hs hso
  have t := t1 0 (by rw [hk]; decide) x
  obtain ⟨S', C', u1, u2, u3, u4, u5⟩ := settled_fix J hs hso (S.2.1 7 (5 * s + 0) * x)
  have e : sp S s x = acut (S.1 5 s) (S.1 6 s) (vS S s) (S.2.1 7 (5 * s + 0) * x) := by unfold sp; rw [hk]; rfl
  rw [hk] at t9
  refine ⟨S', C', ?_, u2, by rw [e]; exact u3, u4.dys, by rw [e]; exact u5⟩
  unfold c_Section_step
  rw [t9, obd_some, if_pos (by rfl), t7, jgd_true, show (0 : Int32) = i32 0 from rfl, t, obd_some, jgd_true, u1, cbd2_some, e]
theorem fx_1 {N : Nat} (J : JF G E B bx m ad S A C) (hs : s < S.1 1 0) (hso : S.1 3 s = 2) (hk : S.1 2 s = 1) : StF G E B bx m ad S A s x (c_Section_step N (A 7 s) x made C) := by
  obtain ⟨t1, -, t3, -, t5, t6, t7, t8, t9⟩ := fx_run J hs hso
  have hrl : 0 < rln S s := by unfold rln; rw [hk]; exact Nat.one_pos
  have ha := t1 0 (by rw [hk]; decide) x
  have hbb := t1 1 (by rw [hk]; decide) (S.2.1 13 (64 * s + 0))
  have hat := at_flat J hs (k := 0) (by rw [hk]; rfl) hrl
  obtain ⟨S1, C1, u1, u2, u3, u4, u5⟩ := settled_fix J hs hso (S.2.1 7 (5 * s + 0) * x + S.2.1 7 (5 * s + 1) * S.2.1 13 (64 * s + 0))
  have p1 : S1.1 = S.1 := u4.1
  have hs1 : s < S1.1 1 0 := by rw [p1]; exact hs
  have er : rln S1 = rln S := sl_rln u4
  obtain ⟨S2, C2, v1, v2, v3, v4⟩ := put_fix u2 hs1 (by rw [p1]; exact hso) (by rw [p1, hk]; rfl) (by rw [p1, hk]; decide) (by rw [er]; exact hrl) u5
  obtain ⟨-, -, -, -, -, w6, -, w8, -⟩ := fx_run u2 hs1 (by rw [p1]; exact hso)
  have e : sp S s x = ((acut (S.1 5 s) (S.1 6 s) (vS S s) (S.2.1 7 (5 * s + 0) * x + S.2.1 7 (5 * s + 1) * S.2.1 13 (64 * s + 0))).1, pu0 (acut (S.1 5 s) (S.1 6 s) (vS S s) (S.2.1 7 (5 * s + 0) * x + S.2.1 7 (5 * s + 1) * S.2.1 13 (64 * s + 0))).2 (acut (S.1 5 s) (S.1 6 s) (vS S s) (S.2.1 7 (5 * s + 0) * x + S.2.1 7 (5 * s + 1) * S.2.1 13 (64 * s + 0))).1) := by unfold sp; rw [hk]; rfl
  refine ⟨S2, C2, ?_, v2, by rw [e, v3, u3], u4.dys.trans v4, by rw [e]; exact u5⟩
  refine stp_1 J hs hk ?_
  unfold c_Section_pole
  have ha' : c_Section_times (A 7 s) (0 : Int32) x C = _ := ha
  have hb' : c_Section_times (A 7 s) (1 : Int32) (S.2.1 13 (64 * s + 0)) C = _ := hbb
  have hat' : c_Row_at (A 118 s) (0 : Int32) C = _ := hat
  simp only [t5, t6, t7, t8, ha', hb', hat', t3, u1, w6, w8, v1, obd_some, jgd_true, cbd2_some, e]
theorem fx_5 {N : Nat} (J : JF G E B bx m ad S A C) (hs : s < S.1 1 0) (hso : S.1 3 s = 2) (hk : S.1 2 s = 5) : StF G E B bx m ad S A s x (c_Section_step N (A 7 s) x made C) := by
  obtain ⟨t1, t2, t3, t4, t5, t6, t7, t8, t9⟩ := fx_run J hs hso
  have hrl : 0 < rln S s := by unfold rln; rw [hk]; exact Nat.one_pos
  have hl : c_Section_lessTimes (A 7 s) (0 : Int32) (S.2.1 13 (64 * s + 0)) C = _ := t2 0 (by rw [hk]; decide) (S.2.1 13 (64 * s + 0))
  have hat : c_Row_at (A 118 s) (0 : Int32) C = _ := at_flat J hs (k := 0) (by rw [hk]; rfl) hrl
  obtain ⟨S1, C1, u1, u2, u3, u4, u5⟩ := settled_fix J hs hso (x * 16384 + -(S.2.1 7 (5 * s + 0) * S.2.1 13 (64 * s + 0)))
  have p1 : S1.1 = S.1 := u4.1
  have hs1 : s < S1.1 1 0 := by rw [p1]; exact hs
  have hso1 : S1.1 3 s = 2 := by rw [p1]; exact hso
  have e7 : S1.2.1 7 (5 * s + 0) = S.2.1 7 (5 * s + 0) := by rw [sl_J u4 (by decide)]
  obtain ⟨w1, -, w3, w4, w5, w6, w7, w8, w9⟩ := fx_run u2 hs1 hso1
  have hm : c_Section_times (A 7 s) (0 : Int32) (acut (S.1 5 s) (S.1 6 s) (vS S s) (x * 16384 + -(S.2.1 7 (5 * s + 0) * S.2.1 13 (64 * s + 0)))).1 C1 = _ := w1 0 (by rw [p1, hk]; decide) _
  rw [e7] at hm
  obtain ⟨S2, C2, v1, v2, v3, v4, v5⟩ := settled_fix u2 hs1 hso1 (S.2.1 7 (5 * s + 0) * (acut (S.1 5 s) (S.1 6 s) (vS S s) (x * 16384 + -(S.2.1 7 (5 * s + 0) * S.2.1 13 (64 * s + 0)))).1 + S.2.1 13 (64 * s + 0) * 16384)
  have p2 : S2.1 = S.1 := v4.1.trans p1
  have hs2 : s < S2.1 1 0 := by rw [p2]; exact hs
  have er2 : rln S2 = rln S := (sl_rln v4).trans (sl_rln u4)
  obtain ⟨-, -, -, -, -, y6, -, y8, -⟩ := fx_run v2 hs2 (by rw [p2]; exact hso)
  obtain ⟨S3, C3, z1, z2, z3, z4⟩ := put_fix v2 hs2 (by rw [p2]; exact hso) (by rw [p2, hk]; rfl) (by rw [p2, hk]; decide) (by rw [er2]; exact hrl) u5
  have e : sp S s x = aS 5 (S.1 5 s) (S.1 6 s) (rln S s) (S.2.1 7 (5 * s + 0)) (S.2.1 7 (5 * s + 1)) (vS S s) x := by unfold sp; rw [hk]
  rw [p1, u3] at v1 v3 v5
  refine ⟨S3, C3, ?_, z2, ?_, (u4.dys.trans v4.dys).trans z4, ?_⟩
  · refine stp_5 J hs hk ?_
    unfold c_Section_pass
    simp only [t5, t6, t7, t8, hl, hat, t3, t4, u1, w3, w4, w5, w7, hm, v1, y6, y8, z1, obd_some, jgd_true, cbd2_some, e]
    rfl
  · rw [z3, v3, e]
    rfl
  · rw [e]
    exact v5
theorem fx_6 {N : Nat} (J : JF G E B bx m ad S A C) (hs : s < S.1 1 0) (hso : S.1 3 s = 2) (hk : S.1 2 s = 6) (hv : vb 2 x) : StF G E B bx m ad S A s x (c_Section_step N (A 7 s) x made C) := by
  obtain ⟨-, -, -, -, -, t6, t7, t8, t9⟩ := fx_run J hs hso
  have hrg : ringy (S.1 2 s) = true := by rw [hk]; rfl
  obtain ⟨r1, r2, r3, r4, r5, r6⟩ := ring_r J hs hrg
  obtain ⟨S1, C1, u1, u2, u3, u4⟩ := push_fix J hs hso hrg hv
  have e : sp S s x = ((vS S s).1 (vS S s).2.1, pur (vS S s) (rln S s) x) := by unfold sp; rw [hk]; rfl
  have e1 : (vS S s).1 (vS S s).2.1 = S.2.1 13 (64 * s + S.1 14 s) := if_pos (show S.1 14 s < 64 by omega)
  refine ⟨S1, C1, ?_, u2, by rw [e]; exact u3, u4, ?_⟩
  · refine stp_6 J hs hk ?_
    unfold c_Section_delayed
    simp only [t6, t8, at_ring J hs hrg, u1, obd_some, jgd_true, cbd2_some, e, e1]
  · rw [e]
    show vb 2 ((vS S s).1 (vS S s).2.1)
    rw [e1]
    have h := st_vb J hs (k := S.1 14 s) (by omega)
    rw [r6, hso] at h; exact h
theorem fx_8 {N : Nat} (J : JF G E B bx m ad S A C) (hs : s < S.1 1 0) (hso : S.1 3 s = 2) (hk : S.1 2 s = 8) : StF G E B bx m ad S A s x (c_Section_step N (A 7 s) x made C) := by
  obtain ⟨t1, -, t3, t4, t5, t6, t7, t8, t9⟩ := fx_run J hs hso
  have hrg : ringy (S.1 2 s) = true := by rw [hk]; rfl
  obtain ⟨r1, r2, r3, r4, r5, r6⟩ := ring_r J hs hrg
  have e1 : (vS S s).1 (vS S s).2.1 = S.2.1 13 (64 * s + S.1 14 s) := if_pos (show S.1 14 s < 64 by omega)
  have hm : c_Section_times (A 7 s) (0 : Int32) (S.2.1 13 (64 * s + S.1 14 s)) C = _ := t1 0 (by rw [hk]; decide) _
  obtain ⟨S1, C1, u1, u2, u3, u4, u5⟩ := settled_fix J hs hso (x * 16384 + S.2.1 7 (5 * s + 0) * S.2.1 13 (64 * s + S.1 14 s))
  have p1 : S1.1 = S.1 := u4.1
  have hs1 : s < S1.1 1 0 := by rw [p1]; exact hs
  have hso1 : S1.1 3 s = 2 := by rw [p1]; exact hso
  have er : rln S1 = rln S := sl_rln u4
  obtain ⟨-, -, -, -, -, w6, -, w8, -⟩ := fx_run u2 hs1 hso1
  obtain ⟨S2, C2, v1, v2, v3, v4⟩ := push_fix u2 hs1 hso1 (by rw [p1]; exact hrg) u5
  have e : sp S s x = aS 8 (S.1 5 s) (S.1 6 s) (rln S s) (S.2.1 7 (5 * s + 0)) (S.2.1 7 (5 * s + 1)) (vS S s) x := by unfold sp; rw [hk]
  have e' : aS 8 (S.1 5 s) (S.1 6 s) (rln S s) (S.2.1 7 (5 * s + 0)) (S.2.1 7 (5 * s + 1)) (vS S s) x = ((acut (S.1 5 s) (S.1 6 s) (vS S s) (x * 16384 + S.2.1 7 (5 * s + 0) * (vS S s).1 (vS S s).2.1)).1, pur (acut (S.1 5 s) (S.1 6 s) (vS S s) (x * 16384 + S.2.1 7 (5 * s + 0) * (vS S s).1 (vS S s).2.1)).2 (rln S s) (acut (S.1 5 s) (S.1 6 s) (vS S s) (x * 16384 + S.2.1 7 (5 * s + 0) * (vS S s).1 (vS S s).2.1)).1) := rfl
  rw [e1] at e'
  refine ⟨S2, C2, ?_, v2, by rw [e, e', v3, u3, er], u4.dys.trans v4, by rw [e, e']; exact u5⟩
  refine stp_8 J hs hk ?_
  unfold c_Section_comb
  simp only [t5, t6, t7, t8, at_ring J hs hrg, hm, t3, t4, u1, w6, w8, v1, obd_some, jgd_true, cbd2_some, e, e']
theorem fac0 (J : JF G E B bx m ad S A C) (hs : s < S.1 1 0) (hn : 0 < nfac (S.1 2 s)) : c_Section_factor (A 7 s) (0 : Int32) C = some (S.2.1 7 (5 * s + 0)) := factor_of J hs (k := 0) hn
theorem abvF (J : JF G E B bx m ad S A C) (x y : Int64) : (if cob C (A 5 2) 5 = true then c_Numbers_above (A 5 2) x y C else jgd (cob C (A 5 2) 8) (c_Numbers_above (A 5 2) x y C)) = some (abB 2 x y) := nums_above (jj_b J) (by decide) (fun h => absurd h (by decide)) (fun h => absurd h (by decide))
theorem fx_9 {N : Nat} (J : JF G E B bx m ad S A C) (hs : s < S.1 1 0) (hso : S.1 3 s = 2) (hk : S.1 2 s = 9) (hv : vb 2 x) : StF G E B bx m ad S A s x (c_Section_step N (A 7 s) x made C) := by
  obtain ⟨-, -, -, -, t5, -, t7, -, t9⟩ := fx_run J hs hso
  have hf := fac0 J hs (by rw [hk]; decide)
  have hr := jj_s J hs
  have hcf : vb 2 (S.2.1 7 (5 * s + 0)) := by
    have h := cf_vb J hs (k := 0) (by decide)
    rw [hso] at h; exact h
  have hng : (if cob C (A 5 2) 5 = true then c_Real_negative (A 5 2) (S.2.1 7 (5 * s + 0)) C else jgd (cob C (A 5 2) 8) (some (g_Shorts_negative (A 5 2) (S.2.1 7 (5 * s + 0))))) = some (ngB 2 (S.2.1 7 (5 * s + 0))) := nums_neg (jj_b J) (by decide) (fun h => absurd h (by decide))
  have hnv := ngB_vb (so := 2) (by decide) (S.2.1 7 (5 * s + 0))
  rw [ngF] at hng hnv
  obtain ⟨S1, C1, u1, u2, u3, u4⟩ := touch_fix J hs
  have e : sp S s x = if S.2.1 7 (5 * s + 0) < x then (S.2.1 7 (5 * s + 0), tou (vS S s)) else if x < g_Shorts_cut (-S.2.1 7 (5 * s + 0)) then (g_Shorts_cut (-S.2.1 7 (5 * s + 0)), tou (vS S s)) else (x, vS S s) := by unfold sp; rw [hk]; rfl
  have run : c_Section_clipped (A 7 s) x C = if S.2.1 7 (5 * s + 0) < x then some (S.2.1 7 (5 * s + 0), C1) else if x < g_Shorts_cut (-S.2.1 7 (5 * s + 0)) then some (g_Shorts_cut (-S.2.1 7 (5 * s + 0)), C1) else some (x, C) := by
    unfold c_Section_clipped
    simp only [t5, t7, hf, abvF J, hng, rs_touches hr, u1, obd_some, jgd_true, abF]
  unfold StF
  by_cases h1 : S.2.1 7 (5 * s + 0) < x
  · rw [if_pos h1] at run e
    rw [e]
    exact ⟨S1, C1, stp_9 J hs hk run, u2, u3, u4, hcf⟩
  · rw [if_neg h1] at run e
    by_cases h2 : x < g_Shorts_cut (-S.2.1 7 (5 * s + 0))
    · rw [if_pos h2] at run e
      rw [e]
      exact ⟨S1, C1, stp_9 J hs hk run, u2, u3, u4, hnv⟩
    · rw [if_neg h2] at run e
      rw [e]
      exact ⟨S, C, stp_9 J hs hk run, J, rfl, ⟨fun _ _ _ => rfl, fun _ _ _ _ => rfl, fun _ _ _ => rfl⟩, hv⟩
theorem fx_10 {N : Nat} (J : JF G E B bx m ad S A C) (hs : s < S.1 1 0) (hso : S.1 3 s = 2) (hk : S.1 2 s = 10) (hv : vb 2 x) : StF G E B bx m ad S A s x (c_Section_step N (A 7 s) x made C) := by
  obtain ⟨-, -, -, -, t5, -, t7, -, t9⟩ := fx_run J hs hso
  have hf := fac0 J hs (by rw [hk]; decide)
  have hr := jj_s J hs
  have hnum : ∀ z, (if cob C (A 5 2) 5 = true then c_Real_isNumber (A 5 2) z C else jgd (cob C (A 5 2) 8) (some (g_Shorts_isNumber (A 5 2) z))) = some true := fun z => by
    have h := nums_num (so := 2) (jj_b J) (by decide) (x := z) (fun h => absurd h (by decide))
    rw [nuF] at h; exact h
  have hsz : (if cob C (A 5 2) 5 = true then c_Real_sizeOf (A 5 2) x C else jgd (cob C (A 5 2) 8) (c_Shorts_sizeOf (A 5 2) x C)) = some (szF x) := by
    have h := nums_size (so := 2) (jj_b J) (by decide) (x := x) (fun h => absurd h (by decide))
    rw [szFe] at h; exact h
  obtain ⟨S1, C1, u1, u2, u3, u4⟩ := touch_fix J hs
  have e : sp S s x = if S.2.1 7 (5 * s + 0) < szF x then (x, vS S s) else (0, tou (vS S s)) := by unfold sp; rw [hk]; rfl
  have run : c_Section_deadened (A 7 s) x C = if S.2.1 7 (5 * s + 0) < szF x then some (x, C) else some (0, C1) := by
    unfold c_Section_deadened
    simp only [t5, t7, hf, hnum, hsz, abvF J, rs_touches hr, u1, obd_some, jgd_true, abF, if_true]
  unfold StF
  by_cases h1 : S.2.1 7 (5 * s + 0) < szF x
  · rw [if_pos h1] at run e
    rw [e]
    exact ⟨S, C, stp_10 J hs hk run, J, rfl, ⟨fun _ _ _ => rfl, fun _ _ _ _ => rfl, fun _ _ _ => rfl⟩, hv⟩
  · rw [if_neg h1] at run e
    rw [e]
    exact ⟨S1, C1, stp_10 J hs hk run, u2, u3, u4, vb_zero 2⟩
theorem szF_vb {x : Int64} (hv : vb 2 x) : vb 2 (szF x) := by
  unfold szF
  by_cases h : (0 : Int64) ≤ x
  · rw [if_pos h]; exact hv
  · rw [if_neg h]
    have h := ngB_vb (so := 2) (by decide) x
    rw [ngF] at h; exact h
theorem fx_11 {N : Nat} (J : JF G E B bx m ad S A C) (hs : s < S.1 1 0) (hso : S.1 3 s = 2) (hk : S.1 2 s = 11) (hv : vb 2 x) : StF G E B bx m ad S A s x (c_Section_step N (A 7 s) x made C) := by
  obtain ⟨t1, -, -, -, t5, t6, t7, t8, t9⟩ := fx_run J hs hso
  have hrl : 0 < rln S s := by unfold rln; rw [hk]; exact Nat.one_pos
  have hat : c_Row_at (A 118 s) (0 : Int32) C = _ := at_flat J hs (k := 0) (by rw [hk]; rfl) hrl
  have hsz : (if cob C (A 5 2) 5 = true then c_Real_sizeOf (A 5 2) x C else jgd (cob C (A 5 2) 8) (c_Shorts_sizeOf (A 5 2) x C)) = some (szF x) := by
    have h := nums_size (so := 2) (jj_b J) (by decide) (x := x) (fun h => absurd h (by decide))
    rw [szFe] at h; exact h
  have hm : c_Section_times (A 7 s) (0 : Int32) (S.2.1 13 (64 * s + 0)) C = _ := t1 0 (by rw [hk]; decide) _
  obtain ⟨S1, C1, u1, u2, u3, u4, u5⟩ := settled_fix J hs hso (S.2.1 7 (5 * s + 0) * S.2.1 13 (64 * s + 0))
  have p1 : S1.1 = S.1 := u4.1
  have hs1 : s < S1.1 1 0 := by rw [p1]; exact hs
  have er : rln S1 = rln S := sl_rln u4
  obtain ⟨S2, C2, v1, v2, v3, v4⟩ := put_fix u2 hs1 (by rw [p1]; exact hso) (by rw [p1, hk]; rfl) (by rw [p1, hk]; decide) (by rw [er]; exact hrl) u5
  obtain ⟨-, -, -, -, -, w6, -, w8, -⟩ := fx_run u2 hs1 (by rw [p1]; exact hso)
  obtain ⟨S3, C3, y1, y2, y3, y4⟩ := put_fix J hs hso (by rw [hk]; rfl) (by rw [hk]; decide) hrl (szF_vb hv)
  have e : sp S s x = if S.2.1 13 (64 * s + 0) < szF x then (szF x, pu0 (vS S s) (szF x)) else ((acut (S.1 5 s) (S.1 6 s) (vS S s) (S.2.1 7 (5 * s + 0) * S.2.1 13 (64 * s + 0))).1, pu0 (acut (S.1 5 s) (S.1 6 s) (vS S s) (S.2.1 7 (5 * s + 0) * S.2.1 13 (64 * s + 0))).2 (acut (S.1 5 s) (S.1 6 s) (vS S s) (S.2.1 7 (5 * s + 0) * S.2.1 13 (64 * s + 0))).1) := by unfold sp; rw [hk]; rfl
  have run : c_Section_peak (A 7 s) x C = if S.2.1 13 (64 * s + 0) < szF x then some (szF x, C3) else some ((acut (S.1 5 s) (S.1 6 s) (vS S s) (S.2.1 7 (5 * s + 0) * S.2.1 13 (64 * s + 0))).1, C2) := by
    unfold c_Section_peak c_Section_peak_47
    simp only [t5, t6, t7, t8, hat, hsz, hm, abvF J, u1, w6, w8, v1, y1, obd_some, jgd_true, cbd2_some, abF]
  unfold StF
  by_cases h1 : S.2.1 13 (64 * s + 0) < szF x
  · rw [if_pos h1] at run e
    rw [e]
    exact ⟨S3, C3, stp_11 J hs hk run, y2, y3, y4, szF_vb hv⟩
  · rw [if_neg h1] at run e
    rw [e]
    exact ⟨S2, C2, stp_11 J hs hk run, v2, by rw [v3, u3], u4.dys.trans v4, u5⟩
/-- the kinds that the account knows -/
def akd (kd : Nat) : Prop := kd = 0 ∨ kd = 1 ∨ kd = 5 ∨ kd = 6 ∨ kd = 8 ∨ kd = 9 ∨ kd = 10 ∨ kd = 11
theorem step_fix {N : Nat} (J : JF G E B bx m ad S A C) (hs : s < S.1 1 0) (hso : S.1 3 s = 2) (hk : akd (S.1 2 s)) (hv : vb 2 x) : StF G E B bx m ad S A s x (c_Section_step N (A 7 s) x made C) := by
  rcases hk with h | h | h | h | h | h | h | h
  · exact fx_0 J hs hso h
  · exact fx_1 J hs hso h
  · exact fx_5 J hs hso h
  · exact fx_6 J hs hso h hv
  · exact fx_8 J hs hso h
  · exact fx_9 J hs hso h hv
  · exact fx_10 J hs hso h hv
  · exact fx_11 J hs hso h hv
end STEPSF
