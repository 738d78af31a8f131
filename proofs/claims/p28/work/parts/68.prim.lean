/-! what a section does to itself, step by step -/
section PRIM
variable {G : GT} {E B bx m s k so : Nat} {ad : Nat → Nat} {S : ST} {A : AT} {C : CT} {T : MT} {acc v : Int64}
/-- the machine's scratch that a section leaves alone -/
def Mf (T T' : MT) : Prop := (∀ k, k ∈ [34, 35, 36, 37, 39, 40, 42, 43] → T'.1 k = T.1 k) ∧ ∀ k, k ∈ [33, 38, 41] → T'.2.2.1 k = T.2.2.1 k
theorem Mf.refl (T : MT) : Mf T T := ⟨fun _ _ => rfl, fun _ _ => rfl⟩
theorem Mf.trans {T T' T'' : MT} (h : Mf T T') (h' : Mf T' T'') : Mf T T'' := ⟨fun k q => (h'.1 k q).trans (h.1 k q), fun k q => (h'.2 k q).trans (h.2 k q)⟩
theorem Sc.mf {T T' : MT} (h : Sc T T') : Mf T T' := ⟨fun k hk => h.1 k ((by decide : ∀ k, k ∈ [34, 35, 36, 37, 39, 40, 42, 43] → k ∉ [29, 30]) k hk), fun k hk => h.2.2.1 k ((by decide : ∀ k, k ∈ [33, 38, 41] → k ≠ 31) k hk)⟩
theorem mf_I {k j : Nat} {v : Int32} (h : k ∉ [34, 35, 36, 37, 39, 40, 42, 43]) : Mf T (tsI T k j v) := ⟨fun x hx => by
  have : x ≠ k := fun q => h (q ▸ hx)
  funext y; simp [tsI, up2, this], fun _ _ => rfl⟩
theorem mf_J {k j : Nat} {v : Int64} : Mf T (tsJ T k j v) := ⟨fun _ _ => rfl, fun _ _ => rfl⟩
theorem mf_D {k j : Nat} {v : UInt64} (h : k ∉ [33, 38, 41]) : Mf T (tsD T k j v) := ⟨fun _ _ => rfl, fun x hx => by
  have : x ≠ k := fun q => h (q ▸ hx)
  funext y; simp [tsD, up2, this]⟩
theorem uN_k {k j x v : Nat} (h : x ≠ k) : (uN S k j v).1 x = S.1 x := funext fun _ => up2_k _ _ _ _ h
theorem uI_k {k j x : Nat} {v : Int32} (h : x ≠ k) : (uI S k j v).2.2 x = S.2.2 x := funext fun _ => up2_k _ _ _ _ h
/-- all but one section's values stay -/
theorem jj_overs (J : JJ G E B bx m ad S A C T) (hs : s < S.1 1 0) (v : Int32) : JJ G E B bx m ad (uI S 11 s v) A (csI C 122 (A 7 s) 0 v) (tsI T 11 s v) := by
  have hd := ds_of (jj_s J hs)
  have hw := ws_of (jj_ws J hs)
  refine jj_sec J hs ⟨fun _ _ _ => rfl, fun _ _ _ _ => rfl, fun k j h => ?_⟩ ⟨rfl, rfl, fun k a j h1 h2 => ?_, fun _ _ _ _ _ => rfl, rfl⟩ ⟨hd.1, ?_, ?_, ?_, hd.2.2.2.2⟩ hw (rt_uI (jj_rt J) (by decide))
  · show up2 S.2.2 11 s v k j = _
    unfold up2
    rw [if_neg (fun q => h ⟨Or.inl q.1, q.2⟩)]
  · simp only [csI, up3]
    rw [if_neg (fun q => h1 ⟨Or.inl q.1, q.2.1⟩)]
  · show _ = up2 S.2.2 11 s v 11 s
    rw [up2_same]; simp [csI, up3]
  · show _ = up2 S.2.2 11 s v 12 s
    rw [up2_k S.2.2 s v s (show 12 ≠ 11 by decide), ← hd.2.2.1]; simp [csI, up3]
  · refine Eq.trans ?_ hd.2.2.2.1; simp [csI, up3]
theorem jj_touch (J : JJ G E B bx m ad S A C T) (hs : s < S.1 1 0) (v : Int32) : JJ G E B bx m ad (uI S 12 s v) A (csI C 123 (A 7 s) 0 v) (tsI T 12 s v) := by
  have hd := ds_of (jj_s J hs)
  have hw := ws_of (jj_ws J hs)
  refine jj_sec J hs ⟨fun _ _ _ => rfl, fun _ _ _ _ => rfl, fun k j h => ?_⟩ ⟨rfl, rfl, fun k a j h1 h2 => ?_, fun _ _ _ _ _ => rfl, rfl⟩ ⟨hd.1, ?_, ?_, ?_, hd.2.2.2.2⟩ hw (rt_uI (jj_rt J) (by decide))
  · show up2 S.2.2 12 s v k j = _
    unfold up2
    rw [if_neg (fun q => h ⟨Or.inr q.1, q.2⟩)]
  · simp only [csI, up3]
    rw [if_neg (fun q => h1 ⟨Or.inr q.1, q.2.1⟩)]
  · show _ = up2 S.2.2 12 s v 11 s
    rw [up2_k S.2.2 s v s (show 11 ≠ 12 by decide), ← hd.2.1]; simp [csI, up3]
  · show _ = up2 S.2.2 12 s v 12 s
    rw [up2_same]; simp [csI, up3]
  · refine Eq.trans ?_ hd.2.2.2.1; simp [csI, up3]
/-! a sum becomes a value -/
theorem floor_shr (x : Int64) : g_R_floor x 16384 = some (x >>> (Int32.toInt64 (14 : Int32) &&& 63)) := by
  have b1 := Int64.le_toInt x
  have b2 := Int64.toInt_lt x
  have c14 : (16384 : Int64).toInt = 16384 := rfl
  have e1 : (x / 16384).toInt = x.toInt.tdiv 16384 := by
    rw [Int64.toInt_div_of_ne_right _ _ (by decide), c14]
  have t1 := Int.mul_tdiv_add_tmod x.toInt 16384
  have t2 : (x.toInt.tmod 16384).natAbs < 16384 := by
    have := Int.natAbs_tmod x.toInt 16384
    rw [this]
    exact Nat.mod_lt _ (by decide)
  have t3 : 0 ≤ x.toInt → 0 ≤ x.toInt.tmod 16384 := fun h => Int.tmod_nonneg _ h
  have t4 : x.toInt ≤ 0 → x.toInt.tmod 16384 ≤ 0 := fun h => by
    have h0 := Int.tmod_nonneg 16384 (a := -x.toInt) (by omega)
    rw [Int.neg_tmod] at h0
    omega
  have e2 : (x / 16384 * 16384).toInt = x.toInt.tdiv 16384 * 16384 := by
    rw [Int64.toInt_mul, e1, c14]
    exact Int.bmod_eq_of_le (by omega) (by omega)
  have e3 : (x - x / 16384 * 16384).toInt = x.toInt.tmod 16384 := by
    rw [Int64.toInt_sub, e2]
    rw [show x.toInt - x.toInt.tdiv 16384 * 16384 = x.toInt.tmod 16384 by omega]
    exact Int.bmod_eq_of_le (by omega) (by omega)
  have e4 : (x >>> (Int32.toInt64 (14 : Int32) &&& 63)).toInt = x.toInt / 16384 := by
    rw [show (14 : Int32) = i32 14 from rfl, sh_l 14 (by decide)]
    show (BitVec.sshiftRight' x.toBitVec ((j64 14).toBitVec.smod 64)).toInt = _
    rw [BitVec.toInt_sshiftRight', sh_m 14 (by decide), Int.shiftRight_eq_div_pow]; rfl
  unfold g_R_floor jdivL jremL
  rw [if_neg (by decide), obd_some, if_neg (by decide), obd_some]
  have z0 : (0 : Int64).toInt = 0 := rfl
  by_cases h : (0 : Int64) ≤ x - x / 16384 * 16384
  · rw [if_pos h]
    rw [Int64.le_iff_toInt_le, e3, z0] at h
    congr 1
    apply Int64.toInt_inj.mp
    rw [e1, e4]
    omega
  · rw [if_neg h]
    rw [Int64.le_iff_toInt_le, e3, z0] at h
    congr 1
    apply Int64.toInt_inj.mp
    rw [Int64.toInt_sub, e1, e4, show (1 : Int64).toInt = 1 from rfl]
    rw [Int.bmod_eq_of_le (by omega) (by omega)]
    omega
theorem limited_ref (x : Int64) {l : Nat} (hl : l ≤ 1) : g_R_cut x (i32 l) = FP.l2d (g_Shorts_limited x (i32 l)) ∧ vb 2 (g_Shorts_limited x (i32 l)) := by
  by_cases h : l = 0
  · subst h
    exact cut_ref
  · have : l = 1 := by omega
    subst this
    unfold g_R_cut g_Shorts_limited
    rw [if_pos (by rfl), if_neg (by decide)]
    refine ⟨?_, ?_⟩
    · show UInt64.ofNat (FP.Core.fromInt FP.Core.b64 _) = UInt64.ofNat (FP.Core.fromInt FP.Core.b64 _)
      rw [Int32.toInt_toInt64]
    · have h1 := Int16.le_toInt x.toInt32.toInt16
      have h2 := Int16.toInt_lt x.toInt32.toInt16
      refine ⟨?_, ?_⟩ <;> rw [Int64.le_iff_toInt_le, Int32.toInt_toInt64, Int16.toInt_toInt32]
      · show (-32768 : Int) ≤ _; omega
      · show _ ≤ (32767 : Int); omega
theorem isShort_iff (x : Int64) : g_Shorts_isShort x = true ↔ vb 2 x := by
  unfold g_Shorts_isShort
  show _ ↔ -32768 ≤ x ∧ x ≤ 32767
  by_cases h1 : x < -32768
  · rw [if_pos h1]; exact ⟨fun h => (by cases h), fun h => absurd h1 (Int64.not_lt.mpr h.1)⟩
  · rw [if_neg h1]
    by_cases h2 : 32767 < x
    · rw [if_pos h2]; exact ⟨fun h => (by cases h), fun h => absurd h2 (Int64.not_lt.mpr h.2)⟩
    · rw [if_neg h2]; exact ⟨fun _ => ⟨Int64.not_lt.mp h1, Int64.not_lt.mp h2⟩, fun _ => rfl⟩
/-- what settling leaves alone -/
def Sl (s : Nat) (S S' : ST) : Prop := S'.1 = S.1 ∧ (∀ k j, ¬ (k = 15 ∧ j = s) → S'.2.1 k j = S.2.1 k j) ∧ ∀ k j, ¬ (k = 11 ∧ j = s) → S'.2.2 k j = S.2.2 k j
theorem Sl.refl (s : Nat) (S : ST) : Sl s S S := ⟨rfl, fun _ _ _ => rfl, fun _ _ _ => rfl⟩
theorem Sl.trans {s : Nat} {S S' S'' : ST} (h : Sl s S S') (h' : Sl s S' S'') : Sl s S S'' := ⟨h'.1.trans h.1, fun k j q => (h'.2.1 k j q).trans (h.2.1 k j q), fun k j q => (h'.2.2 k j q).trans (h.2.2 k j q)⟩
theorem Sl.dys {s : Nat} {S S' : ST} (h : Sl s S S') : Dys S S' s := ⟨fun k j _ => by rw [h.1], fun k j h1 _ => h.2.1 k j h1, fun k j h1 => h.2.2 k j (fun q => h1 ⟨Or.inl q.1, q.2⟩)⟩
theorem Sl.dy {s : Nat} {S S' : ST} (h : Sl s S S') : Dy S S' := h.dys.dy
theorem Dys.trans {s : Nat} {S S' S'' : ST} (h : Dys S S' s) (h' : Dys S' S'' s) : Dys S S'' s := ⟨fun k j q => (h'.1 k j q).trans (h.1 k j q), fun k j q q' => (h'.2.1 k j q q').trans (h.2.1 k j q q'), fun k j q => (h'.2.2 k j q).trans (h.2.2 k j q)⟩
theorem Dys.refl (s : Nat) (S : ST) : Dys S S s := ⟨fun _ _ _ => rfl, fun _ _ _ _ => rfl, fun _ _ _ => rfl⟩
theorem settle (J : JJ G E B bx m ad S A C T) (hs : s < S.1 1 0) (hso : S.1 3 s = so) (hm : MS T s so k acc) (hk : k ≠ 0) : ∃ y S' C' T', c_Section_settled (A 7 s) acc C = some (y, C') ∧ h_R_comes T = some (dv so y, T') ∧ JJ G E B bx m ad S' A C' T' ∧ vb so y ∧ Sl s S S' ∧ Mf T T' := by
  have hr := jj_s J hs
  have hw := jj_ws J hs
  have h3 : so < 3 := by rw [← hso]; exact hw.1.2.1
  obtain ⟨⟨hs60, h29, h3T⟩, m2, m3⟩ := hm
  have e60 : jrg 60 (i32 s) = some s := jrg_i32 hs60 (by decide)
  unfold c_Section_settled h_R_comes
  rw [rs_sort hr, obd_some, hso, h29, e60, obd_some, h3T]
  by_cases h2 : so < 2
  · obtain ⟨k1, k2, k3⟩ := m2 h2
    obtain ⟨va, e31⟩ := k3 hk
    have hne : ¬ i32 so = 2 := by rw [show (2 : Int32) = i32 2 from rfl]; exact i32_ne (by omega) (by decide) (by omega)
    rw [if_neg hne, if_neg hne]
    exact ⟨acc, S, C, T, rfl, by rw [e31], J, va, Sl.refl s S, Mf.refl T⟩
  · have : so = 2 := by omega
    subst this
    have t11 := rs_tag hr
    have e6 := hw.2.1
    have fin : ∀ (q : Int64) (S1 : ST) (C1 : CT) (T1 : MT), JJ G E B bx m ad S1 A C1 T1 → s < S1.1 1 0 → S1.1 6 s = S.1 6 s → Sl s S S1 → Mf T T1 →
        ∃ y S' C' T', c_Section_settled_67 (A 7 s) q C1 = some (y, C') ∧ h_R_comes_105 (i32 s) q T1 = some (dv 2 y, T') ∧ JJ G E B bx m ad S' A C' T' ∧ vb 2 y ∧ Sl s S S' ∧ Mf T T' := by
      intro q S1 C1 T1 J1 hs1 e61 hSl hMf
      have hr1 := jj_s J1 hs1
      unfold c_Section_settled_67 h_R_comes_105
      by_cases hv : vb 2 q
      · rw [if_pos ((isShort_iff q).mpr hv), if_pos (by rw [show (2 : Int32) = i32 2 from rfl]; exact (isValue_hold q (by decide)).mpr hv)]
        exact ⟨q, S1, C1, T1, rfl, rfl, J1, hv, hSl, hMf⟩
      · rw [if_neg (fun z => hv ((isShort_iff q).mp z)), if_neg (by rw [show (2 : Int32) = i32 2 from rfl]; exact fun z => hv ((isValue_hold q (by decide)).mp z))]
        have J2 := jj_overs J1 hs1 (S1.2.2 11 s + 1)
        have hr2 := jj_s J2 hs1
        have h6 : S1.1 6 s ≤ 1 := by rw [e61]; exact e6.2
        rw [rs_overs hr1, obd_some, cpI_of (ci := 7) (rs_tag hr1) (by decide) (by decide), obd_some, e60, obd_some, obd_some]
        have el : cgI (csI C1 (16 * 7 + 10) (A 7 s) 0 (S1.2.2 11 s + 1)) (A 7 s) 7 8 = some (i32 (S1.1 6 s)) := (rs_limit hr2 : cgI (csI C1 122 (A 7 s) 0 (S1.2.2 11 s + 1)) (A 7 s) 7 8 = some (i32 ((uI S1 11 s (S1.2.2 11 s + 1)).1 6 s)))
        rw [el, obd_some]
        have e11 : T1.1 11 s = S1.2.2 11 s := jj_I J1 11 (by decide) s
        have t6 : (tsI T1 11 s (T1.1 11 s + 1)).1 6 s = i32 (S1.1 6 s) := by
          rw [e11]; exact jj_N J2 6 (by decide) s
        refine ⟨g_Shorts_limited q (i32 (S1.1 6 s)), uI S1 11 s (S1.2.2 11 s + 1), _, tsI T1 11 s (S1.2.2 11 s + 1), rfl, ?_, J2, (limited_ref q h6).2, hSl.trans ⟨rfl, fun _ _ _ => rfl, fun k j hk => (if_neg hk : up2 S1.2.2 11 s (S1.2.2 11 s + 1) k j = S1.2.2 k j)⟩, hMf.trans (mf_I (by decide))⟩
        simp only [jlet, obd_some]
        rw [t6, (limited_ref q h6).1, e11]; rfl
    rw [if_pos (by rfl), if_pos (by rfl), obd_some, rs_rounding hr, obd_some, jj_N J 5 (by decide)]
    have h5 := e6.1
    have acc32 : T.2.1 32 0 = acc := m3 rfl
    rw [acc32]
    unfold c_Section_settled_32
    by_cases r0 : S.1 5 s = 0
    · rw [r0, if_neg (by decide), rs_rounding hr, obd_some, obd_some, r0, if_neg (by decide), if_pos (by rfl), floor_shr, obd_some]
      exact fin _ S C T J hs rfl (Sl.refl s S) (Mf.refl T)
    · by_cases r1 : S.1 5 s = 1
      · rw [r1, if_neg (by decide), rs_rounding hr, obd_some, obd_some, r1, if_neg (by decide), if_neg (by decide), obd_some, jj_N J 5 (by decide), r1, if_pos (by rfl)]
        exact fin _ S C T J hs rfl (Sl.refl s S) (Mf.refl T)
      · have r2 : S.1 5 s = 2 := by omega
        rw [r2, if_pos (by rfl), rs_rest hr, obd_some, obd_some, cob_of (ci := 6) hr.2.1.2.2.1.2.1, jgd_true, rest_at hr, obd_some, rs_rounding hr, obd_some, obd_some, r2, if_pos (by rfl), obd_some, obd_some, cob_of (ci := 6) hr.2.1.2.2.1.2.1, jgd_true, if_neg (by decide), obd_some, jj_N J 5 (by decide), r2, if_neg (by decide), obd_some, (jj_rt J).2.2.2.2.1 15 (by decide) s]
        have er : g_Shorts_rounded (acc + S.2.1 15 s) (i32 2) = (acc + S.2.1 15 s) / 16384 := if_neg (by decide)
        rw [er, rest_put hr, obd_some]
        have J1 := jj_rest J hs (acc + S.2.1 15 s - (acc + S.2.1 15 s) / 16384 * 16384) (fun q => absurd q (by omega))
        simp only [jlet, obd_some]
        rw [Int64.mul_comm 16384]
        exact fin _ _ _ _ J1 hs rfl ⟨rfl, fun k j hk => (if_neg hk : up2 S.2.1 15 s (acc + S.2.1 15 s - (acc + S.2.1 15 s) / 16384 * 16384) k j = S.2.1 k j), fun _ _ _ => rfl⟩ mf_J
/-! a state is put -/
theorem mod_inj {n e j k : Nat} (hj : j < n) (hk : k < n) (h : (e + j) % n = (e + k) % n) : j = k := by
  have h1 := Nat.div_add_mod (e + j) n
  have h2 := Nat.div_add_mod (e + k) n
  rw [h] at h1
  by_cases c : (e + j) / n = (e + k) / n
  · rw [c] at h1; omega
  · exfalso
    rcases Nat.lt_or_gt_of_ne c with c | c
    · have := Nat.mul_le_mul_left n (show (e + j) / n + 1 ≤ (e + k) / n by omega)
      rw [Nat.mul_add, Nat.mul_one] at this
      omega
    · have := Nat.mul_le_mul_left n (show (e + k) / n + 1 ≤ (e + j) / n by omega)
      rw [Nat.mul_add, Nat.mul_one] at this
      omega
theorem ring_put {a n e base r k : Nat} {f : Nat → Int64} (h : ring C a n e f base r) (hk : k < n) : ring (csJ C 900 a ((e + k) % n) v) a n e (fun j => if j = base + (r + k) % n then v else f j) base r := by
  obtain ⟨h1, h2, h3, h4, h5⟩ := h
  refine ⟨h1, h2, h3, h4, fun j hj => ?_⟩
  by_cases q : j = k
  · subst q
    simp [csJ, up3]
  · have n1 : ¬ (e + j) % n = (e + k) % n := fun z => q (mod_inj hj hk z)
    have n2 : ¬ base + (r + j) % n = base + (r + k) % n := fun z => q (mod_inj (e := r) hj hk (by omega))
    show _ = (if base + (r + j) % n = base + (r + k) % n then v else f (base + (r + j) % n))
    rw [if_neg n2, ← h5 j hj]
    simp [csJ, up3, n1]
theorem jj_put (J : JJ G E B bx m ad S A C T) (hs : s < S.1 1 0) (hk : k < rln S s) (hv : vb (vso S s) v) (h12 : S.1 2 s = 12 → 0 ≤ v ∧ v < (S.2.2 4 s).toInt64) :
    c_Row_put (A 118 s) (i32 k) v C = some (csJ C 900 (A 96 s) ((S.1 70 s + k) % rln S s) v) ∧ JJ G E B bx m ad (uJ S 13 (64 * s + (S.1 14 s + k) % rln S s) v) A (csJ C 900 (A 96 s) ((S.1 70 s + k) % rln S s) v) (tsD T 13 (64 * s + (S.1 14 s + k) % rln S s) (dv (vso S s) v)) := by
  have hr := jj_s J hs
  have hd := ds_of hr
  have hw := ws_of (jj_ws J hs)
  have hle := rln_le J hs
  have hml := Nat.mod_lt (S.1 14 s + k) (show 0 < rln S s by omega)
  have hx := J.2.1
  refine ⟨put_of hr.2.2.2.1 hr.2.2.2.2.1 hd.2.2.2.1 hd.2.2.2.2.1 hd.2.2.2.2.2.1 hd.2.2.2.2.2.2.1 hk hle, ?_⟩
  have e13 : ∀ j, (uJ S 13 (64 * s + (S.1 14 s + k) % rln S s) v).2.1 13 j = if j = 64 * s + (S.1 14 s + k) % rln S s then v else S.2.1 13 j := fun j => by
    show up2 S.2.1 13 _ v 13 j = _
    simp [up2]
  have hdiv : (64 * s + (S.1 14 s + k) % rln S s) / 64 = s := by omega
  refine jj_sec J hs ⟨fun _ _ _ => rfl, fun x j h1 h2 => ?_, fun _ _ _ => rfl⟩ ⟨rfl, rfl, fun _ _ _ _ _ => rfl, fun x a j h1 h2 => ?_, rfl⟩ ⟨?_, hd.2.1, hd.2.2.1, hd.2.2.2.1, ?_⟩ ?_ ?_
  · show up2 S.2.1 13 _ v x j = _
    unfold up2
    rw [if_neg (fun q => h2 ⟨q.1, by omega, by omega⟩)]
  · simp only [csJ, up3]
    rw [if_neg (fun q => h2 ⟨q.1, q.2.1⟩)]
  · have n98 : A 98 s ≠ A 96 s := ax_t hx (show VA S 96 s from hs) (show VA S 98 s from hs) (Or.inl (by decide))
    refine ⟨hd.1.1, ?_⟩
    rw [show (uJ S 13 (64 * s + (S.1 14 s + k) % rln S s) v).2.1 15 s = S.2.1 15 s from congrFun (uJ_k (by decide)) _, ← hd.1.2]
    simp [csJ, up3, n98]
  · have := ring_put (v := v) hd.2.2.2.2 hk
    exact ⟨this.1, this.2.1, this.2.2.1, this.2.2.2.1, fun j hj => (this.2.2.2.2 j hj).trans (e13 _).symm⟩
  · unfold Ws
    have ev : vso (uJ S 13 (64 * s + (S.1 14 s + k) % rln S s) v) s = vso S s := rfl
    rw [ev]
    refine ⟨fun q => ?_, hw.2.1, hw.2.2.1, fun j hj => ?_, fun j hj hj' => ?_, fun q => ?_⟩
    · rw [show (uJ S 13 (64 * s + (S.1 14 s + k) % rln S s) v).2.1 15 s = S.2.1 15 s from congrFun (uJ_k (by decide)) _]
      exact hw.1 q
    · rw [e13]
      split
      · exact hv
      · exact hw.2.2.2.1 j hj
    · have hj' : rln S s ≤ j := hj'
      rw [e13, if_neg (by omega)]
      exact hw.2.2.2.2.1 j hj hj'
    · rw [e13]
      split
      · exact h12 q
      · exact hw.2.2.2.2.2 q
  · exact rt_uD (jj_rt J) (Or.inr (Or.inl ⟨rfl, by rw [hdiv]⟩))
/-! a value comes into a ring -/
theorem ring_push {a n e base r : Nat} {f : Nat → Int64} (h : ring C a n e f base r) (hn : 0 < n) (he : e < n) (hr : r < n) : ring (csJ C 900 a e v) a n ((e + 1) % n) (fun j => if j = base + r then v else f j) base ((r + 1) % n) := by
  have h' := ring_put (v := v) (k := 0) h hn
  rw [Nat.add_zero, Nat.add_zero, Nat.mod_eq_of_lt he, Nat.mod_eq_of_lt hr] at h'
  obtain ⟨h1, h2, h3, h4, h5⟩ := h'
  refine ⟨h1, h2, Or.inr (Nat.mod_lt _ hn), Or.inr (Nat.mod_lt _ hn), fun j hj => ?_⟩
  have g : ∀ z, ((z + 1) % n + j) % n = (z + (j + 1) % n) % n := fun z => by
    rw [Nat.add_mod, Nat.mod_mod, ← Nat.add_mod, Nat.add_mod z, Nat.mod_mod, ← Nat.add_mod]
    congr 1
    omega
  rw [g, g]
  exact h5 ((j + 1) % n) (Nat.mod_lt _ hn)
theorem push_of {row a n e : Nat} (hrow : C.1 row = 7) (hc : C.2.2.2.2.1 96 row 0 = some a) (he : C.2.2.1 97 row 0 = i32 e) (ha : C.1 a = 21) (hn : C.2.1 a = n) (hen : e < n) (h64 : n ≤ 64) : c_Row_push row v C = some (csI (csJ C 900 a e v) 97 row 0 (i32 ((e + 1) % n))) := by
  have hp := put_of (v := v) (k := 0) hrow hc he ha hn (Or.inr hen) (by omega) h64
  rw [Nat.add_zero, Nat.mod_eq_of_lt hen] at hp
  have e1 : cgI (csJ C 900 a e v) row 6 1 = some (i32 e) := (if_pos (show (csJ C 900 a e v).1 row = 6 + 1 from hrow)).trans (congrArg some he)
  have e2 : cgA (csJ C 900 a e v) row 6 0 = some (some a) := (if_pos (show (csJ C 900 a e v).1 row = 6 + 1 from hrow)).trans (congrArg some hc)
  have cp : ∀ x : Int32, cpI (csJ C 900 a e v) row 6 1 x = some (csI (csJ C 900 a e v) (16 * 6 + 1) row 0 x) := fun x => cpI_of (ci := 6) (show (csJ C 900 a e v).1 row = 7 from hrow) (by decide) (by decide)
  unfold c_Row_push c_Row_push_31
  rw [cob_of (ci := 6) hrow, jgd_true, show (0 : Int32) = i32 0 from rfl, hp, obd_some, e1, obd_some, e2, obd_some, obd_some, cal_of (n := n) (by show 20 ≤ C.1 a; rw [ha]; decide) (show (csJ C 900 a e v).2.1 a = n from hn), obd_some, show i32 e + 1 = i32 (e + 1) from i32_add e 1]
  by_cases h : e + 1 < n
  · rw [if_pos (by rw [i32_lt (by omega) (by omega)]; exact h), obd_some, cp, obd_some, Nat.mod_eq_of_lt h]
    exact congrArg (fun q => some (csI (csJ C 900 a e v) 97 row 0 q)) (i32_add e 1)
  · rw [if_neg (by rw [i32_lt (by omega) (by omega)]; exact h), cp, obd_some, show e + 1 = n by omega, Nat.mod_self]
def puS (S : ST) (s : Nat) (v : Int64) : ST := uN (uN (uJ S 13 (64 * s + S.1 14 s) v) 70 s ((S.1 70 s + 1) % rln S s)) 14 s ((S.1 14 s + 1) % rln S s)
theorem jj_push (J : JJ G E B bx m ad S A C T) (hs : s < S.1 1 0) (hk : ringy (S.1 2 s) = true) (hv : vb (S.1 3 s) v) :
    c_Row_push (A 118 s) v C = some (csI (csJ C 900 (A 96 s) (S.1 70 s) v) 97 (A 118 s) 0 (i32 ((S.1 70 s + 1) % rln S s))) ∧
    JJ G E B bx m ad (puS S s v) A (csI (csJ C 900 (A 96 s) (S.1 70 s) v) 97 (A 118 s) 0 (i32 ((S.1 70 s + 1) % rln S s))) (tsI (tsD T 13 (64 * s + S.1 14 s) (dv (S.1 3 s) v)) 14 s (i32 ((S.1 14 s + 1) % rln S s))) := by
  have hr := jj_s J hs
  have hd := ds_of hr
  have hw := ws_of (jj_ws J hs)
  obtain ⟨-, l1, l2⟩ := ring_len J hs hk
  have he : S.1 70 s < rln S s := by rcases hd.2.2.2.2.2.2.1 with h | h <;> omega
  have hrr : S.1 14 s < rln S s := by rcases hd.2.2.2.2.2.2.2.1 with h | h <;> omega
  have hm1 := Nat.mod_lt (S.1 70 s + 1) (show 0 < rln S s by omega)
  have hm2 := Nat.mod_lt (S.1 14 s + 1) (show 0 < rln S s by omega)
  have k12 : S.1 2 s ≠ 12 := fun q => by rw [q] at hk; exact absurd hk (by decide)
  have evso : vso S s = S.1 3 s := vso_ne k12
  refine ⟨push_of hr.2.2.2.1 hr.2.2.2.2.1 hd.2.2.2.1 hd.2.2.2.2.1 hd.2.2.2.2.2.1 he l2, ?_⟩
  have e13 : ∀ j, (puS S s v).2.1 13 j = if j = 64 * s + S.1 14 s then v else S.2.1 13 j := fun j => by
    show up2 S.2.1 13 _ v 13 j = _
    simp [up2]
  have e1 : ∀ x, x ≠ 70 → x ≠ 14 → (puS S s v).1 x = S.1 x := fun x h1 h2 => funext fun j => by
    show up2 (up2 S.1 70 s ((S.1 70 s + 1) % rln S s)) 14 s ((S.1 14 s + 1) % rln S s) x j = _
    rw [up2_k _ _ _ _ h2, up2_k _ _ _ _ h1]
  have e70 : (puS S s v).1 70 s = (S.1 70 s + 1) % rln S s := by
    show up2 (up2 S.1 70 s ((S.1 70 s + 1) % rln S s)) 14 s ((S.1 14 s + 1) % rln S s) 70 s = _
    rw [up2_k _ _ _ _ (by decide), up2_same]
  have e14 : (puS S s v).1 14 s = (S.1 14 s + 1) % rln S s := up2_same _ _ _ _
  have erln : rln (puS S s v) s = rln S s := by
    unfold rln
    rw [e1 2 (by decide) (by decide)]; rfl
  have ev : vso (puS S s v) s = S.1 3 s := by
    unfold vso
    rw [e1 2 (by decide) (by decide), e1 3 (by decide) (by decide), if_neg k12]
  have hne : A 7 s ≠ A 96 s := ax_t J.2.1 (show VA S 96 s from hs) (show VA S 7 s from hs) (Or.inl (by decide))
  refine jj_sec J hs ⟨fun x j h => ?_, fun x j h1 h2 => ?_, fun _ _ _ => rfl⟩ ⟨rfl, rfl, fun x a j h1 h2 => ?_, fun x a j h1 h2 => ?_, rfl⟩ ⟨?_, hd.2.1, hd.2.2.1, ?_, ?_⟩ ?_ ?_
  · show up2 (up2 S.1 70 s _) 14 s _ x j = _
    unfold up2
    rw [if_neg (fun q => h ⟨Or.inl q.1, q.2⟩), if_neg (fun q => h ⟨Or.inr q.1, q.2⟩)]
  · show up2 S.2.1 13 _ v x j = _
    unfold up2
    rw [if_neg (fun q => h2 ⟨q.1, by omega, by omega⟩)]
  · simp only [csI, csJ, up3]
    rw [if_neg (fun q => h2 ⟨q.1, q.2.1⟩)]
  · simp only [csI, csJ, up3]
    rw [if_neg (fun q => h2 ⟨q.1, q.2.1⟩)]
  · have n98 : A 98 s ≠ A 96 s := ax_t J.2.1 (show VA S 96 s from hs) (show VA S 98 s from hs) (Or.inl (by decide))
    have n121 : A 121 s ≠ A 118 s := ax_t J.2.1 (show VA S 118 s from hs) (show VA S 121 s from hs) (Or.inl (by decide))
    refine ⟨by simpa [csI, csJ, up3, n121] using hd.1.1, ?_⟩
    rw [show (puS S s v).2.1 15 s = S.2.1 15 s from congrFun (uJ_k (by decide)) _, ← hd.1.2]
    simp [csI, csJ, up3, n98]
  · rw [e70]; simp [csI, up3]
  · rw [erln, e70, e14]
    have := ring_push (v := v) hd.2.2.2.2 (by omega) he hrr
    exact ⟨this.1, this.2.1, this.2.2.1, this.2.2.2.1, fun j hj => (this.2.2.2.2 j hj).trans (e13 _).symm⟩
  · unfold Ws
    rw [erln, ev, e70, e14, e1 3 (by decide) (by decide), e1 2 (by decide) (by decide)]
    refine ⟨fun q => ?_, Or.inr hm2, fun q => ?_, fun j hj => ?_, fun j hj hj' => ?_, fun q => absurd q k12⟩
    · rw [show (puS S s v).2.1 15 s = S.2.1 15 s from congrFun (uJ_k (by decide)) _]
      exact hw.1 q
    · rw [hk] at q; cases q
    · rw [e13]
      split
      · exact hv
      · rw [← evso]; exact hw.2.2.2.1 j hj
    · rw [e13, if_neg (by omega)]
      exact hw.2.2.2.2.1 j hj hj'
  · have r1 := rt_uD (v := v) (jj_rt J) (k := 13) (j := 64 * s + S.1 14 s) (so := S.1 3 s) (Or.inr (Or.inl ⟨rfl, by rw [show (64 * s + S.1 14 s) / 64 = s by omega, evso]⟩))
    have r2 : RT (uN (uJ S 13 (64 * s + S.1 14 s) v) 70 s ((S.1 70 s + 1) % rln S s)) (tsD T 13 (64 * s + S.1 14 s) (dv (S.1 3 s) v)) := by
      obtain ⟨a1, a2, a3, a4, a5, a6, a7, a8, a9, b1, b2, b3⟩ := r1
      have ek : ∀ x, x ≠ 70 → (uN (uJ S 13 (64 * s + S.1 14 s) v) 70 s ((S.1 70 s + 1) % rln S s)).1 x = (uJ S 13 (64 * s + S.1 14 s) v).1 x := fun x h => funext fun j => up2_k _ _ _ _ h
      have evs : vso (uN (uJ S 13 (64 * s + S.1 14 s) v) 70 s ((S.1 70 s + 1) % rln S s)) = vso (uJ S 13 (64 * s + S.1 14 s) v) := by
        funext x; unfold vso; rw [ek 2 (by decide), ek 3 (by decide)]
      have ecs : cso (uN (uJ S 13 (64 * s + S.1 14 s) v) 70 s ((S.1 70 s + 1) % rln S s)) = cso (uJ S 13 (64 * s + S.1 14 s) v) := by
        funext x; unfold cso; rw [ek 18 (by decide), ek 3 (by decide)]
      refine ⟨fun x hx j => by rw [ek x (fun q => by subst q; revert hx; decide)]; exact a1 x hx j, fun x hx => by rw [ek x (fun q => by subst q; revert hx; decide)]; exact a2 x hx, fun x hx j => by rw [ek x (fun q => by subst q; revert hx; decide)]; exact a3 x hx j, a4, a5, ?_, ?_, ?_, ?_, ?_, ?_, ?_⟩
      · rw [ek 3 (by decide)]; exact a6
      · rw [evs]; exact a7
      · rw [ecs]; exact a8
      · rw [ecs]; exact a9
      · rw [ecs]; exact b1
      · rw [evs]; exact b2
      · rw [ecs]; exact b3
    exact rt_uN r2 (by decide) (by decide) (by decide) (by decide)
end PRIM
