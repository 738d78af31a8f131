/-! the law's account: what each kind makes of a sample -/
/-- a section's account in the law's arrays -/
def SR (V : LV) (k kd far : Nat) (σ : AS) : Prop :=
  V.2 10 k = σ.2.2.1 ∧ V.1 11 k = σ.2.2.2.1 ∧ V.1 12 k = σ.2.2.2.2 ∧ ((kd = 1 ∨ kd = 5 ∨ kd = 11) → V.2 7 k = σ.1 0) ∧ ((kd = 6 ∨ kd = 8) → V.1 9 k = i32 σ.2.1 ∧ σ.2.1 < far ∧ ∀ j, j < far → V.2 8 (4 * k + j) = σ.1 j)
def CK (V : LV) (k kd how lim far : Nat) (a b : Int64) : Prop := V.1 1 k = i32 kd ∧ V.1 2 k = i32 how ∧ V.1 3 k = i32 lim ∧ V.1 4 k = i32 far ∧ (kd ≠ 6 → V.2 5 k = a) ∧ (kd = 1 → V.2 6 k = b) ∧ how ≤ 2 ∧ lim ≤ 1 ∧ 1 ≤ far ∧ far ≤ 4 ∧ vb 2 a
/-- all but section k's account is as it was -/
def FV (k : Nat) (V V' : LV) : Prop := (∀ q j, ¬ ((q = 9 ∨ q = 11 ∨ q = 12) ∧ j = k) → V'.1 q j = V.1 q j) ∧ ∀ q j, ¬ ((q = 7 ∨ q = 10) ∧ j = k) → ¬ (q = 8 ∧ 4 * k ≤ j ∧ j < 4 * k + 4) → V'.2 q j = V.2 q j
theorem FV.refl (k : Nat) (V : LV) : FV k V V := ⟨fun _ _ _ => rfl, fun _ _ _ _ => rfl⟩
theorem FV.trans {k : Nat} {V V' V2 : LV} (h : FV k V V') (h' : FV k V' V2) : FV k V V2 := ⟨fun q j z => (h'.1 q j z).trans (h.1 q j z), fun q j z z' => (h'.2 q j z z').trans (h.2 q j z z')⟩
theorem fv_I {k q : Nat} {V : LV} {x : Int32} (hq : q = 9 ∨ q = 11 ∨ q = 12) : FV k V (vI V q k x) := ⟨fun q' j z => if_neg (fun e => z ⟨by rw [e.1]; exact hq, e.2⟩), fun _ _ _ _ => rfl⟩
theorem fv_J {k q : Nat} {V : LV} {x : Int64} (hq : q = 7 ∨ q = 10) : FV k V (vJ V q k x) := ⟨fun _ _ _ => rfl, fun q' j z _ => if_neg (fun e => z ⟨by rw [e.1]; exact hq, e.2⟩)⟩
theorem fv_R {k p : Nat} {V : LV} {x : Int64} (hp : p < 4) : FV k V (vJ V 8 (4 * k + p) x) := ⟨fun _ _ _ => rfl, fun q' j _ z => if_neg (fun e => z ⟨e.1, by omega, by omega⟩)⟩
theorem fv_cut {k how : Nat} {V : LV} {x : Int64} : FV k V (cutV V k how x) := (fv_J (Or.inr rfl)).trans (fv_I (Or.inr (Or.inl rfl)))
theorem ck_fv {k k' kd how lim far : Nat} {a b : Int64} {V V' : LV} (h : CK V k kd how lim far a b) (f : FV k' V V') : CK V' k kd how lim far a b := by
  obtain ⟨h1, h2, h3, h4, h5, h6, h7⟩ := h
  exact ⟨(f.1 1 k (by omega)).trans h1, (f.1 2 k (by omega)).trans h2, (f.1 3 k (by omega)).trans h3, (f.1 4 k (by omega)).trans h4, fun z => (f.2 5 k (by omega) (by omega)).trans (h5 z), fun z => (f.2 6 k (by omega) (by omega)).trans (h6 z), h7⟩
theorem sr_fv {k k' kd far : Nat} {σ : AS} {V V' : LV} (h : SR V k kd far σ) (f : FV k' V V') (hn : k ≠ k') (hf : far ≤ 4) : SR V' k kd far σ := by
  obtain ⟨h1, h2, h3, h4, h5⟩ := h
  refine ⟨(f.2 10 k (by omega) (by omega)).trans h1, (f.1 11 k (by omega)).trans h2, (f.1 12 k (by omega)).trans h3, fun z => (f.2 7 k (by omega) (by omega)).trans (h4 z), fun z => ?_⟩
  obtain ⟨a1, a2, a3⟩ := h5 z
  exact ⟨(f.1 9 k (by omega)).trans a1, a2, fun j hj => (f.2 8 _ (by omega) (by omega)).trans (a3 j hj)⟩
theorem sr_cut {k kd far how lim : Nat} {σ : AS} {V : LV} {x : Int64} (h : SR V k kd far σ) : SR (cutV V k how x) k kd far (acut how lim σ x).2 ∧ ay lim (aq how (V.2 10 k) x) = (acut how lim σ x).1 := by
  obtain ⟨h1, h2, h3, h4, h5⟩ := h
  unfold acut
  refine ⟨⟨?_, ?_, ?_, fun z => ?_, fun z => ?_⟩, by rw [h1]⟩
  · show (vJ V 10 k (are how (V.2 10 k) x)).2 10 k = are how σ.2.2.1 x
    rw [vJ_at, h1]
  · show (vI (vJ V 10 k (are how (V.2 10 k) x)) 11 k (aov (aq how (V.2 10 k) x) (V.1 11 k))).1 11 k = aov (aq how σ.2.2.1 x) σ.2.2.2.1
    rw [vI_at, h1, h2]
  · show (vI (vJ V 10 k (are how (V.2 10 k) x)) 11 k (aov (aq how (V.2 10 k) x) (V.1 11 k))).1 12 k = σ.2.2.2.2
    rw [vI_q (by decide)]; exact h3
  · show (vJ V 10 k (are how (V.2 10 k) x)).2 7 k = σ.1 0
    rw [vJ_q (by decide)]; exact h4 z
  · obtain ⟨a1, a2, a3⟩ := h5 z
    refine ⟨?_, a2, fun j hj => ?_⟩
    · show (vI (vJ V 10 k (are how (V.2 10 k) x)) 11 k (aov (aq how (V.2 10 k) x) (V.1 11 k))).1 9 k = _
      rw [vI_q (by decide)]; exact a1
    · show (vJ V 10 k (are how (V.2 10 k) x)).2 8 (4 * k + j) = _
      rw [vJ_q (by decide)]; exact a3 j hj
/-- a cell put -/
theorem sr_put {k kd far : Nat} {σ : AS} {V : LV} {y : Int64} (h : SR V k kd far σ) (hk : kd = 1 ∨ kd = 5 ∨ kd = 11) : SR (vJ V 7 k y) k kd far (pu0 σ y) := by
  obtain ⟨h1, h2, h3, h4, h5⟩ := h
  refine ⟨(vJ_q (by decide) _).trans h1, h2, h3, fun _ => ?_, fun z => absurd z (by omega)⟩
  rw [vJ_at]; rfl
/-- a ring pushed on -/
theorem sr_push {k kd far : Nat} {σ : AS} {V : LV} {y : Int64} (h : SR V k kd far σ) (hk : kd = 6 ∨ kd = 8) (hf : 1 ≤ far) : SR (vI (vJ V 8 (4 * k + σ.2.1) y) 9 k (i32 ((σ.2.1 + 1) % far))) k kd far (pur σ far y) := by
  obtain ⟨h1, h2, h3, h4, h5⟩ := h
  obtain ⟨a1, a2, a3⟩ := h5 hk
  refine ⟨?_, ?_, ?_, fun z => absurd z (by omega), fun _ => ⟨vI_at _ _ _ _, Nat.mod_lt _ hf, fun j hj => ?_⟩⟩
  · show (vJ V 8 (4 * k + σ.2.1) y).2 10 k = _
    rw [vJ_q (by decide)]; exact h1
  · rw [vI_q (by decide)]; exact h2
  · rw [vI_q (by decide)]; exact h3
  show (vJ V 8 (4 * k + σ.2.1) y).2 8 (4 * k + j) = (if j = σ.2.1 then y else σ.1 j)
  by_cases e : j = σ.2.1
  · rw [if_pos e, e, vJ_at]
  · rw [if_neg e, vJ_j (by omega)]; exact a3 j hj
theorem sr_touch {k kd far : Nat} {σ : AS} {V : LV} (h : SR V k kd far σ) : SR (vI V 12 k (V.1 12 k + 1)) k kd far (tou σ) := by
  obtain ⟨h1, h2, h3, h4, h5⟩ := h
  refine ⟨h1, (vI_q (by decide) _).trans h2, ?_, h4, fun z => ⟨(vI_q (by decide) _).trans (h5 z).1, (h5 z).2⟩⟩
  rw [vI_at, h3]; rfl
theorem cut_neg {v : Int64} (hv : vb 2 v) : g_Shorts_cut (-v) = if v = -32768 then 32767 else -v := by
  obtain ⟨h1, h2⟩ := (hv : -32768 ≤ v ∧ v ≤ 32767)
  rw [Int64.le_iff_toInt_le] at h1 h2
  have z1 : (-32768 : Int64).toInt = -32768 := by decide
  have z2 : (32767 : Int64).toInt = 32767 := by decide
  rw [z1] at h1
  rw [z2] at h2
  have en : (-v).toInt = -v.toInt := by
    rw [Int64.toInt_neg]
    exact Int.bmod_eq_of_le (by omega) (by omega)
  unfold g_Shorts_cut
  by_cases e : v = -32768
  · subst e; decide
  · have : v.toInt ≠ -32768 := fun q => e (Int64.toInt_inj.mp (q.trans z1.symm))
    rw [if_neg e, if_pos (by rw [Int64.le_iff_toInt_le, en, z2]; omega), if_pos (by rw [Int64.le_iff_toInt_le, en, z1]; omega)]
section KINDS
variable {G : GT} {N M B bx k how lim kd far f s : Nat} {SA : Nat → Nat} {la : Nat → Nat} {S : ST} {C : CT} {V : LV} {h0 : Nat → Option JCell} {k517 : K517} {k553 : K553} {k634 : K634} {σ : AS}
  {v3 v11 v12 v24 v25 v27 v33 v34 v41 : Int32} {v13 v15 v28 v30 v35 v37 x q a b : Int64}
theorem rkd (h : LX G B bx la 15 S C) (hk : k < 4) (hkd : V.1 1 k = i32 kd) : jaI (mu C la h0 V).1 (la 1) (i32 k) = some (i32 kd) := by rw [lrI (q := 1) h (by decide) rfl (jr4 hk (by decide)), hkd]
theorem rca (h : LX G B bx la 15 S C) (hk : k < 4) : jaJ (mu C la h0 V).1 (la 5) (i32 k) = some (V.2 5 k) := lrJ (q := 5) h (by decide) rfl (jr4 hk (by decide))
theorem rst (h : LX G B bx la 15 S C) (hk : k < 4) : jaJ (mu C la h0 V).1 (la 7) (i32 k) = some (V.2 7 k) := lrJ (q := 7) h (by decide) rfl (jr4 hk (by decide))
theorem kne {kd c : Nat} (hk : kd < 16) (hc : c < 16) (h : kd ≠ c) : ¬ i32 kd = i32 c := i32_ne (by omega) (by omega) h
theorem e1313 (h : LX G B bx la 15 S C) (hk : k < 4) (hkd : V.1 1 k = i32 kd) (h16 : kd < 16) (n10 : kd ≠ 10) : g_L_law_1313 N M B SA k517 k553 (la 0) bx v3 (la 1) (la 2) (la 3) (la 4) (la 5) (la 6) v11 v12 v13 v15 (la 7) (la 8) (la 9) (la 10) (la 11) (la 12) (la 13) v24 v25 (la 14) v27 v28 v30 (i32 k) v35 (mu C la h0 V) = g_L_law_1394 N M B SA k517 k553 (la 0) bx v3 (la 1) (la 2) (la 3) (la 4) (la 5) (la 6) v11 v12 v13 v15 (la 7) (la 8) (la 9) (la 10) (la 11) (la 12) (la 13) v24 v25 (la 14) v27 v30 (i32 k) v35 (mu C la h0 V) := by
  unfold g_L_law_1313
  rw [rkd h hk hkd, obd_some, if_neg (show ¬ i32 kd = (10 : Int32) from kne (c := 10) h16 (by decide) n10)]
theorem e1213 (h : LX G B bx la 15 S C) (hk : k < 4) (hkd : V.1 1 k = i32 kd) (h16 : kd < 16) (n9 : kd ≠ 9) (n10 : kd ≠ 10) : g_L_law_1213 N M B SA k517 k553 (la 0) bx v3 (la 1) (la 2) (la 3) (la 4) (la 5) (la 6) v11 v12 v13 v15 (la 7) (la 8) (la 9) (la 10) (la 11) (la 12) (la 13) v24 v25 (la 14) v27 v28 v30 (i32 k) v35 (mu C la h0 V) = g_L_law_1394 N M B SA k517 k553 (la 0) bx v3 (la 1) (la 2) (la 3) (la 4) (la 5) (la 6) v11 v12 v13 v15 (la 7) (la 8) (la 9) (la 10) (la 11) (la 12) (la 13) v24 v25 (la 14) v27 v30 (i32 k) v35 (mu C la h0 V) := by
  unfold g_L_law_1213
  rw [rkd h hk hkd, obd_some, if_neg (show ¬ i32 kd = (9 : Int32) from kne (c := 9) h16 (by decide) n9), e1313 h hk hkd h16 n10]
theorem e1116 (h : LX G B bx la 15 S C) (hk : k < 4) (hkd : V.1 1 k = i32 kd) (h16 : kd < 16) (n6 : kd ≠ 6) (n8 : kd ≠ 8) : g_L_law_1116 N M B SA k517 k553 (la 0) bx v3 (la 1) (la 2) (la 3) (la 4) (la 5) (la 6) v11 v12 v13 v15 (la 7) (la 8) (la 9) (la 10) (la 11) (la 12) (la 13) v24 v25 (la 14) v27 v28 v30 (i32 k) v35 (mu C la h0 V) = g_L_law_1213 N M B SA k517 k553 (la 0) bx v3 (la 1) (la 2) (la 3) (la 4) (la 5) (la 6) v11 v12 v13 v15 (la 7) (la 8) (la 9) (la 10) (la 11) (la 12) (la 13) v24 v25 (la 14) v27 v28 v30 (i32 k) v35 (mu C la h0 V) := by
  unfold g_L_law_1116
  rw [rkd h hk hkd, obd_some, if_neg (show ¬ i32 kd = (6 : Int32) from kne (c := 6) h16 (by decide) n6), obd_some, if_neg (show ¬ i32 kd = (8 : Int32) from kne (c := 8) h16 (by decide) n8)]
theorem e1100 (h : LX G B bx la 15 S C) (hk : k < 4) (hkd : V.1 1 k = i32 kd) (h16 : kd < 16) (n5 : kd ≠ 5) : g_L_law_1100 N M B SA k517 k553 (la 0) bx v3 (la 1) (la 2) (la 3) (la 4) (la 5) (la 6) v11 v12 v13 v15 (la 7) (la 8) (la 9) (la 10) (la 11) (la 12) (la 13) v24 v25 (la 14) v27 v28 v30 (i32 k) v35 v37 (mu C la h0 V) = g_L_law_1116 N M B SA k517 k553 (la 0) bx v3 (la 1) (la 2) (la 3) (la 4) (la 5) (la 6) v11 v12 v13 v15 (la 7) (la 8) (la 9) (la 10) (la 11) (la 12) (la 13) v24 v25 (la 14) v27 v28 v30 (i32 k) v35 (mu C la h0 V) := by
  unfold g_L_law_1100
  rw [rkd h hk hkd, obd_some, if_neg (show ¬ i32 kd = (5 : Int32) from kne (c := 5) h16 (by decide) n5)]
theorem e1074 (h : LX G B bx la 15 S C) (hk : k < 4) (hkd : V.1 1 k = i32 kd) (h16 : kd < 16) (n1 : kd ≠ 1) (n11 : kd ≠ 11) : g_L_law_1074 N M B SA k517 k553 (la 0) bx v3 (la 1) (la 2) (la 3) (la 4) (la 5) (la 6) v11 v12 v13 v15 (la 7) (la 8) (la 9) (la 10) (la 11) (la 12) (la 13) v24 v25 (la 14) v27 v28 v30 (i32 k) v35 v37 (mu C la h0 V) = g_L_law_1100 N M B SA k517 k553 (la 0) bx v3 (la 1) (la 2) (la 3) (la 4) (la 5) (la 6) v11 v12 v13 v15 (la 7) (la 8) (la 9) (la 10) (la 11) (la 12) (la 13) v24 v25 (la 14) v27 v28 v30 (i32 k) v35 v37 (mu C la h0 V) := by
  unfold g_L_law_1074
  rw [rkd h hk hkd, obd_some, if_neg (show ¬ i32 kd = (1 : Int32) from kne (c := 1) h16 (by decide) n1), obd_some, if_neg (show ¬ i32 kd = (11 : Int32) from kne (c := 11) h16 (by decide) n11)]
/-- GAIN -/
theorem l_0 (h : LX G B bx la 15 S C) (hk : k < 4) (hkd : V.1 1 k = i32 0) : g_L_law_1074 N M B SA k517 k553 (la 0) bx v3 (la 1) (la 2) (la 3) (la 4) (la 5) (la 6) v11 v12 v13 v15 (la 7) (la 8) (la 9) (la 10) (la 11) (la 12) (la 13) v24 v25 (la 14) v27 v28 v30 (i32 k) v35 v37 (mu C la h0 V) = g_L_law_1394 N M B SA k517 k553 (la 0) bx v3 (la 1) (la 2) (la 3) (la 4) (la 5) (la 6) v11 v12 v13 v15 (la 7) (la 8) (la 9) (la 10) (la 11) (la 12) (la 13) v24 v25 (la 14) v27 v30 (i32 k) v35 (mu C la h0 V) := by
  rw [e1074 h hk hkd (by decide) (by decide) (by decide), e1100 h hk hkd (by decide) (by decide), e1116 h hk hkd (by decide) (by decide) (by decide), e1213 h hk hkd (by decide) (by decide) (by decide)]
/-- POLE, PEAK -/
theorem l_1 (h : LX G B bx la 15 S C) (hk : k < 4) (hkd : V.1 1 k = i32 kd) (h1 : kd = 1 ∨ kd = 11) : g_L_law_1074 N M B SA k517 k553 (la 0) bx v3 (la 1) (la 2) (la 3) (la 4) (la 5) (la 6) v11 v12 v13 v15 (la 7) (la 8) (la 9) (la 10) (la 11) (la 12) (la 13) v24 v25 (la 14) v27 v28 v30 (i32 k) v35 v37 (mu C la h0 V) = g_L_law_1394 N M B SA k517 k553 (la 0) bx v3 (la 1) (la 2) (la 3) (la 4) (la 5) (la 6) v11 v12 v13 v15 (la 7) (la 8) (la 9) (la 10) (la 11) (la 12) (la 13) v24 v25 (la 14) v27 v30 (i32 k) v35 (mu C la h0 (vJ V 7 k v35)) := by
  have e93 : g_L_law_1093 N M B SA k517 k553 (la 0) bx v3 (la 1) (la 2) (la 3) (la 4) (la 5) (la 6) v11 v12 v13 v15 (la 7) (la 8) (la 9) (la 10) (la 11) (la 12) (la 13) v24 v25 (la 14) v27 v28 v30 (i32 k) v35 v37 (mu C la h0 V) = g_L_law_1394 N M B SA k517 k553 (la 0) bx v3 (la 1) (la 2) (la 3) (la 4) (la 5) (la 6) v11 v12 v13 v15 (la 7) (la 8) (la 9) (la 10) (la 11) (la 12) (la 13) v24 v25 (la 14) v27 v30 (i32 k) v35 (mu C la h0 (vJ V 7 k v35)) := by
    have k1 : (vJ V 7 k v35).1 1 k = i32 kd := hkd
    unfold g_L_law_1093
    rw [lpJ (q := 7) h (by decide) rfl (jr4 hk (by decide)), obd_some, e1100 h hk k1 (by omega) (by omega), e1116 h hk k1 (by omega) (by omega) (by omega), e1213 h hk k1 (by omega) (by omega) (by omega)]
  unfold g_L_law_1074
  rw [rkd h hk hkd, obd_some]
  rcases h1 with e | e
  · rw [if_pos (by rw [e]; rfl), e93]
  · rw [if_neg (show ¬ i32 kd = (1 : Int32) from kne (c := 1) (by omega) (by decide) (by omega)), obd_some, if_pos (by rw [e]; rfl), e93]
/-- PASS -/
theorem l_5 (h : LX G B bx la 15 S C) (hk : k < 4) (hkd : V.1 1 k = i32 5) : g_L_law_1074 N M B SA k517 k553 (la 0) bx v3 (la 1) (la 2) (la 3) (la 4) (la 5) (la 6) v11 v12 v13 v15 (la 7) (la 8) (la 9) (la 10) (la 11) (la 12) (la 13) v24 v25 (la 14) v27 v28 v30 (i32 k) v35 v37 (mu C la h0 V) = g_L_law_1394 N M B SA k517 k553 (la 0) bx v3 (la 1) (la 2) (la 3) (la 4) (la 5) (la 6) v11 v12 v13 v15 (la 7) (la 8) (la 9) (la 10) (la 11) (la 12) (la 13) v24 v25 (la 14) v27 v30 (i32 k) v35 (mu C la h0 (vJ V 7 k v37)) := by
  have k1 : (vJ V 7 k v37).1 1 k = i32 5 := hkd
  rw [e1074 h hk hkd (by decide) (by decide) (by decide)]
  unfold g_L_law_1100
  rw [rkd h hk hkd, obd_some, if_pos (by rfl), lpJ (q := 7) h (by decide) rfl (jr4 hk (by decide)), obd_some, e1116 h hk k1 (by decide) (by decide) (by decide), e1213 h hk k1 (by decide) (by decide) (by decide)]
/-- a ring -/
theorem l_ring (h : LX G B bx la 15 S C) (hk : k < 4) (hkd : V.1 1 k = i32 kd) (h6 : kd = 6 ∨ kd = 8) (h4 : V.1 4 k = i32 far) (hf1 : 1 ≤ far) (hf4 : far ≤ 4) {p : Nat} (h9 : V.1 9 k = i32 p) (hp : p < far) :
    g_L_law_1074 N M B SA k517 k553 (la 0) bx v3 (la 1) (la 2) (la 3) (la 4) (la 5) (la 6) v11 v12 v13 v15 (la 7) (la 8) (la 9) (la 10) (la 11) (la 12) (la 13) v24 v25 (la 14) v27 v28 v30 (i32 k) v35 v37 (mu C la h0 V) = g_L_law_1394 N M B SA k517 k553 (la 0) bx v3 (la 1) (la 2) (la 3) (la 4) (la 5) (la 6) v11 v12 v13 v15 (la 7) (la 8) (la 9) (la 10) (la 11) (la 12) (la 13) v24 v25 (la 14) v27 v30 (i32 k) (if kd = 6 then V.2 8 (4 * k + p) else v35) (mu C la h0 (vI (vJ V 8 (4 * k + p) (if kd = 6 then v28 else v35)) 9 k (i32 ((p + 1) % far)))) := by
  have h16 : kd < 16 := by omega
  have ei : (4 : Int32) * i32 k + i32 p = i32 (4 * k + p) := by rw [show (4 : Int32) = i32 4 from rfl, i32_mul, i32_add]
  have r9 : ∀ W : LV, W.1 9 k = i32 p → jaI (mu C la h0 W).1 (la 9) (i32 k) = some (i32 p) := fun W hW => by rw [lrI (q := 9) h (by decide) rfl (jr4 hk (by decide)), hW]
  have j8 : jrg (lln 8) (i32 (4 * k + p)) = some (4 * k + p) := jrg_i32 (show 4 * k + p < 16 by omega) (by decide)
  have e80 : ∀ y, g_L_law_1180 N M B SA k517 k553 (la 0) bx v3 (la 1) (la 2) (la 3) (la 4) (la 5) (la 6) v11 v12 v13 v15 (la 7) (la 8) (la 9) (la 10) (la 11) (la 12) (la 13) v24 v25 (la 14) v27 v28 v30 (i32 k) v35 (V.2 8 (4 * k + p)) y (i32 (4 * k + p)) (la 8) (mu C la h0 V) = g_L_law_1394 N M B SA k517 k553 (la 0) bx v3 (la 1) (la 2) (la 3) (la 4) (la 5) (la 6) v11 v12 v13 v15 (la 7) (la 8) (la 9) (la 10) (la 11) (la 12) (la 13) v24 v25 (la 14) v27 v30 (i32 k) (if kd = 6 then V.2 8 (4 * k + p) else v35) (mu C la h0 (vI (vJ V 8 (4 * k + p) y) 9 k (i32 ((p + 1) % far)))) := fun y => by
    have k1 : (vI (vJ V 8 (4 * k + p) y) 9 k (i32 ((p + 1) % far))).1 1 k = i32 kd := (vI_q (by decide) _).trans hkd
    unfold g_L_law_1180
    rw [lpJ (q := 8) h (by decide) rfl j8, obd_some, r9 (vJ V 8 (4 * k + p) y) h9, obd_some, lrI (q := 4) h (by decide) rfl (jr4 hk (by decide)), obd_some, show (vJ V 8 (4 * k + p) y).1 4 k = i32 far from h4, show i32 p + (1 : Int32) = i32 (p + 1) from i32_add p 1, jrem_i32 (by omega) (by omega) (by omega), obd_some, lpI (q := 9) h (by decide) rfl (jr4 hk (by decide)), obd_some, rkd h hk k1, obd_some]
    by_cases e : kd = 6
    · rw [if_pos (by rw [e]; rfl), if_pos e, e1213 h hk k1 h16 (by omega) (by omega)]
    · rw [if_neg (show ¬ i32 kd = (6 : Int32) from kne (c := 6) h16 (by decide) e), if_neg e, e1213 h hk k1 h16 (by omega) (by omega)]
  have e36 : g_L_law_1136 N M B SA k517 k553 (la 0) bx v3 (la 1) (la 2) (la 3) (la 4) (la 5) (la 6) v11 v12 v13 v15 (la 7) (la 8) (la 9) (la 10) (la 11) (la 12) (la 13) v24 v25 (la 14) v27 v28 v30 (i32 k) v35 (mu C la h0 V) = g_L_law_1394 N M B SA k517 k553 (la 0) bx v3 (la 1) (la 2) (la 3) (la 4) (la 5) (la 6) v11 v12 v13 v15 (la 7) (la 8) (la 9) (la 10) (la 11) (la 12) (la 13) v24 v25 (la 14) v27 v30 (i32 k) (if kd = 6 then V.2 8 (4 * k + p) else v35) (mu C la h0 (vI (vJ V 8 (4 * k + p) (if kd = 6 then v28 else v35)) 9 k (i32 ((p + 1) % far)))) := by
    unfold g_L_law_1136
    rw [r9 V h9, obd_some, ei, lrJ (q := 8) h (by decide) rfl j8, obd_some, obd_some, rkd h hk hkd, obd_some, ei]
    by_cases e : kd = 6
    · rw [if_pos (by rw [e]; rfl), e80, if_pos e, if_pos e]
    · rw [if_neg (show ¬ i32 kd = (6 : Int32) from kne (c := 6) h16 (by decide) e), e80, if_neg e, if_neg e]
  rw [e1074 h hk hkd h16 (by omega) (by omega), e1100 h hk hkd h16 (by omega)]
  unfold g_L_law_1116
  rw [rkd h hk hkd, obd_some]
  rcases h6 with e | e
  · rw [if_pos (by rw [e]; rfl), e36]
  · rw [if_neg (show ¬ i32 kd = (6 : Int32) from kne (c := 6) h16 (by decide) (by omega)), obd_some, if_pos (by rw [e]; rfl), e36]
theorem l_touch (h : LX G B bx la 15 S C) (hk : k < 4) {β : Type} (K : JMem → Option β) : (obd (jaI (mu C la h0 V).1 (la 12) (i32 k)) fun x1 => obd (jpA B .int (la 12) (i32 k) (.int (x1 + (1 : Int32))) (mu C la h0 V)) K) = K (mu C la h0 (vI V 12 k (V.1 12 k + 1))) := by
  rw [lrI (q := 12) h (by decide) rfl (jr4 hk (by decide)), obd_some, lpI (q := 12) h (by decide) rfl (jr4 hk (by decide)), obd_some]
/-- CLIP -/
theorem l_9 (h : LX G B bx la 15 S C) (hk : k < 4) (hkd : V.1 1 k = i32 9) (ha : vb 2 (V.2 5 k)) :
    g_L_law_1074 N M B SA k517 k553 (la 0) bx v3 (la 1) (la 2) (la 3) (la 4) (la 5) (la 6) v11 v12 v13 v15 (la 7) (la 8) (la 9) (la 10) (la 11) (la 12) (la 13) v24 v25 (la 14) v27 v28 v30 (i32 k) v35 v37 (mu C la h0 V) = g_L_law_1394 N M B SA k517 k553 (la 0) bx v3 (la 1) (la 2) (la 3) (la 4) (la 5) (la 6) v11 v12 v13 v15 (la 7) (la 8) (la 9) (la 10) (la 11) (la 12) (la 13) v24 v25 (la 14) v27 v30 (i32 k) (if V.2 5 k < v28 then V.2 5 k else if v28 < g_Shorts_cut (-V.2 5 k) then g_Shorts_cut (-V.2 5 k) else v28) (mu C la h0 (if V.2 5 k < v28 then vI V 12 k (V.1 12 k + 1) else if v28 < g_Shorts_cut (-V.2 5 k) then vI V 12 k (V.1 12 k + 1) else V)) := by
  have e77 : ∀ (W : LV) (low : Int64), W.1 1 k = i32 9 → g_L_law_1277 N M B SA k517 k553 (la 0) bx v3 (la 1) (la 2) (la 3) (la 4) (la 5) (la 6) v11 v12 v13 v15 (la 7) (la 8) (la 9) (la 10) (la 11) (la 12) (la 13) v24 v25 (la 14) v27 v28 v30 (i32 k) low (mu C la h0 W) = g_L_law_1394 N M B SA k517 k553 (la 0) bx v3 (la 1) (la 2) (la 3) (la 4) (la 5) (la 6) v11 v12 v13 v15 (la 7) (la 8) (la 9) (la 10) (la 11) (la 12) (la 13) v24 v25 (la 14) v27 v30 (i32 k) (if W.2 5 k < v28 then W.2 5 k else if v28 < low then low else v28) (mu C la h0 W) := fun W low hW => by
    unfold g_L_law_1277 g_L_law_1311
    rw [rca h hk, obd_some]
    by_cases e : W.2 5 k < v28
    · rw [if_neg (Int64.not_le.mpr e), obd_some, e1313 h hk hW (by decide) (by decide), if_pos e]
    · rw [if_pos (Int64.not_lt.mp e), if_neg e]
      by_cases e2 : v28 < low
      · rw [if_neg (Int64.not_le.mpr e2), if_pos e2, e1313 h hk hW (by decide) (by decide)]
      · rw [if_pos (Int64.not_lt.mp e2), if_neg e2, e1313 h hk hW (by decide) (by decide)]
  have e47 : ∀ low : Int64, g_L_law_1247 N M B SA k517 k553 (la 0) bx v3 (la 1) (la 2) (la 3) (la 4) (la 5) (la 6) v11 v12 v13 v15 (la 7) (la 8) (la 9) (la 10) (la 11) (la 12) (la 13) v24 v25 (la 14) v27 v28 v30 (i32 k) low (mu C la h0 V) = g_L_law_1394 N M B SA k517 k553 (la 0) bx v3 (la 1) (la 2) (la 3) (la 4) (la 5) (la 6) v11 v12 v13 v15 (la 7) (la 8) (la 9) (la 10) (la 11) (la 12) (la 13) v24 v25 (la 14) v27 v30 (i32 k) (if V.2 5 k < v28 then V.2 5 k else if v28 < low then low else v28) (mu C la h0 (if V.2 5 k < v28 then vI V 12 k (V.1 12 k + 1) else if v28 < low then vI V 12 k (V.1 12 k + 1) else V)) := fun low => by
    have k1 : (vI V 12 k (V.1 12 k + 1)).1 1 k = i32 9 := (vI_q (by decide) _).trans hkd
    have e68 := l_touch (V := V) (h0 := h0) h hk (g_L_law_1277 N M B SA k517 k553 (la 0) bx v3 (la 1) (la 2) (la 3) (la 4) (la 5) (la 6) v11 v12 v13 v15 (la 7) (la 8) (la 9) (la 10) (la 11) (la 12) (la 13) v24 v25 (la 14) v27 v28 v30 (i32 k) low)
    unfold g_L_law_1247 g_L_law_1268
    rw [rca h hk, obd_some]
    by_cases e : V.2 5 k < v28
    · rw [if_pos e, e68, e77 _ _ k1, if_pos e, if_pos e, if_pos (show (vI V 12 k (V.1 12 k + 1)).2 5 k < v28 from e)]
      rfl
    · rw [if_neg e, if_neg e, if_neg e]
      by_cases e2 : v28 < low
      · rw [if_neg (Int64.not_le.mpr e2), e68, e77 _ _ k1, if_pos e2, if_pos e2, if_neg (show ¬ (vI V 12 k (V.1 12 k + 1)).2 5 k < v28 from e)]
      · rw [if_pos (Int64.not_lt.mp e2), e77 _ _ hkd, if_neg e, if_neg e2, if_neg e2]
  rw [e1074 h hk hkd (by decide) (by decide) (by decide), e1100 h hk hkd (by decide) (by decide), e1116 h hk hkd (by decide) (by decide) (by decide), cut_neg ha]
  unfold g_L_law_1213
  rw [rkd h hk hkd, obd_some, if_pos (by rfl), rca h hk, obd_some]
  by_cases e : V.2 5 k = -32768
  · rw [if_pos e, if_pos e, e47]
  · rw [if_neg e, obd_some, if_neg e, e47]
/-- DEAD -/
theorem l_10 (h : LX G B bx la 15 S C) (hk : k < 4) (hkd : V.1 1 k = i32 10) (hv : vb 2 v28) :
    g_L_law_1074 N M B SA k517 k553 (la 0) bx v3 (la 1) (la 2) (la 3) (la 4) (la 5) (la 6) v11 v12 v13 v15 (la 7) (la 8) (la 9) (la 10) (la 11) (la 12) (la 13) v24 v25 (la 14) v27 v28 v30 (i32 k) v35 v37 (mu C la h0 V) = g_L_law_1394 N M B SA k517 k553 (la 0) bx v3 (la 1) (la 2) (la 3) (la 4) (la 5) (la 6) v11 v12 v13 v15 (la 7) (la 8) (la 9) (la 10) (la 11) (la 12) (la 13) v24 v25 (la 14) v27 v30 (i32 k) (if V.2 5 k < szF v28 then v28 else 0) (mu C la h0 (if V.2 5 k < szF v28 then V else vI V 12 k (V.1 12 k + 1))) := by
  have e53 : ∀ z : Int64, g_L_law_1353 N M B SA k517 k553 (la 0) bx v3 (la 1) (la 2) (la 3) (la 4) (la 5) (la 6) v11 v12 v13 v15 (la 7) (la 8) (la 9) (la 10) (la 11) (la 12) (la 13) v24 v25 (la 14) v27 v28 v30 (i32 k) z (mu C la h0 V) = g_L_law_1394 N M B SA k517 k553 (la 0) bx v3 (la 1) (la 2) (la 3) (la 4) (la 5) (la 6) v11 v12 v13 v15 (la 7) (la 8) (la 9) (la 10) (la 11) (la 12) (la 13) v24 v25 (la 14) v27 v30 (i32 k) (if V.2 5 k < z then v28 else 0) (mu C la h0 (if V.2 5 k < z then V else vI V 12 k (V.1 12 k + 1))) := fun z => by
    have e12 := l_touch (V := V) (h0 := h0) h hk (g_L_law_1375 N M B SA k517 k553 (la 0) bx v3 (la 1) (la 2) (la 3) (la 4) (la 5) (la 6) v11 v12 v13 v15 (la 7) (la 8) (la 9) (la 10) (la 11) (la 12) (la 13) v24 v25 (la 14) v27 v28 v30 (i32 k) z)
    unfold g_L_law_1353
    rw [rca h hk, obd_some]
    by_cases e : V.2 5 k < z
    · rw [if_pos e, if_pos e, if_pos e]
      unfold g_L_law_1375
      rw [rca h hk, obd_some, if_pos e]
      rfl
    · rw [if_neg e, if_neg e, if_neg e, e12]
      unfold g_L_law_1375
      rw [rca h hk, obd_some, if_neg (show ¬ (vI V 12 k (V.1 12 k + 1)).2 5 k < z from e)]
      rfl
  have ez : szF v28 = if (0 : Int64) ≤ v28 then v28 else if v28 = -32768 then 32767 else -v28 := by
    unfold szF
    rw [cut_neg hv]
  rw [e1074 h hk hkd (by decide) (by decide) (by decide), e1100 h hk hkd (by decide) (by decide), e1116 h hk hkd (by decide) (by decide) (by decide), ez]
  unfold g_L_law_1213
  rw [rkd h hk hkd, obd_some, if_neg (show ¬ i32 10 = (9 : Int32) by decide)]
  unfold g_L_law_1313
  rw [rkd h hk hkd, obd_some, if_pos (by rfl)]
  by_cases e0 : (0 : Int64) ≤ v28
  · rw [if_pos e0, if_pos e0, e53]
  · rw [if_neg e0, if_neg e0]
    by_cases e1 : v28 = -32768
    · rw [if_pos e1, if_pos e1, e53]
    · rw [if_neg e1, if_neg e1, e53]
end KINDS
