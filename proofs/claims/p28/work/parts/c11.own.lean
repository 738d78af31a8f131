/-! the law's account: a section's own sums, by its kind -/
def ownc (kd : Nat) : Nat := if kd = 5 then 2 else if kd = 6 ∨ kd = 9 ∨ kd = 10 then 0 else 1
section OWN
variable {G : GT} {N M B bx k how lim kd far f s o j : Nat} {SA : Nat → Nat} {la : Nat → Nat} {S : ST} {C : CT} {V : LV} {h0 : Nat → Option JCell} {k517 : K517} {k553 : K553} {k634 : K634} {σ : AS}
  {v3 v11 v12 v24 v25 v27 v33 v34 v41 : Int32} {v13 v15 v28 v30 v35 v37 x q a b : Int64} {μ : JMem}
theorem s_end (hs : s ≤ 4) (ho : o ≤ 4) (hj4 : j ≤ 9) (hj : s + o ≤ j) : g_L_law_634 N M B SA k517 k553 (f + 1) (la 0) bx v3 (la 1) (la 2) (la 3) (la 4) (la 5) (la 6) v11 v12 v13 v15 (la 7) (la 8) (la 9) (la 10) (la 11) (la 12) (la 13) v24 v25 (la 14) v27 v28 v30 (i32 k) (i32 s) (i32 o) v35 v37 (i32 j) μ = g_L_law_1074 N M B SA k517 k553 (la 0) bx v3 (la 1) (la 2) (la 3) (la 4) (la 5) (la 6) v11 v12 v13 v15 (la 7) (la 8) (la 9) (la 10) (la 11) (la 12) (la 13) v24 v25 (la 14) v27 v28 v30 (i32 k) (if o = 0 then v28 else v35) v37 μ := by
  rw [g_L_law_634]
  rw [i32_add, if_pos (by rw [i32_le (by omega) (by omega)]; exact hj)]
  by_cases e : o = 0
  · rw [if_pos (by rw [e]; rfl), if_pos e]
  · rw [if_neg (show ¬ i32 o = (0 : Int32) from i32_ne (b := 0) (by omega) (by decide) e), if_neg e]
theorem s_go (hs : s ≤ 4) (ho : o ≤ 4) (hj4 : j ≤ 9) (h1 : j < s + o) : ¬ (i32 s + i32 o ≤ i32 j) := by
  rw [i32_add, i32_le (by omega) (by omega)]; omega
theorem s_in (hs : s ≤ 4) (hj4 : j ≤ 9) (h2 : s ≤ j) : i32 s ≤ i32 j := by
  rw [i32_le (by omega) (by omega)]; exact h2
theorem own_0 (h : LX G B bx la 15 S C) (hk : k < 4) (c : CK V k 0 how lim far a b) (R : SR V k 0 far σ) (hs : s ≤ 4) :
    ∃ V', g_L_law_634 N M B SA k517 k553 (f + 2) (la 0) bx v3 (la 1) (la 2) (la 3) (la 4) (la 5) (la 6) v11 v12 v13 v15 (la 7) (la 8) (la 9) (la 10) (la 11) (la 12) (la 13) v24 v25 (la 14) v27 v28 v30 (i32 k) (i32 s) (i32 1) v35 v37 (i32 s) (mu C la h0 V) = g_L_law_1394 N M B SA k517 k553 (la 0) bx v3 (la 1) (la 2) (la 3) (la 4) (la 5) (la 6) v11 v12 v13 v15 (la 7) (la 8) (la 9) (la 10) (la 11) (la 12) (la 13) v24 v25 (la 14) v27 v30 (i32 k) (aS 0 how lim far a b σ v28).1 (mu C la h0 V') ∧ SR V' k 0 far (aS 0 how lim far a b σ v28).2 ∧ FV k V V' := by
  obtain ⟨c1, c2, c3, c4, c5, c6, c7, c8, c9, cA, cB⟩ := id c
  obtain ⟨r1, r2⟩ := sr_cut (how := how) (lim := lim) (x := a * v28) R
  have ew := w911 (N := N) (M := M) (SA := SA) (k517 := k517) (k553 := k553) (k634 := g_L_law_634 N M B SA k517 k553 (f + 1)) (v3 := v3) (v11 := v11) (v12 := v12) (v13 := v13) (v15 := v15) (v24 := v24) (v25 := v25) (v27 := v27) (v28 := v28) (v30 := v30) (v33 := i32 s) (v34 := i32 1) (v37 := v37) (v41 := i32 s) (x := a * v28) (h0 := h0) h hk c2 c7 c3 c8 c1 (by decide)
  rw [r2, if_pos (Int32.le_refl _), if_neg (fun z => absurd z.2.1 (by decide)), show i32 s + 1 = i32 (s + 1) from i32_add s 1, s_end hs (by decide) (by omega) (Nat.le_refl _), if_neg (by decide), l_0 h hk ((fv_cut.1 1 k (by omega)).trans c1)] at ew
  refine ⟨_, ?_, r1, fv_cut⟩
  rw [show (aS 0 how lim far a b σ v28).1 = (acut how lim σ (a * v28)).1 from rfl, ← ew]
  rw [g_L_law_634]
  rw [if_neg (s_go hs (by decide) (by omega) (by omega)), if_pos (Int32.le_refl _), rkd h hk c1, obd_some, if_pos (by rfl), rca h hk, obd_some, c5 (by decide)]
theorem own_1 (h : LX G B bx la 15 S C) (hk : k < 4) (c : CK V k 1 how lim far a b) (R : SR V k 1 far σ) (hs : s ≤ 4) :
    ∃ V', g_L_law_634 N M B SA k517 k553 (f + 2) (la 0) bx v3 (la 1) (la 2) (la 3) (la 4) (la 5) (la 6) v11 v12 v13 v15 (la 7) (la 8) (la 9) (la 10) (la 11) (la 12) (la 13) v24 v25 (la 14) v27 v28 v30 (i32 k) (i32 s) (i32 1) v35 v37 (i32 s) (mu C la h0 V) = g_L_law_1394 N M B SA k517 k553 (la 0) bx v3 (la 1) (la 2) (la 3) (la 4) (la 5) (la 6) v11 v12 v13 v15 (la 7) (la 8) (la 9) (la 10) (la 11) (la 12) (la 13) v24 v25 (la 14) v27 v30 (i32 k) (aS 1 how lim far a b σ v28).1 (mu C la h0 V') ∧ SR V' k 1 far (aS 1 how lim far a b σ v28).2 ∧ FV k V V' := by
  obtain ⟨c1, c2, c3, c4, c5, c6, c7, c8, c9, cA, cB⟩ := id c
  obtain ⟨r1, r2⟩ := sr_cut (how := how) (lim := lim) (x := a * v28 + b * σ.1 0) R
  have ew := w911 (N := N) (M := M) (SA := SA) (k517 := k517) (k553 := k553) (k634 := g_L_law_634 N M B SA k517 k553 (f + 1)) (v3 := v3) (v11 := v11) (v12 := v12) (v13 := v13) (v15 := v15) (v24 := v24) (v25 := v25) (v27 := v27) (v28 := v28) (v30 := v30) (v33 := i32 s) (v34 := i32 1) (v37 := v37) (v41 := i32 s) (x := a * v28 + b * σ.1 0) (h0 := h0) h hk c2 c7 c3 c8 c1 (by decide)
  rw [r2, if_pos (Int32.le_refl _), if_neg (fun z => absurd z.2.1 (by decide)), show i32 s + 1 = i32 (s + 1) from i32_add s 1, s_end hs (by decide) (by omega) (Nat.le_refl _), if_neg (by decide), l_1 h hk ((fv_cut.1 1 k (by omega)).trans c1) (Or.inl rfl)] at ew
  refine ⟨vJ (cutV V k how (a * v28 + b * σ.1 0)) 7 k (acut how lim σ (a * v28 + b * σ.1 0)).1, ?_, sr_put r1 (Or.inl rfl), fv_cut.trans (fv_J (Or.inl rfl))⟩
  rw [show (aS 1 how lim far a b σ v28).1 = (acut how lim σ (a * v28 + b * σ.1 0)).1 from rfl, ← ew]
  rw [g_L_law_634]
  rw [if_neg (s_go hs (by decide) (by omega) (by omega)), if_pos (Int32.le_refl _), rkd h hk c1, obd_some, if_neg (show ¬ i32 1 = (0 : Int32) by decide), obd_some, if_pos (by rfl), rca h hk, obd_some, c5 (by decide), lrJ (q := 6) h (by decide) rfl (jr4 hk (by decide)), obd_some, c6 rfl, rst h hk, obd_some, R.2.2.2.1 (Or.inl rfl)]
theorem own_5 (h : LX G B bx la 15 S C) (hk : k < 4) (c : CK V k 5 how lim far a b) (R : SR V k 5 far σ) (hs : s ≤ 4) :
    ∃ V', g_L_law_634 N M B SA k517 k553 (f + 3) (la 0) bx v3 (la 1) (la 2) (la 3) (la 4) (la 5) (la 6) v11 v12 v13 v15 (la 7) (la 8) (la 9) (la 10) (la 11) (la 12) (la 13) v24 v25 (la 14) v27 v28 v30 (i32 k) (i32 s) (i32 2) v35 v37 (i32 s) (mu C la h0 V) = g_L_law_1394 N M B SA k517 k553 (la 0) bx v3 (la 1) (la 2) (la 3) (la 4) (la 5) (la 6) v11 v12 v13 v15 (la 7) (la 8) (la 9) (la 10) (la 11) (la 12) (la 13) v24 v25 (la 14) v27 v30 (i32 k) (aS 5 how lim far a b σ v28).1 (mu C la h0 V') ∧ SR V' k 5 far (aS 5 how lim far a b σ v28).2 ∧ FV k V V' := by
  obtain ⟨c1, c2, c3, c4, c5, c6, c7, c8, c9, cA, cB⟩ := id c
  obtain ⟨x1, hx1⟩ : ∃ x1, x1 = v28 * 16384 + -(a * σ.1 0) := ⟨_, rfl⟩
  obtain ⟨r1, r2⟩ := sr_cut (how := how) (lim := lim) (x := x1) R
  have ew := w911 (N := N) (M := M) (SA := SA) (k517 := k517) (k553 := k553) (k634 := g_L_law_634 N M B SA k517 k553 (f + 2)) (v3 := v3) (v11 := v11) (v12 := v12) (v13 := v13) (v15 := v15) (v24 := v24) (v25 := v25) (v27 := v27) (v28 := v28) (v30 := v30) (v33 := i32 s) (v34 := i32 2) (v37 := v37) (v41 := i32 s) (x := x1) (h0 := h0) h hk c2 c7 c3 c8 c1 (by decide)
  rw [r2, if_pos (Int32.le_refl _), if_pos ⟨Int32.le_refl _, rfl, rfl⟩, show i32 s + 1 = i32 (s + 1) from i32_add s 1] at ew
  obtain ⟨y1, hy1⟩ : ∃ y1, y1 = (acut how lim σ x1).1 := ⟨_, rfl⟩
  obtain ⟨σ1, hσ1⟩ : ∃ σ1, σ1 = (acut how lim σ x1).2 := ⟨_, rfl⟩
  obtain ⟨V1, hV1⟩ : ∃ V1, V1 = cutV V k how x1 := ⟨_, rfl⟩
  have f1 : FV k V V1 := by rw [hV1]; exact fv_cut
  rw [← hV1, ← hσ1] at r1
  rw [← hV1, ← hy1] at ew
  have cc := ck_fv c f1
  obtain ⟨d1, d2, d3, d4, d5, d6, -⟩ := id cc
  have es : σ1.1 0 = σ.1 0 := by rw [hσ1]; rfl
  obtain ⟨q1, q2⟩ := sr_cut (how := how) (lim := lim) (x := a * y1 + σ.1 0 * 16384) r1
  have ev := w911 (N := N) (M := M) (SA := SA) (k517 := k517) (k553 := k553) (k634 := g_L_law_634 N M B SA k517 k553 (f + 1)) (v3 := v3) (v11 := v11) (v12 := v12) (v13 := v13) (v15 := v15) (v24 := v24) (v25 := v25) (v27 := v27) (v28 := v28) (v30 := v30) (v33 := i32 s) (v34 := i32 2) (v37 := y1) (v41 := i32 (s + 1)) (x := a * y1 + σ.1 0 * 16384) (h0 := h0) h hk d2 c7 d3 c8 d1 (by decide)
  have hne : ¬ i32 (s + 1) = i32 s := i32_ne (by omega) (by omega) (by omega)
  rw [q2, if_pos (s_in hs (by omega) (by omega)), if_neg (fun z => hne z.2.2), show i32 (s + 1) + 1 = i32 (s + 2) from i32_add (s + 1) 1, s_end hs (by decide) (by omega) (Nat.le_refl _), if_neg (by decide), l_5 h hk ((fv_cut.1 1 k (by omega)).trans d1)] at ev
  have e : aS 5 how lim far a b σ v28 = ((acut how lim σ1 (a * y1 + σ.1 0 * 16384)).1, pu0 (acut how lim σ1 (a * y1 + σ.1 0 * 16384)).2 y1) := by
    rw [hy1, hσ1, hx1]
    rfl
  rw [e]
  refine ⟨vJ (cutV V1 k how (a * y1 + σ.1 0 * 16384)) 7 k y1, ?_, sr_put q1 (Or.inr (Or.inl rfl)), (f1.trans fv_cut).trans (fv_J (Or.inl rfl))⟩
  · dsimp only
    rw [← ev]
    rw [g_L_law_634]
    rw [if_neg (s_go hs (by decide) (by omega) (by omega)), if_pos (Int32.le_refl _), rkd h hk c1, obd_some, if_neg (show ¬ i32 5 = (0 : Int32) by decide), obd_some, if_neg (show ¬ i32 5 = (1 : Int32) by decide), obd_some, if_pos (by rfl), if_pos (by rfl), rca h hk, obd_some, c5 (by decide), rst h hk, obd_some, R.2.2.2.1 (Or.inr (Or.inl rfl))]
    unfold g_L_law_802
    rw [show (16384 : Int64) * v28 - a * σ.1 0 = x1 by rw [hx1, Int64.sub_eq_add_neg, Int64.mul_comm (16384 : Int64)], ew]
    rw [g_L_law_634]
    rw [if_neg (s_go hs (by decide) (by omega) (by omega)), if_pos (s_in hs (by omega) (by omega)), rkd h hk d1, obd_some, if_neg (show ¬ i32 5 = (0 : Int32) by decide), obd_some, if_neg (show ¬ i32 5 = (1 : Int32) by decide), obd_some, if_pos (by rfl), if_neg hne, rca h hk, obd_some, d5 (by decide), rst h hk, obd_some, r1.2.2.2.1 (Or.inr (Or.inl rfl)), es]
    unfold g_L_law_802
    rw [Int64.mul_comm (16384 : Int64)]
theorem own_6 (h : LX G B bx la 15 S C) (hk : k < 4) (c : CK V k 6 how lim far a b) (R : SR V k 6 far σ) (hs : s ≤ 4) :
    ∃ V', g_L_law_634 N M B SA k517 k553 (f + 1) (la 0) bx v3 (la 1) (la 2) (la 3) (la 4) (la 5) (la 6) v11 v12 v13 v15 (la 7) (la 8) (la 9) (la 10) (la 11) (la 12) (la 13) v24 v25 (la 14) v27 v28 v30 (i32 k) (i32 s) (i32 0) v35 v37 (i32 s) (mu C la h0 V) = g_L_law_1394 N M B SA k517 k553 (la 0) bx v3 (la 1) (la 2) (la 3) (la 4) (la 5) (la 6) v11 v12 v13 v15 (la 7) (la 8) (la 9) (la 10) (la 11) (la 12) (la 13) v24 v25 (la 14) v27 v30 (i32 k) (aS 6 how lim far a b σ v28).1 (mu C la h0 V') ∧ SR V' k 6 far (aS 6 how lim far a b σ v28).2 ∧ FV k V V' := by
  obtain ⟨c1, c2, c3, c4, c5, c6, c7, c8, c9, cA, cB⟩ := id c
  obtain ⟨p1, p2, p3⟩ := R.2.2.2.2 (Or.inl rfl)
  refine ⟨_, ?_, sr_push (y := v28) R (Or.inl rfl) c9, (fv_R (by omega)).trans (fv_I (Or.inl rfl))⟩
  rw [s_end (o := 0) (j := s) hs (by decide) (by omega) (by omega), if_pos rfl, l_ring h hk c1 (Or.inl rfl) c4 c9 cA p1 p2, if_pos rfl, if_pos rfl, p3 _ p2]
  rfl
theorem own_8 (h : LX G B bx la 15 S C) (hk : k < 4) (c : CK V k 8 how lim far a b) (R : SR V k 8 far σ) (hs : s ≤ 4) :
    ∃ V', g_L_law_634 N M B SA k517 k553 (f + 2) (la 0) bx v3 (la 1) (la 2) (la 3) (la 4) (la 5) (la 6) v11 v12 v13 v15 (la 7) (la 8) (la 9) (la 10) (la 11) (la 12) (la 13) v24 v25 (la 14) v27 v28 v30 (i32 k) (i32 s) (i32 1) v35 v37 (i32 s) (mu C la h0 V) = g_L_law_1394 N M B SA k517 k553 (la 0) bx v3 (la 1) (la 2) (la 3) (la 4) (la 5) (la 6) v11 v12 v13 v15 (la 7) (la 8) (la 9) (la 10) (la 11) (la 12) (la 13) v24 v25 (la 14) v27 v30 (i32 k) (aS 8 how lim far a b σ v28).1 (mu C la h0 V') ∧ SR V' k 8 far (aS 8 how lim far a b σ v28).2 ∧ FV k V V' := by
  obtain ⟨c1, c2, c3, c4, c5, c6, c7, c8, c9, cA, cB⟩ := id c
  obtain ⟨p1, p2, p3⟩ := R.2.2.2.2 (Or.inr rfl)
  obtain ⟨x1, hx1⟩ : ∃ x1, x1 = v28 * 16384 + a * σ.1 σ.2.1 := ⟨_, rfl⟩
  obtain ⟨r1, r2⟩ := sr_cut (how := how) (lim := lim) (x := x1) R
  have ew := w911 (N := N) (M := M) (SA := SA) (k517 := k517) (k553 := k553) (k634 := g_L_law_634 N M B SA k517 k553 (f + 1)) (v3 := v3) (v11 := v11) (v12 := v12) (v13 := v13) (v15 := v15) (v24 := v24) (v25 := v25) (v27 := v27) (v28 := v28) (v30 := v30) (v33 := i32 s) (v34 := i32 1) (v37 := v37) (v41 := i32 s) (x := x1) (h0 := h0) h hk c2 c7 c3 c8 c1 (by decide)
  have ea : (acut how lim σ x1).2.2.1 = σ.2.1 := rfl
  have k4 : (cutV V k how x1).1 4 k = i32 far := (fv_cut.1 4 k (by omega)).trans c4
  have k9 : (cutV V k how x1).1 9 k = i32 σ.2.1 := by
    have := (r1.2.2.2.2 (Or.inr rfl)).1
    rw [ea] at this; exact this
  rw [r2, if_pos (Int32.le_refl _), if_neg (fun z => absurd z.2.1 (by decide)), show i32 s + 1 = i32 (s + 1) from i32_add s 1, s_end hs (by decide) (by omega) (Nat.le_refl _), if_neg (by decide), l_ring h hk ((fv_cut.1 1 k (by omega)).trans c1) (Or.inr rfl) k4 c9 cA k9 p2, if_neg (by decide), if_neg (by decide)] at ew
  have rp := sr_push (y := (acut how lim σ x1).1) r1 (Or.inr rfl) c9
  rw [ea] at rp
  refine ⟨vI (vJ (cutV V k how x1) 8 (4 * k + σ.2.1) (acut how lim σ x1).1) 9 k (i32 ((σ.2.1 + 1) % far)), ?_, ?_, (fv_cut (x := x1) (how := how)).trans ((fv_R (p := σ.2.1) (x := (acut how lim σ x1).1) (by omega)).trans (fv_I (x := i32 ((σ.2.1 + 1) % far)) (Or.inl rfl)))⟩
  · rw [show (aS 8 how lim far a b σ v28).1 = (acut how lim σ (v28 * 16384 + a * σ.1 σ.2.1)).1 from rfl, ← hx1, ← ew]
    rw [g_L_law_634]
    rw [if_neg (s_go hs (by decide) (by omega) (by omega)), if_pos (Int32.le_refl _), rkd h hk c1, obd_some, if_neg (show ¬ i32 8 = (0 : Int32) by decide), obd_some, if_neg (show ¬ i32 8 = (1 : Int32) by decide), obd_some, if_neg (show ¬ i32 8 = (5 : Int32) by decide), obd_some, if_pos (by rfl), rca h hk, obd_some, c5 (by decide), lrI (q := 9) h (by decide) rfl (jr4 hk (by decide)), obd_some, p1, show (4 : Int32) * i32 k + i32 σ.2.1 = i32 (4 * k + σ.2.1) by rw [show (4 : Int32) = i32 4 from rfl, i32_mul, i32_add], lrJ (q := 8) h (by decide) rfl (jrg_i32 (show 4 * k + σ.2.1 < 16 by omega) (by decide)), obd_some, p3 _ p2]
    show g_L_law_911 N M B SA k517 k553 (g_L_law_634 N M B SA k517 k553 (f + 1)) (la 0) bx v3 (la 1) (la 2) (la 3) (la 4) (la 5) (la 6) v11 v12 v13 v15 (la 7) (la 8) (la 9) (la 10) (la 11) (la 12) (la 13) v24 v25 (la 14) v27 v28 v30 (i32 k) (i32 s) (i32 1) v37 (i32 s) ((16384 : Int64) * v28 + a * σ.1 σ.2.1) (mu C la h0 V) = _
    rw [Int64.mul_comm (16384 : Int64), ← hx1]
  · rw [show (aS 8 how lim far a b σ v28).2 = pur (acut how lim σ (v28 * 16384 + a * σ.1 σ.2.1)).2 far (acut how lim σ (v28 * 16384 + a * σ.1 σ.2.1)).1 from rfl, ← hx1]
    exact rp
theorem own_9 (h : LX G B bx la 15 S C) (hk : k < 4) (c : CK V k 9 how lim far a b) (R : SR V k 9 far σ) (hs : s ≤ 4) :
    ∃ V', g_L_law_634 N M B SA k517 k553 (f + 1) (la 0) bx v3 (la 1) (la 2) (la 3) (la 4) (la 5) (la 6) v11 v12 v13 v15 (la 7) (la 8) (la 9) (la 10) (la 11) (la 12) (la 13) v24 v25 (la 14) v27 v28 v30 (i32 k) (i32 s) (i32 0) v35 v37 (i32 s) (mu C la h0 V) = g_L_law_1394 N M B SA k517 k553 (la 0) bx v3 (la 1) (la 2) (la 3) (la 4) (la 5) (la 6) v11 v12 v13 v15 (la 7) (la 8) (la 9) (la 10) (la 11) (la 12) (la 13) v24 v25 (la 14) v27 v30 (i32 k) (aS 9 how lim far a b σ v28).1 (mu C la h0 V') ∧ SR V' k 9 far (aS 9 how lim far a b σ v28).2 ∧ FV k V V' := by
  obtain ⟨c1, c2, c3, c4, c5, c6, c7, c8, c9, cA, cB⟩ := id c
  have el := l_9 (N := N) (M := M) (SA := SA) (k517 := k517) (k553 := k553) (v3 := v3) (v11 := v11) (v12 := v12) (v13 := v13) (v15 := v15) (v24 := v24) (v25 := v25) (v27 := v27) (v28 := v28) (v30 := v30) (v35 := v28) (v37 := v37) (h0 := h0) h hk c1 (by rw [c5 (by decide)]; exact cB)
  rw [c5 (by decide)] at el
  have e : aS 9 how lim far a b σ v28 = if a < v28 then (a, tou σ) else if v28 < g_Shorts_cut (-a) then (g_Shorts_cut (-a), tou σ) else (v28, σ) := rfl
  refine ⟨if a < v28 then vI V 12 k (V.1 12 k + 1) else if v28 < g_Shorts_cut (-a) then vI V 12 k (V.1 12 k + 1) else V, ?_, ?_, ?_⟩
  · rw [s_end (o := 0) (j := s) hs (by decide) (by omega) (by omega), if_pos rfl, el, e]
    by_cases h1 : a < v28
    · simp only [if_pos h1]
    · by_cases h2 : v28 < g_Shorts_cut (-a)
      · simp only [if_neg h1, if_pos h2]
      · simp only [if_neg h1, if_neg h2]
  · rw [e]
    by_cases h1 : a < v28
    · rw [if_pos h1, if_pos h1]; exact sr_touch R
    · simp only [if_neg h1]
      by_cases h2 : v28 < g_Shorts_cut (-a)
      · rw [if_pos h2, if_pos h2]; exact sr_touch R
      · rw [if_neg h2, if_neg h2]; exact R
  · by_cases h1 : a < v28
    · rw [if_pos h1]; exact fv_I (Or.inr (Or.inr rfl))
    · rw [if_neg h1]
      by_cases h2 : v28 < g_Shorts_cut (-a)
      · rw [if_pos h2]; exact fv_I (Or.inr (Or.inr rfl))
      · rw [if_neg h2]; exact FV.refl _ _
theorem own_10 (h : LX G B bx la 15 S C) (hk : k < 4) (c : CK V k 10 how lim far a b) (R : SR V k 10 far σ) (hs : s ≤ 4) (hv : vb 2 v28) :
    ∃ V', g_L_law_634 N M B SA k517 k553 (f + 1) (la 0) bx v3 (la 1) (la 2) (la 3) (la 4) (la 5) (la 6) v11 v12 v13 v15 (la 7) (la 8) (la 9) (la 10) (la 11) (la 12) (la 13) v24 v25 (la 14) v27 v28 v30 (i32 k) (i32 s) (i32 0) v35 v37 (i32 s) (mu C la h0 V) = g_L_law_1394 N M B SA k517 k553 (la 0) bx v3 (la 1) (la 2) (la 3) (la 4) (la 5) (la 6) v11 v12 v13 v15 (la 7) (la 8) (la 9) (la 10) (la 11) (la 12) (la 13) v24 v25 (la 14) v27 v30 (i32 k) (aS 10 how lim far a b σ v28).1 (mu C la h0 V') ∧ SR V' k 10 far (aS 10 how lim far a b σ v28).2 ∧ FV k V V' := by
  obtain ⟨c1, c2, c3, c4, c5, c6, c7, c8, c9, cA, cB⟩ := id c
  have el := l_10 (N := N) (M := M) (SA := SA) (k517 := k517) (k553 := k553) (v3 := v3) (v11 := v11) (v12 := v12) (v13 := v13) (v15 := v15) (v24 := v24) (v25 := v25) (v27 := v27) (v28 := v28) (v30 := v30) (v35 := v28) (v37 := v37) (h0 := h0) h hk c1 hv
  rw [c5 (by decide)] at el
  have e : aS 10 how lim far a b σ v28 = if a < szF v28 then (v28, σ) else (0, tou σ) := rfl
  refine ⟨if a < szF v28 then V else vI V 12 k (V.1 12 k + 1), ?_, ?_, ?_⟩
  · rw [s_end (o := 0) (j := s) hs (by decide) (by omega) (by omega), if_pos rfl, el, e]
    by_cases h1 : a < szF v28
    · simp only [if_pos h1]
    · simp only [if_neg h1]
  · rw [e]
    by_cases h1 : a < szF v28
    · rw [if_pos h1, if_pos h1]; exact R
    · rw [if_neg h1, if_neg h1]; exact sr_touch R
  · by_cases h1 : a < szF v28
    · rw [if_pos h1]; exact FV.refl _ _
    · rw [if_neg h1]; exact fv_I (Or.inr (Or.inr rfl))
theorem own_11 (h : LX G B bx la 15 S C) (hk : k < 4) (c : CK V k 11 how lim far a b) (R : SR V k 11 far σ) (hs : s ≤ 4) (hv : vb 2 v28) :
    ∃ V', g_L_law_634 N M B SA k517 k553 (f + 2) (la 0) bx v3 (la 1) (la 2) (la 3) (la 4) (la 5) (la 6) v11 v12 v13 v15 (la 7) (la 8) (la 9) (la 10) (la 11) (la 12) (la 13) v24 v25 (la 14) v27 v28 v30 (i32 k) (i32 s) (i32 1) v35 v37 (i32 s) (mu C la h0 V) = g_L_law_1394 N M B SA k517 k553 (la 0) bx v3 (la 1) (la 2) (la 3) (la 4) (la 5) (la 6) v11 v12 v13 v15 (la 7) (la 8) (la 9) (la 10) (la 11) (la 12) (la 13) v24 v25 (la 14) v27 v30 (i32 k) (aS 11 how lim far a b σ v28).1 (mu C la h0 V') ∧ SR V' k 11 far (aS 11 how lim far a b σ v28).2 ∧ FV k V V' := by
  obtain ⟨c1, c2, c3, c4, c5, c6, c7, c8, c9, cA, cB⟩ := id c
  have ez : szF v28 = if (0 : Int64) ≤ v28 then v28 else if v28 = -32768 then 32767 else -v28 := by
    unfold szF
    rw [cut_neg hv]
  have st0 := R.2.2.2.1 (Or.inr (Or.inr rfl))
  have e : aS 11 how lim far a b σ v28 = if σ.1 0 < szF v28 then (szF v28, pu0 σ (szF v28)) else ((acut how lim σ (a * σ.1 0)).1, pu0 (acut how lim σ (a * σ.1 0)).2 (acut how lim σ (a * σ.1 0)).1) := rfl
  have epre : g_L_law_634 N M B SA k517 k553 (f + 2) (la 0) bx v3 (la 1) (la 2) (la 3) (la 4) (la 5) (la 6) v11 v12 v13 v15 (la 7) (la 8) (la 9) (la 10) (la 11) (la 12) (la 13) v24 v25 (la 14) v27 v28 v30 (i32 k) (i32 s) (i32 1) v35 v37 (i32 s) (mu C la h0 V) = g_L_law_878 N M B SA k517 k553 (g_L_law_634 N M B SA k517 k553 (f + 1)) (la 0) bx v3 (la 1) (la 2) (la 3) (la 4) (la 5) (la 6) v11 v12 v13 v15 (la 7) (la 8) (la 9) (la 10) (la 11) (la 12) (la 13) v24 v25 (la 14) v27 v28 v30 (i32 k) (i32 s) (i32 1) v37 (i32 s) (szF v28) (mu C la h0 V) := by
    rw [g_L_law_634]
    rw [if_neg (s_go hs (by decide) (by omega) (by omega)), if_pos (Int32.le_refl _), rkd h hk c1, obd_some, if_neg (show ¬ i32 11 = (0 : Int32) by decide), obd_some, if_neg (show ¬ i32 11 = (1 : Int32) by decide), obd_some, if_neg (show ¬ i32 11 = (5 : Int32) by decide), obd_some, if_neg (show ¬ i32 11 = (8 : Int32) by decide), ez]
    by_cases h1 : (0 : Int64) ≤ v28
    · rw [if_pos h1, if_pos h1]
    · rw [if_neg h1, if_neg h1]
      by_cases h2 : v28 = -32768
      · rw [if_pos h2, if_pos h2]
      · rw [if_neg h2, if_neg h2]
  rw [epre]
  unfold g_L_law_878
  rw [rst h hk, obd_some, st0]
  by_cases h1 : σ.1 0 < szF v28
  · rw [if_neg (Int64.not_le.mpr h1), e, if_pos h1]
    refine ⟨vJ V 7 k (szF v28), ?_, sr_put R (Or.inr (Or.inr rfl)), fv_J (Or.inl rfl)⟩
    unfold g_L_law_1059
    rw [show i32 s + 1 = i32 (s + 1) from i32_add s 1, s_end hs (by decide) (by omega) (Nat.le_refl _), if_neg (by decide), l_1 h hk c1 (Or.inr rfl)]
  · rw [if_pos (Int64.not_lt.mp h1), e, if_neg h1]
    obtain ⟨r1, r2⟩ := sr_cut (how := how) (lim := lim) (x := a * σ.1 0) R
    have ew := w911 (N := N) (M := M) (SA := SA) (k517 := k517) (k553 := k553) (k634 := g_L_law_634 N M B SA k517 k553 (f + 1)) (v3 := v3) (v11 := v11) (v12 := v12) (v13 := v13) (v15 := v15) (v24 := v24) (v25 := v25) (v27 := v27) (v28 := v28) (v30 := v30) (v33 := i32 s) (v34 := i32 1) (v37 := v37) (v41 := i32 s) (x := a * σ.1 0) (h0 := h0) h hk c2 c7 c3 c8 c1 (by decide)
    rw [r2, if_pos (Int32.le_refl _), if_neg (fun z => absurd z.2.1 (by decide)), show i32 s + 1 = i32 (s + 1) from i32_add s 1, s_end hs (by decide) (by omega) (Nat.le_refl _), if_neg (by decide), l_1 h hk ((fv_cut.1 1 k (by omega)).trans c1) (Or.inr rfl)] at ew
    refine ⟨vJ (cutV V k how (a * σ.1 0)) 7 k (acut how lim σ (a * σ.1 0)).1, ?_, sr_put r1 (Or.inr (Or.inr rfl)), fv_cut.trans (fv_J (Or.inl rfl))⟩
    rw [rca h hk, obd_some, c5 (by decide), obd_some]
    exact ew
end OWN
