/-! the law's account: a section's turn, all sections of a sample -/
def cv (σ : AS) : Prop := ∀ j, vb 2 (σ.1 j)
theorem acut_vb {how lim : Nat} {σ : AS} {x : Int64} (hl : lim ≤ 1) (h : cv σ) : vb 2 (acut how lim σ x).1 ∧ cv (acut how lim σ x).2 := ⟨ay_vb hl _, h⟩
theorem pu0_vb {σ : AS} {y : Int64} (h : cv σ) (hy : vb 2 y) : cv (pu0 σ y) := fun j => by
  show vb 2 (if j = 0 then y else σ.1 j)
  by_cases e : j = 0
  · rw [if_pos e]; exact hy
  · rw [if_neg e]; exact h j
theorem pur_vb {σ : AS} {n : Nat} {y : Int64} (h : cv σ) (hy : vb 2 y) : cv (pur σ n y) := fun j => by
  show vb 2 (if j = σ.2.1 then y else σ.1 j)
  by_cases e : j = σ.2.1
  · rw [if_pos e]; exact hy
  · rw [if_neg e]; exact h j
theorem cutneg_vb (x : Int64) : vb 2 (g_Shorts_cut (-x)) := by
  have h := ngB_vb (so := 2) (by decide) x
  rw [ngF] at h; exact h
theorem aS_vb {kd how lim far : Nat} {a b v : Int64} {σ : AS} (hk : akd kd) (hl : lim ≤ 1) (ha : vb 2 a) (h : cv σ) (hv : vb 2 v) : vb 2 (aS kd how lim far a b σ v).1 ∧ cv (aS kd how lim far a b σ v).2 := by
  have A : ∀ σ x, cv σ → vb 2 (acut how lim σ x).1 ∧ cv (acut how lim σ x).2 := fun σ x h => acut_vb hl h
  rcases hk with e | e | e | e | e | e | e | e <;> subst e
  · exact A _ _ h
  · exact ⟨(A _ _ h).1, pu0_vb (A _ _ h).2 (A _ _ h).1⟩
  · exact ⟨(A _ _ (A _ _ h).2).1, pu0_vb (A _ _ (A _ _ h).2).2 (A _ _ h).1⟩
  · exact ⟨h _, pur_vb h hv⟩
  · exact ⟨(A _ _ h).1, pur_vb (A _ _ h).2 (A _ _ h).1⟩
  · show vb 2 (if a < v then (a, tou σ) else if v < g_Shorts_cut (-a) then (g_Shorts_cut (-a), tou σ) else (v, σ)).1 ∧ cv (if a < v then (a, tou σ) else if v < g_Shorts_cut (-a) then (g_Shorts_cut (-a), tou σ) else (v, σ)).2
    by_cases h1 : a < v
    · simp only [if_pos h1]; exact ⟨ha, h⟩
    · by_cases h2 : v < g_Shorts_cut (-a)
      · simp only [if_neg h1, if_pos h2]; exact ⟨cutneg_vb a, h⟩
      · simp only [if_neg h1, if_neg h2]; exact ⟨hv, h⟩
  · show vb 2 (if a < szF v then (v, σ) else (0, tou σ)).1 ∧ cv (if a < szF v then (v, σ) else (0, tou σ)).2
    by_cases h1 : a < szF v
    · simp only [if_pos h1]; exact ⟨hv, h⟩
    · simp only [if_neg h1]; exact ⟨vb_zero 2, h⟩
  · show vb 2 (if σ.1 0 < szF v then (szF v, pu0 σ (szF v)) else ((acut how lim σ (a * σ.1 0)).1, pu0 (acut how lim σ (a * σ.1 0)).2 (acut how lim σ (a * σ.1 0)).1)).1 ∧ cv (if σ.1 0 < szF v then (szF v, pu0 σ (szF v)) else ((acut how lim σ (a * σ.1 0)).1, pu0 (acut how lim σ (a * σ.1 0)).2 (acut how lim σ (a * σ.1 0)).1)).2
    by_cases h1 : σ.1 0 < szF v
    · simp only [if_pos h1]; exact ⟨szF_vb hv, pu0_vb h (szF_vb hv)⟩
    · simp only [if_neg h1]; exact ⟨(A _ _ h).1, pu0_vb (A _ _ h).2 (A _ _ h).1⟩
theorem aS_far {kd how lim far far' : Nat} {a b v : Int64} {σ : AS} (hk : akd kd) (h : (kd = 6 ∨ kd = 8) → far' = far) : aS kd how lim far' a b σ v = aS kd how lim far a b σ v := by
  rcases hk with e | e | e | e | e | e | e | e <;> subst e
  · rfl
  · rfl
  · rfl
  · rw [h (Or.inl rfl)]
  · rw [h (Or.inr rfl)]
  · rfl
  · rfl
  · rfl
theorem sr_far {V : LV} {k kd far far' : Nat} {σ : AS} (h : (kd = 6 ∨ kd = 8) → far' = far) (r : SR V k kd far' σ) : SR V k kd far σ := ⟨r.1, r.2.1, r.2.2.1, r.2.2.2.1, fun z => by rw [← h z]; exact r.2.2.2.2 z⟩
/-- a loop's account -/
def LR (V : LV) (base : Nat) (v : Int32) (n : Nat) (q : LY) : Prop := v = i32 q.2 ∧ q.2 < n ∧ ∀ j, j < 4 → V.2 13 (base + j) = q.1 j
section TURN
variable {G : GT} {N M B bx k how lim kd far f s o j n : Nat} {SA : Nat → Nat} {la : Nat → Nat} {S : ST} {C : CT} {V : LV} {h0 : Nat → Option JCell} {k517 : K517} {k553 : K553} {k634 : K634} {σ : AS}
  {v3 v11 v12 v24 v25 v27 v33 v34 v41 : Int32} {v13 v15 v28 v30 v35 v37 x q a b : Int64} {μ : JMem} {P : PA} {X : CY} {q0 q1 : LY} {φ : Nat → Nat}
theorem own_of (h : LX G B bx la 15 S C) (hk : k < 4) (hkd : akd kd) (c : CK V k kd how lim far a b) (R : SR V k kd far σ) (hs : s ≤ 4) (hv : vb 2 v28) :
    ∃ V', g_L_law_634 N M B SA k517 k553 (f + 3) (la 0) bx v3 (la 1) (la 2) (la 3) (la 4) (la 5) (la 6) v11 v12 v13 v15 (la 7) (la 8) (la 9) (la 10) (la 11) (la 12) (la 13) v24 v25 (la 14) v27 v28 v30 (i32 k) (i32 s) (i32 (ownc kd)) v35 v37 (i32 s) (mu C la h0 V) = g_L_law_1394 N M B SA k517 k553 (la 0) bx v3 (la 1) (la 2) (la 3) (la 4) (la 5) (la 6) v11 v12 v13 v15 (la 7) (la 8) (la 9) (la 10) (la 11) (la 12) (la 13) v24 v25 (la 14) v27 v30 (i32 k) (aS kd how lim far a b σ v28).1 (mu C la h0 V') ∧ SR V' k kd far (aS kd how lim far a b σ v28).2 ∧ FV k V V' := by
  rcases hkd with e | e | e | e | e | e | e | e <;> subst e
  · exact own_0 (f := f + 1) h hk c R hs
  · exact own_1 (f := f + 1) h hk c R hs
  · exact own_5 (f := f) h hk c R hs
  · exact own_6 (f := f + 2) h hk c R hs
  · exact own_8 (f := f + 1) h hk c R hs
  · exact own_9 (f := f + 2) h hk c R hs
  · exact own_10 (f := f + 2) h hk c R hs hv
  · exact own_11 (f := f + 1) h hk c R hs hv
theorem e569 (h : LX G B bx la 15 S C) (hk : k < 4) (hkd : akd kd) (c1 : V.1 1 k = i32 kd) : g_L_law_569 N M B SA k517 k553 (la 0) bx v3 (la 1) (la 2) (la 3) (la 4) (la 5) (la 6) v11 v12 v13 v15 (la 7) (la 8) (la 9) (la 10) (la 11) (la 12) (la 13) v24 v25 (la 14) v27 v28 v30 (i32 k) v33 (mu C la h0 V) = g_L_law_634 N M B SA k517 k553 N (la 0) bx v3 (la 1) (la 2) (la 3) (la 4) (la 5) (la 6) v11 v12 v13 v15 (la 7) (la 8) (la 9) (la 10) (la 11) (la 12) (la 13) v24 v25 (la 14) v27 v28 v30 (i32 k) v33 (i32 (ownc kd)) v28 0 0 (mu C la h0 V) := by
  unfold g_L_law_569
  rw [rkd h hk c1, obd_some]
  rcases hkd with e | e | e | e | e | e | e | e <;> subst e
  · rw [if_neg (by decide), obd_some, if_neg (by decide), obd_some, if_neg (by decide), obd_some, if_neg (by decide)]; rfl
  · rw [if_neg (by decide), obd_some, if_neg (by decide), obd_some, if_neg (by decide), obd_some, if_neg (by decide)]; rfl
  · rw [if_pos (by rfl)]; rfl
  · rw [if_neg (by decide), obd_some, if_pos (by rfl)]; rfl
  · rw [if_neg (by decide), obd_some, if_neg (by decide), obd_some, if_neg (by decide), obd_some, if_neg (by decide)]; rfl
  · rw [if_neg (by decide), obd_some, if_neg (by decide), obd_some, if_pos (by rfl)]; rfl
  · rw [if_neg (by decide), obd_some, if_neg (by decide), obd_some, if_neg (by decide), obd_some, if_pos (by rfl)]; rfl
  · rw [if_neg (by decide), obd_some, if_neg (by decide), obd_some, if_neg (by decide), obd_some, if_neg (by decide)]; rfl
theorem ownc_le (kd : Nat) : ownc kd ≤ 2 := by
  unfold ownc
  split <;> try omega
  split <;> omega
/-- the loops' sums at the first place -/
theorem sums_of (h : LX G B bx la 15 S C) (c : CK V 0 kd how lim far a b) (R : SR V 0 kd far σ) (h16 : kd < 16) (ho : o ≤ 4) (p0 : q0.2 < 4) (p1 : q1.2 < 4) (l0 : V.2 13 q0.2 = q0.1 q0.2) (l1 : V.2 13 (4 + q1.2) = q1.1 q1.2) :
    ∃ V', g_L_law_634 N M B SA k517 k553 (f + 5) (la 0) bx v3 (la 1) (la 2) (la 3) (la 4) (la 5) (la 6) v11 v12 v13 v15 (la 7) (la 8) (la 9) (la 10) (la 11) (la 12) (la 13) (i32 q0.2) (i32 q1.2) (la 14) v27 v28 v30 (i32 0) (i32 2) (i32 o) v35 v37 (i32 0) (mu C la h0 V) =
      g_L_law_634 N M B SA k517 k553 (f + 3) (la 0) bx v3 (la 1) (la 2) (la 3) (la 4) (la 5) (la 6) v11 v12 v13 v15 (la 7) (la 8) (la 9) (la 10) (la 11) (la 12) (la 13) (i32 q0.2) (i32 q1.2) (la 14) v27 (acut how lim (acut how lim σ (v28 * 16384 + v13 * q0.1 q0.2)).2 ((acut how lim σ (v28 * 16384 + v13 * q0.1 q0.2)).1 * 16384 + v15 * q1.1 q1.2)).1 v30 (i32 0) (i32 2) (i32 o) (acut how lim (acut how lim σ (v28 * 16384 + v13 * q0.1 q0.2)).2 ((acut how lim σ (v28 * 16384 + v13 * q0.1 q0.2)).1 * 16384 + v15 * q1.1 q1.2)).1 v37 (i32 2) (mu C la h0 V') ∧
      SR V' 0 kd far (acut how lim (acut how lim σ (v28 * 16384 + v13 * q0.1 q0.2)).2 ((acut how lim σ (v28 * 16384 + v13 * q0.1 q0.2)).1 * 16384 + v15 * q1.1 q1.2)).2 ∧ FV 0 V V' := by
  obtain ⟨c1, c2, c3, c4, c5, c6, c7, c8, c9, cA, cB⟩ := id c
  obtain ⟨x1, hx1⟩ : ∃ x1, x1 = v28 * 16384 + v13 * q0.1 q0.2 := ⟨_, rfl⟩
  rw [← hx1]
  obtain ⟨r1, r2⟩ := sr_cut (how := how) (lim := lim) (x := x1) R
  have n20 : ¬ i32 2 ≤ i32 0 := by decide
  have n21 : ¬ i32 2 ≤ i32 1 := by decide
  have ew := w911 (N := N) (M := M) (SA := SA) (k517 := k517) (k553 := k553) (k634 := g_L_law_634 N M B SA k517 k553 (f + 4)) (v3 := v3) (v11 := v11) (v12 := v12) (v13 := v13) (v15 := v15) (v24 := i32 q0.2) (v25 := i32 q1.2) (v27 := v27) (v28 := v28) (v30 := v30) (v33 := i32 2) (v34 := i32 o) (v37 := v37) (v41 := i32 0) (x := x1) (h0 := h0) h (show 0 < 4 by decide) c2 c7 c3 c8 c1 h16
  rw [r2, if_neg n20, if_neg (fun z => n20 z.1), show i32 0 + 1 = i32 1 from i32_add 0 1] at ew
  obtain ⟨y1, hy1⟩ : ∃ y1, y1 = (acut how lim σ x1).1 := ⟨_, rfl⟩
  obtain ⟨σ1, hσ1⟩ : ∃ σ1, σ1 = (acut how lim σ x1).2 := ⟨_, rfl⟩
  obtain ⟨V1, hV1⟩ : ∃ V1, V1 = cutV V 0 how x1 := ⟨_, rfl⟩
  have f1 : FV 0 V V1 := by rw [hV1]; exact fv_cut
  rw [← hV1, ← hσ1] at r1
  rw [← hV1, ← hy1] at ew
  rw [← hy1, ← hσ1]
  have cc := ck_fv c f1
  obtain ⟨d1, d2, d3, d4, d5, d6, -⟩ := id cc
  obtain ⟨x2, hx2⟩ : ∃ x2, x2 = y1 * 16384 + v15 * q1.1 q1.2 := ⟨_, rfl⟩
  rw [← hx2]
  obtain ⟨s1, s2⟩ := sr_cut (how := how) (lim := lim) (x := x2) r1
  have ev := w911 (N := N) (M := M) (SA := SA) (k517 := k517) (k553 := k553) (k634 := g_L_law_634 N M B SA k517 k553 (f + 3)) (v3 := v3) (v11 := v11) (v12 := v12) (v13 := v13) (v15 := v15) (v24 := i32 q0.2) (v25 := i32 q1.2) (v27 := v27) (v28 := y1) (v30 := v30) (v33 := i32 2) (v34 := i32 o) (v37 := v37) (v41 := i32 1) (x := x2) (h0 := h0) h (show 0 < 4 by decide) d2 c7 d3 c8 d1 h16
  rw [s2, if_neg n21, if_neg (fun z => n21 z.1), show i32 1 + 1 = i32 2 from i32_add 1 1] at ev
  refine ⟨cutV V1 0 how x2, ?_, s1, f1.trans fv_cut⟩
  rw [← ev]
  have j13 : ∀ z, z < 8 → jrg (lln 13) (i32 z) = some z := fun z hz => jrg_i32 (show z < 8 from hz) (by decide)
  rw [g_L_law_634, if_neg (s_go (by decide) ho (by decide) (by omega)), if_neg n20, if_pos (by rfl), lrJ (q := 13) h (by decide) rfl (j13 _ (by omega)), obd_some, l0]
  unfold g_L_law_686
  rw [Int64.mul_comm (16384 : Int64), ← hx1, ew]
  rw [g_L_law_634, if_neg (s_go (by decide) ho (by decide) (by omega)), if_neg n21, if_neg (show ¬ i32 1 = (0 : Int32) by decide), show (4 : Int32) + i32 q1.2 = i32 (4 + q1.2) from i32_add 4 q1.2, lrJ (q := 13) h (by decide) rfl (j13 _ (by omega)), obd_some, f1.2 13 _ (by omega) (by omega), l1]
  unfold g_L_law_686
  rw [Int64.mul_comm (16384 : Int64), ← hx2]
/-- what the law takes along, as the account has it -/
def LC (P : PA) (φ : Nat → Nat) (V : LV) : Prop := (0 < P.1.1 ∧ P.1.1 ≤ 4 ∧ 1 ≤ P.2.2.2.2.1 ∧ P.2.2.2.2.1 ≤ 4 ∧ 1 ≤ P.2.2.2.2.2 ∧ P.2.2.2.2.2 ≤ 4) ∧ ∀ j, j < P.1.1 → CK V j (P.1.2.1 j) (P.1.2.2.1 j) (P.1.2.2.2.1 j) (φ j) (P.2.1.1 j) (P.2.1.2 j) ∧ akd (P.1.2.1 j) ∧ ((P.1.2.1 j = 6 ∨ P.1.2.1 j = 8) → φ j = P.1.2.2.2.2 j)
/-- the sections' accounts, and the second loop's -/
def AR (P : PA) (X : CY) (V : LV) (v25 : Int32) : Prop := (∀ j, j < P.1.1 → SR V j (P.1.2.1 j) (P.1.2.2.2.2 j) (X.1 j) ∧ cv (X.1 j)) ∧ LR V 4 v25 P.2.2.2.2.2 X.2.2
theorem akd_lt (h : akd kd) : kd < 16 := by rcases h with e | e | e | e | e | e | e | e <;> omega
theorem e1394 (h : LX G B bx la 15 S C) (hn : 1 ≤ n) (hn4 : n ≤ 4) (hk : k < 4) (l1 : LR V 4 v25 n q1) :
    ∃ V' v25', g_L_law_1394 N M B SA k517 k553 (la 0) bx v3 (la 1) (la 2) (la 3) (la 4) (la 5) (la 6) v11 (i32 n) v13 v15 (la 7) (la 8) (la 9) (la 10) (la 11) (la 12) (la 13) v24 v25 (la 14) v27 v30 (i32 k) v35 (mu C la h0 V) = k553 (la 0) bx v3 (la 1) (la 2) (la 3) (la 4) (la 5) (la 6) v11 (i32 n) v13 v15 (la 7) (la 8) (la 9) (la 10) (la 11) (la 12) (la 13) v24 v25' (la 14) v27 v35 v30 (i32 (k + 1)) (mu C la h0 V') ∧ LR V' 4 v25' n (if k = 0 then pul q1 n v35 else q1) ∧ (∀ q j, V'.1 q j = V.1 q j) ∧ ∀ q j, ¬ (q = 13 ∧ 4 ≤ j) → V'.2 q j = V.2 q j := by
  obtain ⟨m1, m2, m3⟩ := l1
  unfold g_L_law_1394
  by_cases e : k = 0
  · subst e
    refine ⟨vJ V 13 (4 + q1.2) v35, i32 ((q1.2 + 1) % n), ?_, ?_, fun _ _ => rfl, fun q j z => ?_⟩
    · rw [if_pos (by rfl), m1, show (4 : Int32) + i32 q1.2 = i32 (4 + q1.2) from i32_add 4 q1.2, lpJ (q := 13) h (by decide) rfl (jrg_i32 (show 4 + q1.2 < 8 by omega) (by decide)), obd_some, show i32 q1.2 + (1 : Int32) = i32 (q1.2 + 1) from i32_add q1.2 1, jrem_i32 (by omega) (by omega) (by omega), obd_some]
      rfl
    · rw [if_pos rfl]
      refine ⟨rfl, Nat.mod_lt _ (by omega), fun j hj => ?_⟩
      show (vJ V 13 (4 + q1.2) v35).2 13 (4 + j) = (if j = q1.2 then v35 else q1.1 j)
      by_cases e : j = q1.2
      · rw [if_pos e, e, vJ_at]
      · rw [if_neg e, vJ_j (by omega)]; exact m3 j hj
    · exact if_neg (fun y => z ⟨y.1, by omega⟩)
  · refine ⟨V, v25, ?_, ?_, fun _ _ => rfl, fun _ _ _ => rfl⟩
    · rw [if_neg (show ¬ i32 k = (0 : Int32) from i32_ne (b := 0) (by omega) (by decide) e)]
      unfold g_L_law_1421
      rw [show i32 k + 1 = i32 (k + 1) from i32_add k 1]
    · rw [if_neg e]; exact ⟨m1, m2, m3⟩
/-- one section's turn, in the law -/
theorem turn_law (h : LX G B bx la 15 S C) (hN : 10 ≤ N) (hc : LC P φ V) (hA : AR P X V v25) (l0 : LR V 0 v24 P.2.2.2.2.1 X.2.1) (hk : k < P.1.1) (hv : vb 2 v28) :
    ∃ V' v25', g_L_law_553 N M B SA k517 (f + 1) (la 0) bx (i32 P.1.1) (la 1) (la 2) (la 3) (la 4) (la 5) (la 6) v11 (i32 P.2.2.2.2.2) P.2.2.1 P.2.2.2.1 (la 7) (la 8) (la 9) (la 10) (la 11) (la 12) (la 13) v24 v25 (la 14) v27 v28 v30 (i32 k) (mu C la h0 V) =
      g_L_law_553 N M B SA k517 f (la 0) bx (i32 P.1.1) (la 1) (la 2) (la 3) (la 4) (la 5) (la 6) v11 (i32 P.2.2.2.2.2) P.2.2.1 P.2.2.2.1 (la 7) (la 8) (la 9) (la 10) (la 11) (la 12) (la 13) v24 v25' (la 14) v27 (aT P X k v28).1 v30 (i32 (k + 1)) (mu C la h0 V') ∧
      LC P φ V' ∧ AR P (aX P X k v28) V' v25' ∧ LR V' 0 v24 P.2.2.2.2.1 X.2.1 ∧ vb 2 (aT P X k v28).1 ∧ (∀ j, V'.1 0 j = V.1 0 j) ∧ ∀ j, V'.1 14 j = V.1 14 j := by
  obtain ⟨⟨n0, n4, g1, g4, g1', g4'⟩, hcs⟩ := id hc
  obtain ⟨hS, m1, m2, m3⟩ := id hA
  obtain ⟨u1, u2, u3⟩ := id l0
  obtain ⟨ck, ka, kf⟩ := hcs k hk
  obtain ⟨rs, hcv⟩ := hS k hk
  have rs' : SR V k (P.1.2.1 k) (φ k) (X.1 k) := sr_far (fun z => (kf z).symm) rs
  obtain ⟨N', rfl⟩ : ∃ N', N = N' + 5 := ⟨N - 5, by omega⟩
  have e553 : g_L_law_553 (N' + 5) M B SA k517 (f + 1) (la 0) bx (i32 P.1.1) (la 1) (la 2) (la 3) (la 4) (la 5) (la 6) v11 (i32 P.2.2.2.2.2) P.2.2.1 P.2.2.2.1 (la 7) (la 8) (la 9) (la 10) (la 11) (la 12) (la 13) v24 v25 (la 14) v27 v28 v30 (i32 k) (mu C la h0 V) = g_L_law_634 (N' + 5) M B SA k517 (g_L_law_553 (N' + 5) M B SA k517 f) (N' + 5) (la 0) bx (i32 P.1.1) (la 1) (la 2) (la 3) (la 4) (la 5) (la 6) v11 (i32 P.2.2.2.2.2) P.2.2.1 P.2.2.2.1 (la 7) (la 8) (la 9) (la 10) (la 11) (la 12) (la 13) v24 v25 (la 14) v27 v28 v30 (i32 k) (i32 (if k = 0 then 2 else 0)) (i32 (ownc (P.1.2.1 k))) v28 0 0 (mu C la h0 V) := by
    rw [g_L_law_553, if_neg (by rw [i32_le (by omega) (by omega)]; omega)]
    by_cases e : k = 0
    · rw [if_pos (by rw [e]; rfl), if_pos e, e569 h (by omega) ka ck.1]
      rfl
    · rw [if_neg (show ¬ i32 k = (0 : Int32) from i32_ne (b := 0) (by omega) (by decide) e), if_neg e, e569 h (by omega) ka ck.1]
      rfl
  -- up to the section's own
  have mid : ∃ V1 w, g_L_law_634 (N' + 5) M B SA k517 (g_L_law_553 (N' + 5) M B SA k517 f) (N' + 5) (la 0) bx (i32 P.1.1) (la 1) (la 2) (la 3) (la 4) (la 5) (la 6) v11 (i32 P.2.2.2.2.2) P.2.2.1 P.2.2.2.1 (la 7) (la 8) (la 9) (la 10) (la 11) (la 12) (la 13) v24 v25 (la 14) v27 v28 v30 (i32 k) (i32 (if k = 0 then 2 else 0)) (i32 (ownc (P.1.2.1 k))) v28 0 0 (mu C la h0 V) = g_L_law_634 (N' + 5) M B SA k517 (g_L_law_553 (N' + 5) M B SA k517 f) (w + 3) (la 0) bx (i32 P.1.1) (la 1) (la 2) (la 3) (la 4) (la 5) (la 6) v11 (i32 P.2.2.2.2.2) P.2.2.1 P.2.2.2.1 (la 7) (la 8) (la 9) (la 10) (la 11) (la 12) (la 13) v24 v25 (la 14) v27 (aIn P X k v28).1 v30 (i32 k) (i32 (if k = 0 then 2 else 0)) (i32 (ownc (P.1.2.1 k))) (aIn P X k v28).1 0 (i32 (if k = 0 then 2 else 0)) (mu C la h0 V1) ∧
      SR V1 k (P.1.2.1 k) (φ k) (aIn P X k v28).2 ∧ FV k V V1 ∧ vb 2 (aIn P X k v28).1 ∧ cv (aIn P X k v28).2 := by
    by_cases e : k = 0
    · subst e
      have ei : aIn P X 0 v28 = aL P X v28 := if_pos rfl
      obtain ⟨V1, t1, t2, t3⟩ := sums_of (N := N' + 5) (M := M) (SA := SA) (k517 := k517) (k553 := g_L_law_553 (N' + 5) M B SA k517 f) (v3 := i32 P.1.1) (v11 := v11) (v12 := i32 P.2.2.2.2.2) (v13 := P.2.2.1) (v15 := P.2.2.2.1) (v27 := v27) (v28 := v28) (v30 := v30) (v35 := v28) (v37 := 0) (f := N') (o := ownc (P.1.2.1 0)) (h0 := h0) (q0 := X.2.1) (q1 := X.2.2) h ck rs' (akd_lt ka) (by have := ownc_le (P.1.2.1 0); omega) (by omega) (by omega) (by have := u3 X.2.1.2 (by omega); rw [Nat.zero_add] at this; exact this) (m3 _ (by omega))
      refine ⟨V1, N', ?_, ?_, t3, ?_, ?_⟩
      · rw [u1, m1, if_pos rfl, ei]
        exact t1
      · rw [ei]; exact t2
      · rw [ei]; exact (acut_vb ck.2.2.2.2.2.2.2.1 (acut_vb ck.2.2.2.2.2.2.2.1 hcv).2).1
      · rw [ei]; exact (acut_vb (how := P.1.2.2.1 0) ck.2.2.2.2.2.2.2.1 (acut_vb (how := P.1.2.2.1 0) ck.2.2.2.2.2.2.2.1 hcv).2).2
    · have ei : aIn P X k v28 = (v28, X.1 k) := if_neg e
      rw [ei, if_neg e]
      exact ⟨V, N' + 2, rfl, rs', FV.refl _ _, hv, hcv⟩
  obtain ⟨V1, w, t1, t2, t3, t4, t5⟩ := mid
  obtain ⟨V2, z1, z2, z3⟩ := own_of (N := N' + 5) (M := M) (SA := SA) (k517 := k517) (k553 := g_L_law_553 (N' + 5) M B SA k517 f) (v3 := i32 P.1.1) (v11 := v11) (v12 := i32 P.2.2.2.2.2) (v13 := P.2.2.1) (v15 := P.2.2.2.1) (v24 := v24) (v25 := v25) (v27 := v27) (v30 := v30) (v35 := (aIn P X k v28).1) (v37 := 0) (f := w) (h0 := h0) (s := if k = 0 then 2 else 0) h (show k < 4 by omega) ka (ck_fv ck t3) t2 (by split <;> omega) t4
  have eT : aS (P.1.2.1 k) (P.1.2.2.1 k) (P.1.2.2.2.1 k) (φ k) (P.2.1.1 k) (P.2.1.2 k) (aIn P X k v28).2 (aIn P X k v28).1 = aT P X k v28 := aS_far ka kf
  rw [eT] at z1 z2
  have hvT := aS_vb (how := P.1.2.2.1 k) (far := P.1.2.2.2.2 k) (b := P.2.1.2 k) ka ck.2.2.2.2.2.2.2.1 ck.2.2.2.2.2.2.2.2.2.2 t5 t4
  have f2 : FV k V V2 := t3.trans z3
  have l13 : ∀ j, V2.2 13 j = V.2 13 j := fun j => f2.2 13 j (by omega) (by omega)
  obtain ⟨V3, v25', x1, x2, x3, x4⟩ := e1394 (N := N' + 5) (M := M) (SA := SA) (k517 := k517) (k553 := g_L_law_553 (N' + 5) M B SA k517 f) (v3 := i32 P.1.1) (v11 := v11) (v13 := P.2.2.1) (v15 := P.2.2.2.1) (v24 := v24) (v25 := v25) (v27 := v27) (v30 := v30) (v35 := (aT P X k v28).1) (h0 := h0) (V := V2) (n := P.2.2.2.2.2) (q1 := X.2.2) (k := k) h g1' g4' (by omega) ⟨m1, m2, fun j hj => by rw [l13]; exact m3 j hj⟩
  have ckV : ∀ j, j < P.1.1 → CK V3 j (P.1.2.1 j) (P.1.2.2.1 j) (P.1.2.2.2.1 j) (φ j) (P.2.1.1 j) (P.2.1.2 j) := fun j hj => by
    obtain ⟨d1, d2, d3, d4, d5, d6, d7⟩ := ck_fv (hcs j hj).1 f2
    exact ⟨(x3 1 j).trans d1, (x3 2 j).trans d2, (x3 3 j).trans d3, (x3 4 j).trans d4, fun z => (x4 5 j (by omega)).trans (d5 z), fun z => (x4 6 j (by omega)).trans (d6 z), d7⟩
  have srV : ∀ j kd far σ, SR V2 j kd far σ → SR V3 j kd far σ := fun j kd far σ r => by
    obtain ⟨d1, d2, d3, d4, d5⟩ := r
    exact ⟨(x4 10 j (by omega)).trans d1, (x3 11 j).trans d2, (x3 12 j).trans d3, fun z => (x4 7 j (by omega)).trans (d4 z), fun z => ⟨(x3 9 j).trans (d5 z).1, (d5 z).2.1, fun y hy => (x4 8 _ (by omega)).trans ((d5 z).2.2 y hy)⟩⟩
  refine ⟨V3, v25', ?_, ⟨⟨n0, n4, g1, g4, g1', g4'⟩, fun j hj => ⟨ckV j hj, (hcs j hj).2⟩⟩, ⟨fun j hj => ?_, ?_⟩, ⟨u1, u2, fun j hj => ?_⟩, hvT.1, fun j => (x3 0 j).trans (f2.1 0 j (by omega)), fun j => (x3 14 j).trans (f2.1 14 j (by omega))⟩
  · rw [e553, t1, z1, x1]
  · show SR V3 j (P.1.2.1 j) (P.1.2.2.2.2 j) (if j = k then (aT P X k v28).2 else X.1 j) ∧ cv (if j = k then (aT P X k v28).2 else X.1 j)
    by_cases e : j = k
    · subst e
      rw [if_pos rfl]
      exact ⟨srV _ _ _ _ (sr_far kf z2), hvT.2⟩
    · rw [if_neg e]
      obtain ⟨rj, cj⟩ := hS j hj
      refine ⟨srV _ _ _ _ (sr_far (hcs j hj).2.2 (sr_fv (sr_far (fun z => ((hcs j hj).2.2 z).symm) rj) f2 e ?_)), cj⟩
      exact (hcs j hj).1.2.2.2.2.2.2.2.2.2.1
  · show LR V3 4 v25' P.2.2.2.2.2 (if k = 0 then pul X.2.2 P.2.2.2.2.2 (aT P X k v28).1 else X.2.2)
    exact x2
  · rw [x4 13 _ (by omega), l13]; exact u3 j hj
/-- all sections of a sample, in the law -/
theorem secs_law (h : LX G B bx la 15 S C) (hN : 10 ≤ N) : ∀ (q k : Nat) (V : LV) (X : CY) (v28 : Int64) (v25 : Int32) (f : Nat), LC P φ V → AR P X V v25 → LR V 0 v24 P.2.2.2.2.1 X.2.1 → k + (q + 1) = P.1.1 → vb 2 v28 →
    ∃ V' v25', g_L_law_553 N M B SA k517 (f + (q + 1)) (la 0) bx (i32 P.1.1) (la 1) (la 2) (la 3) (la 4) (la 5) (la 6) v11 (i32 P.2.2.2.2.2) P.2.2.1 P.2.2.2.1 (la 7) (la 8) (la 9) (la 10) (la 11) (la 12) (la 13) v24 v25 (la 14) v27 v28 v30 (i32 k) (mu C la h0 V) =
      g_L_law_553 N M B SA k517 f (la 0) bx (i32 P.1.1) (la 1) (la 2) (la 3) (la 4) (la 5) (la 6) v11 (i32 P.2.2.2.2.2) P.2.2.1 P.2.2.2.1 (la 7) (la 8) (la 9) (la 10) (la 11) (la 12) (la 13) v24 v25' (la 14) v27 (aC P (q + 1) k X v28).1 v30 (i32 P.1.1) (mu C la h0 V') ∧
      LC P φ V' ∧ AR P (aC P (q + 1) k X v28).2 V' v25' ∧ LR V' 0 v24 P.2.2.2.2.1 X.2.1 ∧ (aC P (q + 1) k X v28).2.2.1 = pul X.2.1 P.2.2.2.2.1 (aC P (q + 1) k X v28).1 ∧ vb 2 (aC P (q + 1) k X v28).1 ∧ (∀ j, V'.1 0 j = V.1 0 j) ∧ ∀ j, V'.1 14 j = V.1 14 j
  | 0, k, V, X, v28, v25, f, hc, hA, l0, hk, hv => by
    obtain ⟨V', v25', x1, x2, x3, x4, x5, x6, x7⟩ := turn_law (N := N) (M := M) (SA := SA) (k517 := k517) (v11 := v11) (v24 := v24) (v25 := v25) (v27 := v27) (v30 := v30) (f := f) (h0 := h0) h hN hc hA l0 (show k < P.1.1 by omega) hv
    have ek : k + 1 = P.1.1 := by omega
    refine ⟨V', v25', ?_, x2, x3, x4, ?_, x5, x6, x7⟩
    · rw [ek] at x1
      exact x1
    · show (if k + 1 = P.1.1 then pul X.2.1 P.2.2.2.2.1 (aT P X k v28).1 else X.2.1) = pul X.2.1 P.2.2.2.2.1 (aT P X k v28).1
      rw [if_pos ek]
  | q + 1, k, V, X, v28, v25, f, hc, hA, l0, hk, hv => by
    obtain ⟨V1, w25, x1, x2, x3, x4, x5, x6, x7⟩ := turn_law (N := N) (M := M) (SA := SA) (k517 := k517) (v11 := v11) (v24 := v24) (v25 := v25) (v27 := v27) (v30 := v30) (f := f + (q + 1)) (h0 := h0) h hN hc hA l0 (show k < P.1.1 by omega) hv
    have e0 : (aX P X k v28).2.1 = X.2.1 := if_neg (show ¬ k + 1 = P.1.1 by omega)
    obtain ⟨V2, w', y1, y2, y3, y4, y5, y6, y7, y8⟩ := secs_law h hN q (k + 1) V1 (aX P X k v28) (aT P X k v28).1 w25 f x2 x3 (by rw [e0]; exact x4) (by omega) x5
    rw [e0] at y4 y5
    exact ⟨V2, w', x1.trans y1, y2, y3, y4, y5, y6, fun j => (y7 j).trans (x6 j), fun j => (y8 j).trans (x7 j)⟩
end TURN
