/-! a sample: the law's account, the class's feed, what is asked of both -/
section SAMPLE
variable {G : GT} {N M B bx k f j n t : Nat} {SA : Nat → Nat} {la : Nat → Nat} {S S0 : ST} {C : CT} {V : LV} {h0 : Nat → Option JCell} {k517 : K517} {k553 : K553}
  {v3 v11 v12 v24 v25 v27 : Int32} {v13 v15 v28 v30 x : Int64} {μ : JMem} {P : PA} {X : CY} {q0 q1 : LY} {φ : Nat → Nat}
theorem mu_job (h : LX G B bx la 15 S C) : jobC 0 ((mu C la h0 V).1 bx) = true := c_job (lx_ob h)
theorem mu_feed (h : LX G B bx la 15 S C) (hs : CS B SA h0) (hN : 100 ≤ N) (hP : PC S k P) (hX : VX S k P.1.1 X) (hv : vb 2 x) (hE : S.1 28 k + 1 ≤ 4000000) :
    ∃ S' C', g_B_feed N (M + 1) B bx (i32 k) x (mu C la h0 V) = some (1, mu C' la h0 V) ∧ LX G B bx la 15 S' C' ∧ Dy S S' ∧ VX S' k P.1.1 (aF P X x).2 ∧ vb 2 (aF P X x).1 ∧ S'.1 28 k = S.1 28 k + 1 ∧ S'.2.1 27 (400 * k + S.1 28 k % 400) = (aF P X x).1 ∧ ∀ d, d ≠ k → S'.1 28 d = S.1 28 d := by
  have hw := lx_cw h
  have hcs := lx_CS (V := V) h hs
  obtain ⟨⟨D, hD, A, J⟩, h2⟩ := h
  obtain ⟨S', C', u1, u2, u3⟩ := feed_fix (N := N) (M := M) hN J hP hX hv (by omega)
  exact ⟨S', C', (t_B_feed hcs _ _ _ _ _ _ hw u1).1, ⟨⟨D, hD, A, u2⟩, h2⟩, u3⟩
theorem mu_ask {P : Prop} (h : LX G B bx la 15 S C) (f : ∀ D, JE G 4000000 B bx (la 0) (lad la D) S C → P) : P := lx_ask h f
theorem mu_output (h : LX G B bx la 15 S C) (hs : CS B SA h0) (hc : k < S.1 16 0) (hi : j < S.1 28 k) (h400 : S.1 28 k ≤ 400) : g_B_output bx (i32 k) (i32 j) (mu C la h0 V).1 = some (S.2.1 27 (400 * k + j)) :=
  lx_ask h fun _ J => (t_B_output (lx_CS (V := V) h hs) _ _ _ _ _ (lx_cw h) (o_output J hc hi h400)).1
theorem mu_about5 (h : LX G B bx la 15 S C) (hs : CS B SA h0) (hk : k < S.1 1 0) : g_B_about bx (i32 k) 5 (mu C la h0 V).1 = some (S.2.2 11 k) :=
  lx_ask h fun _ J => (t_B_about (lx_CS (V := V) h hs) _ _ _ _ _ (lx_cw h) (o_about5 J hk)).1
theorem mu_about6 (h : LX G B bx la 15 S C) (hs : CS B SA h0) (hk : k < S.1 1 0) : g_B_about bx (i32 k) 6 (mu C la h0 V).1 = some (S.2.2 12 k) :=
  lx_ask h fun _ J => (t_B_about (lx_CS (V := V) h hs) _ _ _ _ _ (lx_cw h) (o_about6 J hk)).1
theorem mu_about0 (h : LX G B bx la 15 S C) (hs : CS B SA h0) (hk : k < S.1 1 0) : g_B_about bx (i32 k) 0 (mu C la h0 V).1 = some (i32 (S.1 2 k)) :=
  lx_ask h fun _ J => (t_B_about (lx_CS (V := V) h hs) _ _ _ _ _ (lx_cw h) (o_about0 J hk)).1
theorem mu_about8 (h : LX G B bx la 15 S C) (hs : CS B SA h0) (hk : k < S.1 1 0) : g_B_about bx (i32 k) 8 (mu C la h0 V).1 = some (i32 (S.1 5 k)) :=
  lx_ask h fun _ J => (t_B_about (lx_CS (V := V) h hs) _ _ _ _ _ (lx_cw h) (o_about8 J hk)).1
theorem mu_rest (h : LX G B bx la 15 S C) (hs : CS B SA h0) (hk : k < S.1 1 0) : g_B_state bx (i32 k) 100 (mu C la h0 V).1 = some (S.2.1 15 k) :=
  lx_ask h fun _ J => (t_B_state (lx_CS (V := V) h hs) _ _ _ _ _ (lx_cw h) (o_rest J hk)).1
theorem mu_told (h : LX G B bx la 15 S C) (hs : CS B SA h0) (hk : k < S.1 1 0) (hj : j < 5) : g_B_told bx (i32 k) (i32 j) (mu C la h0 V).1 = some (S.2.1 7 (5 * k + j)) :=
  lx_ask h fun _ J => (t_B_told (lx_CS (V := V) h hs) _ _ _ _ _ (lx_cw h) (o_told J hk hj)).1
theorem mu_count (h : LX G B bx la 15 S C) (hs : CS B SA h0) : g_B_count bx 0 (mu C la h0 V).1 = some (i32 (S.1 1 0)) :=
  lx_ask h fun _ J => (t_B_count (lx_CS (V := V) h hs) _ _ _ _ (lx_cw h) (o_count J)).1
theorem mu_chain1 (h : LX G B bx la 15 S C) (hs : CS B SA h0) (hc : k < S.1 16 0) : g_B_chain_2 bx (i32 k) 1 (mu C la h0 V).1 = some (i32 (S.1 20 k)) :=
  lx_ask h fun _ J => (t_B_chain_2 (lx_CS (V := V) h hs) _ _ _ _ _ (lx_cw h) (o_chain1 J hc)).1
theorem mu_chain4 (h : LX G B bx la 15 S C) (hs : CS B SA h0) (hc : k < S.1 16 0) (h17 : S.1 17 k ≠ 0) : g_B_chain_2 bx (i32 k) 4 (mu C la h0 V).1 = some (i32 (cso S k)) :=
  lx_ask h fun _ J => (t_B_chain_2 (lx_CS (V := V) h hs) _ _ _ _ _ (lx_cw h) (o_chain4 J hc h17)).1
/-- overs, touches, rests are what the account has -/
theorem chk_law (h : LX G B bx la 15 S C) (hs : CS B SA h0) (hn4 : n ≤ 4) (hn : n ≤ S.1 1 0) (ha : ∀ k, k < n → V.1 11 k = S.2.2 11 k ∧ V.1 12 k = S.2.2 12 k ∧ V.2 10 k = S.2.1 15 k) : ∀ (q k f : Nat), k + q = n →
    g_L_law_1485 N M B SA k517 (f + 1 + q) (la 0) bx (i32 n) (la 1) (la 2) (la 3) (la 4) (la 5) (la 6) true v11 v12 v13 v15 (la 7) (la 8) (la 9) (la 10) (la 11) (la 12) (la 13) v24 v25 (la 14) v27 (i32 k) (mu C la h0 V) = k517 (la 0) bx (i32 n) (la 1) (la 2) (la 3) (la 4) (la 5) (la 6) true v11 v12 v13 v15 (la 7) (la 8) (la 9) (la 10) (la 11) (la 12) (la 13) v24 v25 (la 14) (v27 + 1) (mu C la h0 V)
  | 0, k, f, hk => by
    rw [Nat.add_zero, g_L_law_1485, if_pos (by rw [i32_le (by omega) (by omega)]; omega)]
  | q + 1, k, f, hk => by
    have n60 : S.1 1 0 ≤ 60 := lx_ask h fun _ ⟨A, J⟩ => (jj_n J).1
    obtain ⟨a1, a2, a3⟩ := ha k (by omega)
    have k4 : k < 4 := by omega
    have hk1 : k < S.1 1 0 := by omega
    rw [show f + 1 + (q + 1) = (f + 1 + q) + 1 by omega, g_L_law_1485, if_neg (by rw [i32_le (by omega) (by omega)]; omega), if_pos rfl, mu_job h, jgd_true, mu_about5 h hs hk1, obd_some, lrI (q := 11) h (by decide) rfl (jr4 k4 (by decide)), obd_some, if_pos a1.symm, jgd_true, mu_about6 h hs hk1, obd_some, lrI (q := 12) h (by decide) rfl (jr4 k4 (by decide)), obd_some, if_pos a2.symm, jgd_true, mu_rest h hs hk1, obd_some, lrJ (q := 10) h (by decide) rfl (jr4 k4 (by decide)), obd_some, if_pos a3.symm]
    unfold g_L_law_1549
    rw [show i32 k + 1 = i32 (k + 1) from i32_add k 1]
    exact chk_law h hs hn4 hn ha q (k + 1) f (by omega)
/-- the first chain: its sections are the first ones -/
def FC (P : PA) (S : ST) (X : CY) (t : Nat) : Prop := PC S 0 P ∧ VX S 0 P.1.1 X ∧ (∀ k, k < P.1.1 → S.1 18 k = k) ∧ P.1.1 ≤ S.1 1 0 ∧ S.1 28 0 = t
/-- a whole sample, from the first section on -/
theorem samp_law (h : LX G B bx la 15 S C) (hs : CS B SA h0) (hN : 100 ≤ N) (hF : FC P S X t) (ht : t < 40) (hc : LC P φ V) (hA : AR P X V v25) (l0 : LR V 0 v24 P.2.2.2.2.1 X.2.1) (hv : vb 2 x) :
    ∃ S' C' V' v24' v25', g_L_law_553 N (M + 1) B SA k517 N (la 0) bx (i32 P.1.1) (la 1) (la 2) (la 3) (la 4) (la 5) (la 6) (i32 P.2.2.2.2.1) (i32 P.2.2.2.2.2) P.2.2.1 P.2.2.2.1 (la 7) (la 8) (la 9) (la 10) (la 11) (la 12) (la 13) v24 v25 (la 14) (i32 t) x x (i32 0) (mu C la h0 V) =
      k517 (la 0) bx (i32 P.1.1) (la 1) (la 2) (la 3) (la 4) (la 5) (la 6) true (i32 P.2.2.2.2.1) (i32 P.2.2.2.2.2) P.2.2.1 P.2.2.2.1 (la 7) (la 8) (la 9) (la 10) (la 11) (la 12) (la 13) v24' v25' (la 14) (i32 (t + 1)) (mu C' la h0 V') ∧
      LX G B bx la 15 S' C' ∧ Dy S S' ∧ FC P S' (aF P X x).2 (t + 1) ∧ LC P φ V' ∧ AR P (aF P X x).2 V' v25' ∧ LR V' 0 v24' P.2.2.2.2.1 (aF P X x).2.2.1 ∧ vb 2 (aF P X x).1 ∧ (∀ j, V'.1 0 j = V.1 0 j) ∧ (∀ j, V'.1 14 j = if j = t then (aF P X x).1.toInt32 else V.1 14 j) := by
  obtain ⟨hP, hX, h18, h1, h28⟩ := id hF
  obtain ⟨⟨n0, n4, g1, g4, g1', g4'⟩, hcs⟩ := id hc
  obtain ⟨f, hf⟩ : ∃ f, N = (f + 1) + ((P.1.1 - 1) + 1) := ⟨N - 1 - P.1.1, by omega⟩
  have n1 : P.1.1 - 1 + 1 = P.1.1 := by omega
  obtain ⟨V1, w25, x1, x2, x3, x4, x5, x6, x7, x8⟩ := secs_law (N := N) (M := M + 1) (SA := SA) (k517 := k517) (v11 := i32 P.2.2.2.2.1) (v24 := v24) (v27 := i32 t) (v30 := x) (h0 := h0) h (by omega) (P.1.1 - 1) 0 V X x v25 (f + 1) hc hA l0 (by omega) hv
  rw [n1] at x1 x3 x5 x6
  have eF : aF P X x = aC P P.1.1 0 X x := rfl
  rw [← eF] at x1 x3 x5 x6
  rw [n1] at hf
  rw [← hf] at x1
  obtain ⟨u1, u2, u3⟩ := x4
  obtain ⟨⟨hc0, h17, -, -, -⟩, -⟩ := id hP
  -- the arrays after the loop's push and the answer written down
  obtain ⟨V2, hV2⟩ : ∃ V2, V2 = vI (vJ V1 13 X.2.1.2 (aF P X x).1) 14 t (aF P X x).1.toInt32 := ⟨_, rfl⟩
  have v2I : ∀ q j, q ≠ 14 → V2.1 q j = V1.1 q j := fun q j hq => by rw [hV2]; exact vI_q hq j
  have v2J : ∀ q j, q ≠ 13 → V2.2 q j = V1.2 q j := fun q j hq => by rw [hV2]; exact vJ_q hq j
  have v213 : ∀ j, V2.2 13 j = if j = X.2.1.2 then (aF P X x).1 else V1.2 13 j := fun j => by
    rw [hV2]
    show (vJ V1 13 X.2.1.2 (aF P X x).1).2 13 j = _
    by_cases e : j = X.2.1.2
    · rw [if_pos e, e, vJ_at]
    · rw [if_neg e, vJ_j e]
  obtain ⟨S', C', y1, y2, y3, y4, y5, y6, y7, y8⟩ := mu_feed (N := N) (M := M) (V := V2) (k := 0) h hs hN hP hX hv (by omega)
  have hP' := pc_dy hP y3
  have hc0' : 0 < S'.1 16 0 := hP'.1.1
  have h18' : ∀ k, k < P.1.1 → S'.1 18 k = k := fun k hk => by rw [y3.1 18 (by decide)]; exact h18 k hk
  have h1' : P.1.1 ≤ S'.1 1 0 := by rw [y3.1 1 (by decide)]; exact h1
  have ho := mu_output (V := V2) (k := 0) (j := t) y2 hs hc0' (by rw [y6, h28]; omega) (by rw [y6, h28]; omega)
  rw [h28, Nat.mod_eq_of_lt (show t < 400 by omega)] at y7
  rw [y7] at ho
  have hA2 : AR P (aF P X x).2 V2 w25 := by
    obtain ⟨a1, a2, a3, a4⟩ := x3
    refine ⟨fun j hj => ?_, a2, a3, fun j hj => ?_⟩
    · obtain ⟨r, c⟩ := a1 j hj
      obtain ⟨d1, d2, d3, d4, d5⟩ := r
      exact ⟨⟨(v2J 10 j (by decide)).trans d1, (v2I 11 j (by decide)).trans d2, (v2I 12 j (by decide)).trans d3, fun z => (v2J 7 j (by decide)).trans (d4 z), fun z => ⟨(v2I 9 j (by decide)).trans (d5 z).1, (d5 z).2.1, fun y hy => (v2J 8 _ (by decide)).trans ((d5 z).2.2 y hy)⟩⟩, c⟩
    · rw [v213, if_neg (by omega)]; exact a4 j hj
  have hchk : ∀ k, k < P.1.1 → V2.1 11 k = S'.2.2 11 k ∧ V2.1 12 k = S'.2.2 12 k ∧ V2.2 10 k = S'.2.1 15 k := fun k hk => by
    obtain ⟨⟨d1, d2, d3, -⟩, -⟩ := hA2.1 k hk
    have e := y4.1 k hk
    rw [Nat.mul_zero, Nat.zero_add, h18' k hk] at e
    rw [d1, d2, d3, ← e]
    exact ⟨rfl, rfl, rfl⟩
  have hcl := chk_law (N := N) (M := M + 1) (SA := SA) (k517 := k517) (v11 := i32 P.2.2.2.2.1) (v12 := i32 P.2.2.2.2.2) (v13 := P.2.2.1) (v15 := P.2.2.2.1) (v24 := i32 ((X.2.1.2 + 1) % P.2.2.2.2.1)) (v25 := w25) (v27 := i32 t) (V := V2) (n := P.1.1) y2 hs n4 h1' hchk P.1.1 0 f (by omega)
  rw [← hf] at hcl
  refine ⟨S', C', V2, i32 ((X.2.1.2 + 1) % P.2.2.2.2.1), w25, ?_, y2, y3, ⟨hP', y4, h18', h1', by rw [y6, h28]⟩, ⟨⟨n0, n4, g1, g4, g1', g4'⟩, fun j hj => ⟨?_, (x2.2 j hj).2⟩⟩, hA2, ⟨?_, ?_, fun j hj => ?_⟩, y5, fun j => (v2I 0 j (by decide)).trans (x7 j), fun j => ?_⟩
  · rw [x1, g_L_law_553, if_pos (Int32.le_refl _), u1, lpJ (q := 13) h (by decide) rfl (jrg_i32 (show X.2.1.2 < 8 by omega) (by decide)), obd_some, show i32 X.2.1.2 + (1 : Int32) = i32 (X.2.1.2 + 1) from i32_add _ 1, jrem_i32 (by omega) (by omega) (by omega), obd_some, lpI (q := 14) h (by decide) rfl (jrg_i32 (show t < 40 by omega) (by decide)), obd_some, ← hV2, mu_job h, jgd_true]
    show jbd2 (g_B_feed N (M + 1) B bx (i32 0) x (mu C la h0 V2)) _ = _
    rw [y1, jbd2_some, if_pos (by rfl), mu_job y2, jgd_true]
    show obd (g_B_output bx (i32 0) (i32 t) (mu C' la h0 V2).1) _ = _
    rw [ho, obd_some, if_pos rfl]
    unfold g_L_law_1480
    rw [show (i32 t) + 1 = i32 (t + 1) from i32_add t 1] at hcl
    exact hcl
  · obtain ⟨d1, d2, d3, d4, d5, d6, d7⟩ := (x2.2 j hj).1
    exact ⟨(v2I 1 j (by decide)).trans d1, (v2I 2 j (by decide)).trans d2, (v2I 3 j (by decide)).trans d3, (v2I 4 j (by decide)).trans d4, fun z => (v2J 5 j (by decide)).trans (d5 z), fun z => (v2J 6 j (by decide)).trans (d6 z), d7⟩
  · rw [x5]; rfl
  · rw [x5]; exact Nat.mod_lt _ (by omega)
  · rw [v213, x5, Nat.zero_add]
    show _ = (if j = X.2.1.2 then (aF P X x).1 else X.2.1.1 j)
    by_cases e : j = X.2.1.2
    · rw [if_pos e, if_pos e]
    · rw [if_neg e, if_neg e]
      have := u3 j hj
      rw [Nat.zero_add] at this
      exact this
  · rw [hV2]
    by_cases e : j = t
    · rw [if_pos e, e, vI_at]
    · rw [if_neg e, vI_j e]; exact x8 j
end SAMPLE
