/-! the law's sections are made -/
section SETUP
variable {G : GT} {N M B bx k f j n L scr c s : Nat} {SA : Nat → Nat} {la : Nat → Nat} {S S3 : ST} {C : CT} {V : LV} {h0 : Nat → Option JCell} {xs ys : Nat → Int32} {v3 v11 : Int32} {v10 : Bool}
theorem n_job (h : LX G B bx la n S C) : jobC 0 ((mn n C la h0 V).1 bx) = true := c_job (lx_ob h)
theorem n_chain (h : LX G B bx la n S C) (hs : CS B SA h0) (h20 : S.1 16 0 < 20) : ∃ C', g_B_chain B bx (mn n C la h0 V) = some (i32 (S.1 16 0), mn n C' la h0 V) ∧ LX G B bx la n (chS S) C' := by
  have hw := lx_cw h
  have hcs := lx_CS (V := V) h hs
  obtain ⟨⟨D, hD, J⟩, h2⟩ := h
  obtain ⟨C', u1, u2⟩ := o_chain J h20
  exact ⟨C', (t_B_chain hcs _ _ _ _ hw u1).1, ⟨⟨D, hD, u2⟩, h2⟩⟩
theorem n_section {kd so : Nat} {ln : Int32} (h : LX G B bx la n S C) (hs : CS B SA h0) (h60 : S.1 1 0 < 60) (hk : kd < 16) (hso : so < 3) (hl : g_R_isLength (i32 kd) ln = true) : ∃ C', g_B_section B SA bx (i32 kd) (i32 so) ln (mn n C la h0 V) = some (i32 (S.1 1 0), mn n C' la h0 V) ∧ LX G B bx la n (secS S kd so ln) C' := by
  have hw := lx_cw h
  have hcs := lx_CS (V := V) h hs
  obtain ⟨⟨D, hD, J⟩, h2⟩ := h
  obtain ⟨C', u1, u2⟩ := o_section J h60 hk hso hl
  exact ⟨C', (t_B_section hcs _ _ _ _ _ _ _ hw u1).1, ⟨⟨D, hD, u2⟩, h2⟩⟩
theorem n_add (h : LX G B bx la n S C) (hs : CS B SA h0) (hN : 100 ≤ N) (hc : c < S.1 16 0) (h1 : s < S.1 1 0) (h10 : S.1 17 c < 10) (h8 : S.1 8 s = 0) (h19 : S.1 19 c = 0) (hso : S.1 17 c ≠ 0 → S.1 3 s = cso S c) (hsp : spread (S.1 2 s) = false) : ∃ C', g_B_add N B bx (i32 c) (i32 s) (mn n C la h0 V) = some (i32 (S.1 17 c), mn n C' la h0 V) ∧ LX G B bx la n (jnS S c s) C' := by
  have hw := lx_cw h
  have hcs := lx_CS (V := V) h hs
  obtain ⟨⟨D, hD, J⟩, h2⟩ := h
  obtain ⟨C', u1, u2⟩ := o_add hN J hc h1 h10 h8 h19 hso hsp
  exact ⟨C', (t_B_add hcs _ _ _ _ _ _ hw u1).1, ⟨⟨D, hD, u2⟩, h2⟩⟩
theorem n_rule {r l : Nat} (h : LX G B bx la n S C) (hs : CS B SA h0) (h1 : s < S.1 1 0) (hf : S.1 3 s = 2) (hr : r ≤ 2) (hl : l ≤ 1) : ∃ C', g_B_rule B bx (i32 s) (i32 r) (i32 l) (mn n C la h0 V) = some (true, mn n C' la h0 V) ∧ LX G B bx la n (uN (uN S 5 s r) 6 s l) C' := by
  have hw := lx_cw h
  have hcs := lx_CS (V := V) h hs
  obtain ⟨⟨D, hD, J⟩, h2⟩ := h
  obtain ⟨C', u1, u2⟩ := o_rule J h1 hf hr hl
  exact ⟨C', (t_B_rule hcs _ _ _ _ _ _ _ hw u1).1, ⟨⟨D, hD, u2⟩, h2⟩⟩
theorem n_coef {b : Int64} (h : LX G B bx la n S C) (hs : CS B SA h0) (h1 : s < S.1 1 0) (hf : S.1 3 s = 2) (hj : j < nfac (S.1 2 s)) (hb : vb 2 b) : ∃ C', g_B_coefficient B bx (i32 s) (i32 j) b (mn n C la h0 V) = some (true, mn n C' la h0 V) ∧ LX G B bx la n (uJ S 7 (5 * s + j) b) C' := by
  have hw := lx_cw h
  have hcs := lx_CS (V := V) h hs
  obtain ⟨⟨D, hD, J⟩, h2⟩ := h
  obtain ⟨C', u1, u2⟩ := o_coef (b := b) J h1 hj (by rw [hf]; exact hb)
  rw [hf] at u2
  exact ⟨C', (t_B_coefficient hcs _ _ _ _ _ _ _ hw u1).1, ⟨⟨D, hD, u2⟩, h2⟩⟩
theorem n_loop {f t ln : Nat} {v : Int64} (h : LX G B bx la n S C) (hs : CS B SA h0) (hN : 100 ≤ N) (hc : c < S.1 16 0) (h19 : S.1 19 c = 0) (h3 : S.1 20 c < 3) (hft : f ≤ t) (ht : t < S.1 17 c) (h1 : 1 ≤ ln) (h64 : ln ≤ 64) (hso : cso S c = 2) (hv : vb 2 v) (hr : ∀ p, f ≤ p → p ≤ t → rate (S.1 2 (S.1 18 (10 * c + p))) = false) :
    ∃ C', g_B_loop N B bx (i32 c) (i32 f) (i32 t) (i32 ln) v (mn n C la h0 V) = some (i32 (S.1 20 c + 1), mn n C' la h0 V) ∧ LX G B bx la n (lpS S c f t ln v) C' := by
  have hw := lx_cw h
  have hcs := lx_CS (V := V) h hs
  obtain ⟨⟨D, hD, J⟩, h2⟩ := h
  obtain ⟨C', u1, u2⟩ := o_loop (v := v) hN J hc h19 h3 hft ht h1 h64 (by rw [hso]; exact hv) hr
  rw [hso] at u2
  exact ⟨C', (t_B_loop hcs _ _ _ _ _ _ _ _ _ hw u1).1, ⟨⟨D, hD, u2⟩, h2⟩⟩
theorem n_keep (h : LX G B bx la n S C) (hs : CS B SA h0) (hN : 100 ≤ N) (hc : c < S.1 16 0) (h8 : S.1 44 0 < 8) : ∃ S' C', g_B_keep N B bx (i32 c) (mn n C la h0 V) = some (i32 (S.1 44 0), mn n C' la h0 V) ∧ LX G B bx la n S' C' ∧ KPT S S' c := by
  have hw := lx_cw h
  have hcs := lx_CS (V := V) h hs
  obtain ⟨⟨D, hD, A, J⟩, h2⟩ := h
  obtain ⟨S', C', u1, u2, u3⟩ := o_keep hN J hc h8
  exact ⟨S', C', (t_B_keep hcs _ _ _ _ _ hw u1).1, ⟨⟨D, hD, u2⟩, h2⟩, u3⟩
theorem kI {q : Nat} {v : Int32} (h : LX G B bx la 7 S C) (hq : q < 7) (hl : llg q = false) (hj : jrg (lln q) v = some j) : jaI (mn 7 C la h0 V).1 (la q) v = some (V.1 q j) := lx_rdI h hq hl hj
theorem kJ {q : Nat} {v : Int32} (h : LX G B bx la 7 S C) (hq : q < 7) (hl : llg q = true) (hj : jrg (lln q) v = some j) : jaJ (mn 7 C la h0 V).1 (la q) v = some (V.2 q j) := lx_rdJ h hq hl hj
theorem kpI {q : Nat} {v x : Int32} (h : LX G B bx la 7 S C) (hq : q < 7) (hl : llg q = false) (hj : jrg (lln q) v = some j) : jpA B .int (la q) v (.int x) (mn 7 C la h0 V) = some (mn 7 C la h0 (vI V q j x)) := lx_ptI h hq hl hj
theorem kpJ {q : Nat} {v : Int32} {x : Int64} (h : LX G B bx la 7 S C) (hq : q < 7) (hl : llg q = true) (hj : jrg (lln q) v = some j) : jpA B .long (la q) v (.long x) (mn 7 C la h0 V) = some (mn 7 C la h0 (vJ V q j x)) := lx_ptJ h hq hl hj
/-- what the first coefficients are, as the class has them -/
def aN (w : Int32) : Int64 := if kdN w = 6 then 0 else caN w
def bbN (w : Int32) : Int64 := if kdN w = 1 then cbN w else 0
/-- the sections made so far -/
def SI (ys : Nat → Int32) (k : Nat) (S : ST) : Prop :=
  (S.1 1 0 = k ∧ S.1 16 0 = 1 ∧ S.1 17 0 = k ∧ S.1 19 0 = 0 ∧ S.1 20 0 = 0 ∧ S.1 28 0 = 0 ∧ S.1 44 0 = 0) ∧
  ∀ j, j < k → S.1 18 j = j ∧ (S.1 2 j = kdN (ys (j + 1)) ∧ S.1 3 j = 2 ∧ S.1 5 j = hwN (ys (j + 1)) ∧ S.1 6 j = lmN (ys (j + 1)) ∧ S.1 10 j = 0 ∧ S.1 14 j = 0) ∧ (S.2.2 4 j = i32 (frN (ys (j + 1))) ∧ S.2.2 11 j = 0 ∧ S.2.2 12 j = 0 ∧ S.2.1 15 j = 0) ∧
    (S.2.1 7 (5 * j + 0) = aN (ys (j + 1)) ∧ S.2.1 7 (5 * j + 1) = bbN (ys (j + 1))) ∧ ∀ i, i < 64 → S.2.1 13 (64 * j + i) = 0
/-- what the law has written of them -/
def LW (ys : Nat → Int32) (k : Nat) (V : LV) : Prop := (∀ j, j < 60 → V.1 0 j = ys j) ∧ ∀ j, j < k → V.1 1 j = i32 (kdN (ys (j + 1))) ∧ V.1 2 j = i32 (hwN (ys (j + 1))) ∧ V.1 3 j = i32 (lmN (ys (j + 1))) ∧ V.1 4 j = i32 (frN (ys (j + 1))) ∧ V.2 5 j = caN (ys (j + 1)) ∧ V.2 6 j = cbN (ys (j + 1))
def secV (V : LV) (k : Nat) (w : Int32) : LV := vJ (vJ (vI (vI (vI (vI V 1 k (i32 (kdN w))) 2 k (i32 (hwN w))) 3 k (i32 (lmN w))) 4 k (i32 (frN w))) 5 k (caN w)) 6 k (cbN w)
theorem lw_sec (h : LW ys k V) : LW ys (k + 1) (secV V k (ys (k + 1))) := by
  obtain ⟨h1, h2⟩ := h
  have e1 : ∀ q j, (secV V k (ys (k + 1))).1 q j = if q = 4 ∧ j = k then i32 (frN (ys (k + 1))) else if q = 3 ∧ j = k then i32 (lmN (ys (k + 1))) else if q = 2 ∧ j = k then i32 (hwN (ys (k + 1))) else if q = 1 ∧ j = k then i32 (kdN (ys (k + 1))) else V.1 q j := fun _ _ => rfl
  have e2 : ∀ q j, (secV V k (ys (k + 1))).2 q j = if q = 6 ∧ j = k then cbN (ys (k + 1)) else if q = 5 ∧ j = k then caN (ys (k + 1)) else V.2 q j := fun _ _ => rfl
  refine ⟨fun j hj => ?_, fun j hj => ?_⟩
  · rw [e1]
    simp only [show ¬ ((0 : Nat) = 4) by decide, show ¬ ((0 : Nat) = 3) by decide, show ¬ ((0 : Nat) = 2) by decide, show ¬ ((0 : Nat) = 1) by decide, false_and, if_false]
    exact h1 j hj
  · by_cases e : j = k
    · subst e
      refine ⟨?_, ?_, ?_, ?_, ?_, ?_⟩ <;> simp [e1, e2]
    · obtain ⟨a1, a2, a3, a4, a5, a6⟩ := h2 j (by omega)
      refine ⟨?_, ?_, ?_, ?_, ?_, ?_⟩ <;> simp [e1, e2, e, a1, a2, a3, a4, a5, a6]
/-- coefficients set -/
def QF (S S' : ST) (k : Nat) (w : Int32) : Prop := S'.1 = S.1 ∧ S'.2.2 = S.2.2 ∧ (∀ x y, x ≠ 7 → S'.2.1 x y = S.2.1 x y) ∧ (∀ y, y ≠ 5 * k + 0 → y ≠ 5 * k + 1 → S'.2.1 7 y = S.2.1 7 y) ∧ S'.2.1 7 (5 * k + 0) = aN w ∧ S'.2.1 7 (5 * k + 1) = bbN w
theorem si_step {S' : ST} (h : SI ys k S) (hz : ∀ j, j < 64 → S.2.1 13 (64 * k + j) = 0) (q : QF (uN (uN (jnS (secS S (kdN (ys (k + 1))) 2 (i32 (frN (ys (k + 1))))) 0 k) 5 k (hwN (ys (k + 1)))) 6 k (lmN (ys (k + 1)))) S' k (ys (k + 1))) : SI ys (k + 1) S' := by
  obtain ⟨⟨a1, a2, a3, a4, a5, a6, a7⟩, b⟩ := h
  obtain ⟨q1, q2, q3, q4, q5, q6⟩ := q
  have n : ∀ x y, S'.1 x y = if x = 6 ∧ y = k then lmN (ys (k + 1)) else if x = 5 ∧ y = k then hwN (ys (k + 1)) else if x = 18 ∧ y = 10 * 0 + (secS S (kdN (ys (k + 1))) 2 (i32 (frN (ys (k + 1))))).1 17 0 then k else if x = 8 ∧ y = k then 0 + 1 else if x = 9 ∧ y = k then (secS S (kdN (ys (k + 1))) 2 (i32 (frN (ys (k + 1))))).1 17 0 + 1 else if x = 17 ∧ y = 0 then (secS S (kdN (ys (k + 1))) 2 (i32 (frN (ys (k + 1))))).1 17 0 + 1 else
      if x = 1 ∧ y = 0 then S.1 1 0 + 1 else if y = S.1 1 0 ∧ x ∈ [2, 3, 5, 6, 8, 9, 10, 14, 70] then (if x = 2 then kdN (ys (k + 1)) else if x = 3 then 2 else 0) else S.1 x y := fun x y => by rw [q1]; rfl
  have e17 : (secS S (kdN (ys (k + 1))) 2 (i32 (frN (ys (k + 1))))).1 17 0 = k := by
    rw [secS_k (by decide) (by decide)]; exact a3
  rw [e17, a1, Nat.mul_zero, Nat.zero_add] at n
  have nJ : ∀ x y, x ≠ 7 → S'.2.1 x y = if x = 15 ∧ y = S.1 1 0 then 0 else S.2.1 x y := fun x y hx => (q3 x y hx).trans rfl
  have nI : ∀ x y, S'.2.2 x y = if y = S.1 1 0 ∧ x = 4 then i32 (frN (ys (k + 1))) else if y = S.1 1 0 ∧ x ∈ [11, 12] then 0 else S.2.2 x y := fun x y => by rw [q2]; rfl
  rw [a1] at nJ nI
  refine ⟨⟨?_, ?_, ?_, ?_, ?_, ?_, ?_⟩, fun j hj => ?_⟩
  · simp [n]
  · simp [n, a2]
  · simp [n]
  · simp [n, a4]
  · simp [n, a5]
  · simp [n, a6]
  · simp [n, a7]
  · by_cases e : j = k
    · subst e
      refine ⟨by simp [n], ⟨by simp [n], by simp [n], by simp [n], by simp [n], by simp [n], by simp [n]⟩, ⟨by simp [nI], by simp [nI], by simp [nI], by simp [nJ]⟩, ⟨q5, q6⟩, fun i hi => ?_⟩
      rw [nJ 13 _ (by decide), if_neg (by omega)]
      exact hz i hi
    · obtain ⟨c1, ⟨c2, c3, c4, c5, c6, c7⟩, ⟨c8, c9, cA, cB⟩, ⟨cC, cD⟩, cE⟩ := b j (by omega)
      refine ⟨by simp [n, e, c1], ⟨by simp [n, e, c2], by simp [n, e, c3], by simp [n, e, c4], by simp [n, e, c5], by simp [n, e, c6], by simp [n, e, c7]⟩, ⟨by simp [nI, e, c8], by simp [nI, e, c9], by simp [nI, e, cA], by simp [nJ, e, cB]⟩, ⟨?_, ?_⟩, fun i hi => ?_⟩
      · rw [q4 _ (by omega) (by omega)]; exact cC
      · rw [q4 _ (by omega) (by omega)]; exact cD
      · rw [nJ 13 _ (by decide), if_neg (by omega)]
        exact cE i hi
theorem akd_sp {kd : Nat} (h : akd kd) : spread kd = false ∧ rate kd = false := by
  rcases h with e | e | e | e | e | e | e | e <;> subst e <;> decide
theorem akd_nf {kd : Nat} (h : akd kd) : (kd ≠ 6 → 0 < nfac kd) ∧ (kd = 1 → 1 < nfac kd) := by
  rcases h with e | e | e | e | e | e | e | e <;> subst e <;> decide
/-- the coefficients are set -/
theorem coefs_law {k94 : K94} (h : LX G B bx la 7 S C) (hs : CS B SA h0) (hk : k < 4) (h1 : k < S.1 1 0) (hf : S.1 3 k = 2) (h2 : S.1 2 k = kdN (ys (k + 1))) (hw : LW ys (k + 1) V) (z0 : S.2.1 7 (5 * k + 0) = 0) (z1 : S.2.1 7 (5 * k + 1) = 0) :
    ∃ S' C', g_L_law_290 N M B SA k94 (la 0) bx v3 (la 1) (la 2) (la 3) (la 4) (la 5) (la 6) (i32 k) true (mn 7 C la h0 V) = k94 (la 0) bx v3 (la 1) (la 2) (la 3) (la 4) (la 5) (la 6) true (i32 (k + 1)) (mn 7 C' la h0 V) ∧ LX G B bx la 7 S' C' ∧ QF S S' k (ys (k + 1)) := by
  obtain ⟨-, hw2⟩ := hw
  obtain ⟨w1, w2, w3, w4, w5, w6⟩ := hw2 k (by omega)
  obtain ⟨w, hw⟩ : ∃ w, w = ys (k + 1) := ⟨_, rfl⟩
  rw [← hw] at w1 w2 w3 w4 w5 w6 h2 ⊢
  have hak := kdN_akd w
  obtain ⟨f1, f2⟩ := akd_nf hak
  have r1 : ∀ {S : ST} {C : CT}, LX G B bx la 7 S C → jaI (mn 7 C la h0 V).1 (la 1) (i32 k) = some (i32 (kdN w)) := fun h => by rw [kI (q := 1) h (by decide) rfl (jr4 hk (by decide)), w1]
  have e29 : ∀ {S1 : ST} {C1 : CT}, LX G B bx la 7 S1 C1 → k < S1.1 1 0 → S1.1 3 k = 2 → S1.1 2 k = kdN w → S1.2.1 7 (5 * k + 1) = 0 → ∃ S' C', g_L_law_329 N M B SA k94 (la 0) bx v3 (la 1) (la 2) (la 3) (la 4) (la 5) (la 6) true (i32 k) (mn 7 C1 la h0 V) = k94 (la 0) bx v3 (la 1) (la 2) (la 3) (la 4) (la 5) (la 6) true (i32 (k + 1)) (mn 7 C' la h0 V) ∧ LX G B bx la 7 S' C' ∧ S'.1 = S1.1 ∧ S'.2.2 = S1.2.2 ∧ (∀ x y, ¬ (x = 7 ∧ y = 5 * k + 1) → S'.2.1 x y = S1.2.1 x y) ∧ S'.2.1 7 (5 * k + 1) = bbN w := fun {S1 C1} g g1 g2 g3 g4 => by
    unfold g_L_law_329
    rw [r1 g, obd_some]
    by_cases e : kdN w = 1
    · obtain ⟨C', u1, u2⟩ := n_coef (V := V) (h0 := h0) (s := k) (j := 1) (b := cbN w) g hs g1 g2 (by rw [g3]; exact f2 e) (s16_vb _)
      refine ⟨_, C', ?_, u2, rfl, rfl, fun x y hxy => if_neg hxy, ?_⟩
      · rw [if_pos (by rw [e]; rfl), if_pos rfl, kJ (q := 6) g (by decide) rfl (jr4 hk (by decide)), obd_some, w6, n_job g, jgd_true]
        show jbd2 (g_B_coefficient B bx (i32 k) (i32 1) (cbN w) (mn 7 C1 la h0 V)) _ = _
        rw [u1, jbd2_some, if_pos rfl]
        unfold g_L_law_363 g_L_law_365
        rw [show i32 k + 1 = i32 (k + 1) from i32_add k 1]
      · unfold bbN
        rw [if_pos e]
        exact up2_same _ _ _ _
    · refine ⟨S1, C1, ?_, g, rfl, rfl, fun _ _ _ => rfl, ?_⟩
      · rw [if_neg (show ¬ i32 (kdN w) = (1 : Int32) from i32_ne (b := 1) (by have := akd_lt hak; omega) (by decide) e)]
        unfold g_L_law_365
        rw [show i32 k + 1 = i32 (k + 1) from i32_add k 1]
      · unfold bbN
        rw [if_neg e]; exact g4
  unfold g_L_law_290
  rw [r1 h, obd_some]
  by_cases e : kdN w = 6
  · rw [if_pos (by rw [e]; rfl)]
    obtain ⟨S', C', u1, u2, u3, u4, u5, u6⟩ := e29 h h1 hf h2 z1
    refine ⟨S', C', u1, u2, u3, u4, fun x y hx => u5 x y (fun z => hx z.1), fun y _ hy => u5 7 y (fun z => hy z.2), ?_, u6⟩
    rw [u5 7 _ (by omega), z0]
    unfold aN
    rw [if_pos e]
  · rw [if_neg (show ¬ i32 (kdN w) = (6 : Int32) from i32_ne (b := 6) (by have := akd_lt hak; omega) (by decide) e), if_pos rfl, kJ (q := 5) h (by decide) rfl (jr4 hk (by decide)), obd_some, w5, n_job h, jgd_true]
    obtain ⟨C1, u1, u2⟩ := n_coef (V := V) (h0 := h0) (s := k) (j := 0) (b := caN w) h hs h1 hf (by rw [h2]; exact f1 e) (s16_vb _)
    obtain ⟨S', C', y1, y2, y3, y4, y5, y6⟩ := e29 u2 h1 hf h2 (by rw [show (uJ S 7 (5 * k + 0) (caN w)).2.1 7 (5 * k + 1) = S.2.1 7 (5 * k + 1) from up2_j _ _ _ (by omega)]; exact z1)
    have eu : ∀ x y, (uJ S 7 (5 * k + 0) (caN w)).2.1 x y = if x = 7 ∧ y = 5 * k + 0 then caN w else S.2.1 x y := fun _ _ => rfl
    refine ⟨S', C', ?_, y2, y3, y4, fun x y hx => ?_, fun y hy hy' => ?_, ?_, y6⟩
    · show jbd2 (g_B_coefficient B bx (i32 k) (i32 0) (caN w) (mn 7 C la h0 V)) _ = _
      rw [u1, jbd2_some, if_pos rfl]
      unfold g_L_law_327
      exact y1
    · rw [y5 x y (fun z => hx z.1), eu, if_neg (fun z => hx z.1)]
    · rw [y5 7 y (fun z => hy' z.2), eu, if_neg (fun z => hy z.2)]
    · rw [y5 7 _ (by omega), eu, if_pos ⟨rfl, rfl⟩]
      unfold aN
      rw [if_neg e]
/-- one section is made -/
theorem mk_law {k94 : K94} (h : LX G B bx la 7 S C) (hs : CS B SA h0) (hN : 100 ≤ N) (hk : k < 4) (hI : SI ys k S) (hw : LW ys k V) :
    ∃ S' C' V', g_L_law_166 N M B SA k94 (la 0) bx v3 (la 1) (la 2) (la 3) (la 4) (la 5) (la 6) true (i32 k) (ys (k + 1)) (i32 (kdN (ys (k + 1)))) (i32 k) (la 1) (mn 7 C la h0 V) = k94 (la 0) bx v3 (la 1) (la 2) (la 3) (la 4) (la 5) (la 6) true (i32 (k + 1)) (mn 7 C' la h0 V') ∧ LX G B bx la 7 S' C' ∧ SI ys (k + 1) S' ∧ LW ys (k + 1) V' := by
  obtain ⟨⟨a1, a2, a3, a4, a5, a6, a7⟩, b⟩ := id hI
  obtain ⟨w, hww⟩ : ∃ w, w = ys (k + 1) := ⟨_, rfl⟩
  have hW := lw_sec hw
  have hz : (∀ j, j < 64 → S.2.1 13 (64 * k + j) = 0) ∧ ∀ j, j < 5 → S.2.1 7 (5 * k + j) = 0 := lx_ask h fun _ ⟨A, J⟩ => by
    have := J.2.2.2.1.2.2.2.1 k (by omega) (by omega)
    exact ⟨this.1, this.2.2⟩
  rw [← hww] at hW ⊢
  have hak := kdN_akd w
  obtain ⟨C1, x1, y1⟩ := n_section (V := secV V k w) (h0 := h0) (kd := kdN w) (so := 2) (ln := i32 (frN w)) h hs (by omega) (akd_lt hak) (by decide) (len_ok w)
  rw [a1] at x1
  have s1 : (secS S (kdN w) 2 (i32 (frN w))).1 1 0 = k + 1 := by rw [secS_1, a1]
  have sk : ∀ x, x ∉ [2, 3, 5, 6, 8, 9, 10, 14, 70] → x ≠ 1 → (secS S (kdN w) 2 (i32 (frN w))).1 x = S.1 x := fun x h1 h2 => secS_k h1 h2
  have s2 : (secS S (kdN w) 2 (i32 (frN w))).1 2 k = kdN w := by simp [secS, a1]
  have s3 : (secS S (kdN w) 2 (i32 (frN w))).1 3 k = 2 := by simp [secS, a1]
  have s8 : (secS S (kdN w) 2 (i32 (frN w))).1 8 k = 0 := by simp [secS, a1]
  have s17 : (secS S (kdN w) 2 (i32 (frN w))).1 17 0 = k := by rw [sk 17 (by decide) (by decide)]; exact a3
  obtain ⟨C2, x2, y2⟩ := n_add (N := N) (V := secV V k w) (h0 := h0) (c := 0) (s := k) y1 hs hN (by rw [sk 16 (by decide) (by decide)]; omega) (by omega) (by omega) s8 (by rw [sk 19 (by decide) (by decide)]; exact a4) (fun h0' => by
    rw [s17] at h0'
    rw [s3]
    show 2 = (secS S (kdN w) 2 (i32 (frN w))).1 3 ((secS S (kdN w) 2 (i32 (frN w))).1 18 (10 * 0))
    rw [sk 18 (by decide) (by decide), Nat.mul_zero, (b 0 (by omega)).1, secS_ne (by omega) (by decide)]
    exact (b 0 (by omega)).2.1.2.1.symm) (by rw [s2]; exact (akd_sp hak).1)
  rw [s17] at x2
  have j1 : (jnS (secS S (kdN w) 2 (i32 (frN w))) 0 k).1 1 0 = k + 1 := by rw [jnS_k (by decide)]; exact s1
  have j3 : (jnS (secS S (kdN w) 2 (i32 (frN w))) 0 k).1 3 k = 2 := by rw [jnS_k (by decide)]; exact s3
  have j2 : (jnS (secS S (kdN w) 2 (i32 (frN w))) 0 k).1 2 k = kdN w := by rw [jnS_k (by decide)]; exact s2
  obtain ⟨C3, x3, y3⟩ := n_rule (V := secV V k w) (h0 := h0) (s := k) (r := hwN w) (l := lmN w) y2 hs (by omega) j3 (hwN_le w) (lmN_le w)
  have un : ∀ x y, x ≠ 5 → x ≠ 6 → (uN (uN (jnS (secS S (kdN w) 2 (i32 (frN w))) 0 k) 5 k (hwN w)) 6 k (lmN w)).1 x y = (jnS (secS S (kdN w) 2 (i32 (frN w))) 0 k).1 x y := fun x y h5 h6 => (if_neg (fun z => h6 z.1)).trans (if_neg (fun z => h5 z.1))
  have u7 : ∀ y, (uN (uN (jnS (secS S (kdN w) 2 (i32 (frN w))) 0 k) 5 k (hwN w)) 6 k (lmN w)).2.1 7 y = S.2.1 7 y := fun y => by
    show (secS S (kdN w) 2 (i32 (frN w))).2.1 7 y = _
    rw [secS_J (by decide)]
  obtain ⟨S4, C4, x4, y4, z4⟩ := coefs_law (N := N) (M := M) (v3 := v3) (V := secV V k w) (h0 := h0) (ys := ys) (k94 := k94) y3 hs hk (by rw [un 1 0 (by decide) (by decide), j1]; omega) (by rw [un 3 k (by decide) (by decide), j3]) (by rw [un 2 k (by decide) (by decide), j2, hww]) hW (by rw [u7]; exact hz.2 0 (by decide)) (by rw [u7]; exact hz.2 1 (by decide))
  rw [hww] at z4
  refine ⟨S4, C4, secV V k w, ?_, y4, si_step hI hz.1 z4, hW⟩
  have hh : ((w >>> ((3 : Int32) &&& 31)) &&& (3 : Int32)) - ((w >>> ((3 : Int32) &&& 31)) &&& (3 : Int32)) / (3 : Int32) * (3 : Int32) = i32 (hwN w) := by
    rw [and_3]
    exact rem_i32 (b := 3) (by have := bN_lt 2 (w >>> ((3 : Int32) &&& 31)); omega) (by decide)
  have hf : (1 : Int32) + ((w >>> ((6 : Int32) &&& 31)) &&& (3 : Int32)) = i32 (frN w) := by
    rw [and_3]
    exact i32_add 1 _
  have hl : ((w >>> ((5 : Int32) &&& 31)) &&& (1 : Int32)) = i32 (lmN w) := and_1 _
  have kk : ∀ {q}, 4 ≤ lln q → jrg (lln q) (i32 k) = some k := fun h => jr4 hk h
  unfold g_L_law_166
  rw [hh, hf, hl, kpI (q := 1) h (by decide) rfl (kk (by decide)), obd_some, kpI (q := 2) h (by decide) rfl (kk (by decide)), obd_some, kpI (q := 3) h (by decide) rfl (kk (by decide)), obd_some, kpI (q := 4) h (by decide) rfl (kk (by decide)), obd_some, kpJ (q := 5) h (by decide) rfl (kk (by decide)), obd_some, kpJ (q := 6) h (by decide) rfl (kk (by decide)), obd_some, if_pos rfl]
  show obd (jaI (mn 7 C la h0 (secV V k w)).1 (la 1) (i32 k)) _ = _
  obtain ⟨w1, w2, w3, w4, -⟩ := hW.2 k (by omega)
  rw [← hww] at w1 w2 w3 w4
  have job := n_job (V := secV V k w) (h0 := h0) h
  rw [kI (q := 1) h (by decide) rfl (kk (by decide)), obd_some, w1]
  show obd (jaI (mn 7 C la h0 (secV V k w)).1 (la 4) (i32 k)) _ = _
  rw [kI (q := 4) h (by decide) rfl (kk (by decide)), obd_some, w4]
  show jgd (jobC 0 ((mn 7 C la h0 (secV V k w)).1 bx)) (jbd2 (g_B_section B SA bx (i32 (kdN w)) (i32 2) (i32 (frN w)) (mn 7 C la h0 (secV V k w))) _) = _
  rw [job, jgd_true, x1, jbd2_some, if_pos rfl, n_job y1, jgd_true]
  show jbd2 (g_B_add N B bx (i32 0) (i32 k) (mn 7 C1 la h0 (secV V k w))) _ = _
  rw [x2, jbd2_some, if_pos rfl, kI (q := 2) y2 (by decide) rfl (kk (by decide)), obd_some, kI (q := 3) y2 (by decide) rfl (kk (by decide)), obd_some, n_job y2, jgd_true, w2, w3, x3, jbd2_some, if_pos rfl]
  exact x4
end SETUP
