/-! a chain remade: joined, tied, held -/
section LISTS
variable {E : Nat} {S S' S0 X Y : ST} {c s d n n' st p i : Nat} {a b : Nat → Nat}
theorem jnL_2 : ∀ {p : Nat}, (jnL n' a p Y).2 = Y.2
  | 0 => rfl
  | p + 1 => (jnS_2 (S := jnL n' a p Y)).trans jnL_2
theorem jnL_17 (h : Y.1 17 n' = 0) : ∀ {p : Nat}, (jnL n' a p Y).1 17 n' = p
  | 0 => h
  | p + 1 => by
    show (jnS (jnL n' a p Y) n' (a p)).1 17 n' = p + 1
    rw [jnS_17c, jnL_17 h]
theorem jnL_off (h : Y.1 17 n' = 0) {k j : Nat} (h1 : ¬ (k = 17 ∧ j = n')) : ∀ {p : Nat}, ¬ (k = 18 ∧ 10 * n' ≤ j ∧ j < 10 * n' + p) → ((k = 8 ∨ k = 9) → ∀ p', p' < p → j ≠ a p') → (jnL n' a p Y).1 k j = Y.1 k j
  | 0, _, _ => rfl
  | p + 1, h2, h3 => by
    have e := jnL_17 (a := a) h (p := p)
    have ih := jnL_off h h1 (p := p) (fun q => h2 ⟨q.1, q.2.1, by omega⟩) (fun q p' hp => h3 q p' (by omega))
    have g1 : ¬ (k = 18 ∧ j = 10 * n' + (jnL n' a p Y).1 17 n') := by rw [e]; exact fun q => h2 ⟨q.1, by omega, by omega⟩
    have g2 : ¬ (k = 8 ∧ j = a p) := fun q => h3 (Or.inl q.1) p (by omega) q.2
    have g3 : ¬ (k = 9 ∧ j = a p) := fun q => h3 (Or.inr q.1) p (by omega) q.2
    have g4 : ¬ (k = 17 ∧ j = n') := h1
    rw [← ih]
    show (jnS (jnL n' a p Y) n' (a p)).1 k j = _
    simp only [jnS, g1, g2, g3, g4, if_false]
theorem jnL_18 (h : Y.1 17 n' = 0) : ∀ {p p' : Nat}, p' < p → (jnL n' a p Y).1 18 (10 * n' + p') = a p'
  | 0, _, hp => absurd hp (Nat.not_lt_zero _)
  | p + 1, p', hp => by
    have e := jnL_17 (a := a) h (p := p)
    show (jnS (jnL n' a p Y) n' (a p)).1 18 (10 * n' + p') = a p'
    by_cases q : p' = p
    · subst q
      have := jnS_18s (S := jnL n' a p' Y) (c := n') (s := a p')
      rw [e] at this
      exact this
    · rw [jnS_18 (by rw [e]; omega)]
      exact jnL_18 h (by omega)
theorem jnL_89 (h : Y.1 17 n' = 0) : ∀ {p : Nat}, (∀ x y, x < y → y < p → a x < a y) → ∀ p', p' < p → (jnL n' a p Y).1 8 (a p') = n' + 1 ∧ (jnL n' a p Y).1 9 (a p') = p' + 1
  | 0, _, _, hp => absurd hp (Nat.not_lt_zero _)
  | p + 1, hi, p', hp => by
    have e := jnL_17 (a := a) h (p := p)
    show (jnS (jnL n' a p Y) n' (a p)).1 8 (a p') = n' + 1 ∧ (jnS (jnL n' a p Y) n' (a p)).1 9 (a p') = p' + 1
    by_cases q : p' = p
    · subst q
      rw [jnS_8s, jnS_9s, e]
      exact ⟨rfl, rfl⟩
    · have hne : a p' ≠ a p := by have := hi p' p (by omega) (by omega); omega
      rw [jnS_8 hne, jnS_9 hne]
      exact jnL_89 h (fun x y h1 h2 => hi x y h1 (by omega)) p' (by omega)
theorem inL_2 : ∀ {p : Nat}, (inL a b p Y).2 = Y.2
  | 0 => rfl
  | p + 1 => by
    show (if b p = 0 then inL a b p Y else inS (inL a b p Y) (a p) (b p - 1)).2 = Y.2
    by_cases q : b p = 0
    · rw [if_pos q]; exact inL_2
    · rw [if_neg q, inS_2]; exact inL_2
theorem inL_off {k j : Nat} : ∀ {p : Nat}, (k = 10 → ∀ p', p' < p → b p' ≠ 0 → j ≠ a p') → (k = 19 → ∀ p', p' < p → b p' ≠ 0 → j ≠ b p' - 1) → (inL a b p Y).1 k j = Y.1 k j
  | 0, _, _ => rfl
  | p + 1, h1, h2 => by
    have ih := inL_off (k := k) (j := j) (p := p) (fun q p' hp => h1 q p' (by omega)) (fun q p' hp => h2 q p' (by omega))
    rw [← ih]
    show (if b p = 0 then inL a b p Y else inS (inL a b p Y) (a p) (b p - 1)).1 k j = _
    by_cases q : b p = 0
    · rw [if_pos q]
    · rw [if_neg q]
      have g1 : ¬ (k = 10 ∧ j = a p) := fun z => h1 z.1 p (by omega) q z.2
      have g2 : ¬ (k = 19 ∧ j = b p - 1) := fun z => h2 z.1 p (by omega) q z.2
      simp only [inS, g1, g2, if_false]
theorem inL_at : ∀ {p : Nat}, (∀ x y, x < y → y < p → a x < a y) → (∀ x y, x < y → y < p → b x ≠ 0 → b y ≠ 0 → b x < b y) → ∀ p', p' < p → b p' ≠ 0 → (inL a b p Y).1 10 (a p') = b p' ∧ (inL a b p Y).1 19 (b p' - 1) = a p' + 1
  | 0, _, _, _, hp, _ => absurd hp (Nat.not_lt_zero _)
  | p + 1, ha, hb, p', hp, h0 => by
    show (if b p = 0 then inL a b p Y else inS (inL a b p Y) (a p) (b p - 1)).1 10 (a p') = b p' ∧ (if b p = 0 then inL a b p Y else inS (inL a b p Y) (a p) (b p - 1)).1 19 (b p' - 1) = a p' + 1
    by_cases e : p' = p
    · subst e
      rw [if_neg h0, inS_10s, inS_19d]
      exact ⟨by omega, rfl⟩
    · have ih := inL_at (p := p) (fun x y h1 h2 => ha x y h1 (by omega)) (fun x y h1 h2 => hb x y h1 (by omega)) p' (by omega) h0
      by_cases q : b p = 0
      · rw [if_pos q]; exact ih
      · have h1 := ha p' p (by omega) (by omega)
        have h2 := hb p' p (by omega) (by omega) h0 q
        rw [if_neg q, inS_10 (by omega), inS_19 (by omega)]
        exact ih
theorem lpL_20 (h : Y.1 20 n' = 0) : ∀ {i : Nat}, (lpL S0 st c n' i Y).1 20 n' = i
  | 0 => h
  | i + 1 => by
    show (lpS (lpL S0 st c n' i Y) n' _ _ _ _).1 20 n' = i + 1
    rw [lpS_20c, lpL_20 h]
theorem lpL_off (h : Y.1 20 n' = 0) {k j : Nat} (h1 : ¬ (k = 20 ∧ j = n')) : ∀ {i : Nat}, (k ∈ [21, 22, 23, 26, 71] → j < 3 * n' ∨ 3 * n' + i ≤ j) → (lpL S0 st c n' i Y).1 k j = Y.1 k j
  | 0, _ => rfl
  | i + 1, h2 => by
    have e := lpL_20 (S0 := S0) (st := st) (c := c) h (i := i)
    have ih := lpL_off h h1 (i := i) (fun q => by have := h2 q; omega)
    rw [← ih]
    show (lpS (lpL S0 st c n' i Y) n' _ _ _ _).1 k j = _
    by_cases hk : k = 20
    · subst hk; exact lpS_20 (fun q => h1 ⟨rfl, q⟩)
    · by_cases hj : j = 3 * n' + (lpL S0 st c n' i Y).1 20 n'
      · refine congrFun (lpS_k (fun q => ?_)) _
        have : k ∈ [21, 22, 23, 26, 71] := by
          rcases List.mem_cons.mp q with z | z
          · exact absurd z hk
          · exact z
        have := h2 this
        rw [e] at hj
        omega
      · exact lpS_l hk hj
theorem lpL_at (h : Y.1 20 n' = 0) : ∀ {i i' : Nat}, i' < i → ((lpL S0 st c n' i Y).1 21 (3 * n' + i') = S0.1 21 (3 * c + i') ∧ (lpL S0 st c n' i Y).1 22 (3 * n' + i') = S0.1 22 (3 * c + i') ∧ (lpL S0 st c n' i Y).1 23 (3 * n' + i') = S0.1 23 (3 * c + i') ∧ (lpL S0 st c n' i Y).1 26 (3 * n' + i') = 0 ∧ (lpL S0 st c n' i Y).1 71 (3 * n' + i') = 0) ∧
    (lpL S0 st c n' i Y).2.1 24 (3 * n' + i') = trB (cso S0 c) st false (S0.2.1 24 (3 * c + i')) ∧ ∀ j, j < 64 → (lpL S0 st c n' i Y).2.1 25 (64 * (3 * n' + i') + j) = 0
  | 0, _, hi => absurd hi (Nat.not_lt_zero _)
  | i + 1, i', hi => by
    have e := lpL_20 (S0 := S0) (st := st) (c := c) h (i := i)
    have l21 := lpS_21 (S := lpL S0 st c n' i Y) (c := n') (f := S0.1 22 (3 * c + i)) (t := S0.1 21 (3 * c + i)) (ln := S0.1 23 (3 * c + i)) (v := trB (cso S0 c) st false (S0.2.1 24 (3 * c + i)))
    have l22 := lpS_22 (S := lpL S0 st c n' i Y) (c := n') (f := S0.1 22 (3 * c + i)) (t := S0.1 21 (3 * c + i)) (ln := S0.1 23 (3 * c + i)) (v := trB (cso S0 c) st false (S0.2.1 24 (3 * c + i)))
    have l23 := lpS_23 (S := lpL S0 st c n' i Y) (c := n') (f := S0.1 22 (3 * c + i)) (t := S0.1 21 (3 * c + i)) (ln := S0.1 23 (3 * c + i)) (v := trB (cso S0 c) st false (S0.2.1 24 (3 * c + i)))
    have l26 := lpS_26 (S := lpL S0 st c n' i Y) (c := n') (f := S0.1 22 (3 * c + i)) (t := S0.1 21 (3 * c + i)) (ln := S0.1 23 (3 * c + i)) (v := trB (cso S0 c) st false (S0.2.1 24 (3 * c + i)))
    have l71 := lpS_71 (S := lpL S0 st c n' i Y) (c := n') (f := S0.1 22 (3 * c + i)) (t := S0.1 21 (3 * c + i)) (ln := S0.1 23 (3 * c + i)) (v := trB (cso S0 c) st false (S0.2.1 24 (3 * c + i)))
    have l24 := lpS_24s (S := lpL S0 st c n' i Y) (c := n') (f := S0.1 22 (3 * c + i)) (t := S0.1 21 (3 * c + i)) (ln := S0.1 23 (3 * c + i)) (v := trB (cso S0 c) st false (S0.2.1 24 (3 * c + i)))
    have l25 := fun j (hj : j < 64) => lpS_25s (S := lpL S0 st c n' i Y) (c := n') (f := S0.1 22 (3 * c + i)) (t := S0.1 21 (3 * c + i)) (ln := S0.1 23 (3 * c + i)) (v := trB (cso S0 c) st false (S0.2.1 24 (3 * c + i))) hj
    rw [e] at l21 l22 l23 l26 l71 l24 l25
    by_cases q : i' = i
    · subst q
      exact ⟨⟨l21, l22, l23, l26, l71⟩, l24, l25⟩
    · obtain ⟨⟨u1, u2, u3, u4, u5⟩, u6, u7⟩ := lpL_at h (i := i) (i' := i') (by omega)
      have g : ∀ k, k ≠ 20 → (lpL S0 st c n' (i + 1) Y).1 k (3 * n' + i') = (lpL S0 st c n' i Y).1 k (3 * n' + i') := fun k hk => lpS_l hk (by rw [e]; omega)
      refine ⟨⟨(g 21 (by decide)).trans u1, (g 22 (by decide)).trans u2, (g 23 (by decide)).trans u3, (g 26 (by decide)).trans u4, (g 71 (by decide)).trans u5⟩, (lpS_24 (S := lpL S0 st c n' i Y) (by rw [e]; omega)).trans u6, fun j hj => (lpS_25 (S := lpL S0 st c n' i Y) (by rw [e]; omega)).trans (u7 j hj)⟩
theorem lpL_J {k : Nat} (h1 : k ≠ 24) (h2 : k ≠ 25) : ∀ {i : Nat}, (lpL S0 st c n' i Y).2.1 k = Y.2.1 k
  | 0 => rfl
  | i + 1 => (lpS_J (S := lpL S0 st c n' i Y) h1 h2).trans (lpL_J h1 h2)
theorem lpL_24 (h : Y.1 20 n' = 0) {j : Nat} : ∀ {i : Nat}, (j < 3 * n' ∨ 3 * n' + i ≤ j) → (lpL S0 st c n' i Y).2.1 24 j = Y.2.1 24 j
  | 0, _ => rfl
  | i + 1, hj => by
    have e := lpL_20 (S0 := S0) (st := st) (c := c) h (i := i)
    exact (lpS_24 (S := lpL S0 st c n' i Y) (by rw [e]; omega)).trans (lpL_24 h (by omega))
theorem lpL_25 (h : Y.1 20 n' = 0) {j : Nat} : ∀ {i : Nat}, (j < 192 * n' ∨ 192 * n' + 64 * i ≤ j) → (lpL S0 st c n' i Y).2.1 25 j = Y.2.1 25 j
  | 0, _ => rfl
  | i + 1, hj => by
    have e := lpL_20 (S0 := S0) (st := st) (c := c) h (i := i)
    exact (lpS_25 (S := lpL S0 st c n' i Y) (by rw [e]; omega)).trans (lpL_25 h (by omega))
theorem lpL_I : ∀ {i : Nat}, (lpL S0 st c n' i Y).2.2 = Y.2.2
  | 0 => rfl
  | i + 1 => (show (lpS (lpL S0 st c n' i Y) n' _ _ _ _).2.2 = _ from rfl).trans lpL_I
theorem cfS_1 : ∀ {j : Nat}, (cfS S0 st s n j Y).1 = Y.1
  | 0 => rfl
  | j + 1 => (show (uJ (cfS S0 st s n j Y) 7 _ _).1 = (cfS S0 st s n j Y).1 from rfl).trans cfS_1
theorem cfS_I : ∀ {j : Nat}, (cfS S0 st s n j Y).2.2 = Y.2.2
  | 0 => rfl
  | j + 1 => (show (uJ (cfS S0 st s n j Y) 7 _ _).2.2 = (cfS S0 st s n j Y).2.2 from rfl).trans cfS_I
theorem rlS_k {k : Nat} (h5 : k ≠ 5) (h6 : k ≠ 6) : (rlS S0 st s n Y).1 k = Y.1 k := by
  unfold rlS
  split
  · funext j
    show up2 (up2 Y.1 5 n (S0.1 5 s)) 6 n (S0.1 6 s) k j = Y.1 k j
    simp [up2, h5, h6]
  · rfl
theorem rlS_2 : (rlS S0 st s n Y).2 = Y.2 := by
  unfold rlS
  split <;> rfl
/-! what is known all the way -/
/-- the chain n' is what was made of c -/
def CP (S0 : ST) (st c n' : Nat) (S : ST) : Prop := (n' < S.1 16 0 ∧ S.1 19 n' = 0 ∧ S.1 17 n' = S0.1 17 c) ∧ ∀ p, p < S0.1 17 c → S.1 18 (10 * n' + p) < S.1 1 0 ∧ S.1 2 (S.1 18 (10 * n' + p)) = S0.1 2 (S0.1 18 (10 * c + p)) ∧ S.1 3 (S.1 18 (10 * n' + p)) = st
theorem cp_ex (h : CP S0 st c n' S) (he : Ex S S') (h10 : S0.1 17 c ≤ 10) : CP S0 st c n' S' := by
  obtain ⟨⟨a1, a2, a3⟩, a4⟩ := h
  obtain ⟨⟨e1, e2⟩, e3, e4⟩ := he
  obtain ⟨v1, v2, v3⟩ := e4 n' a1
  refine ⟨⟨by omega, (v1 19 (by decide)).trans a2, (v1 17 (by decide)).trans a3⟩, fun p hp => ?_⟩
  obtain ⟨u1, u2, u3⟩ := a4 p hp
  rw [v2 p (by omega), (e3 _ u1).1 2 (by decide), (e3 _ u1).1 3 (by decide)]
  exact ⟨by omega, u2, u3⟩
/-- the members made so far -/
def MI (S0 : ST) (st c : Nat) (S1 : ST) (p : Nat) (x : CM) : Prop := Ex S1 x.1 ∧
  (∀ q, q < p → (S1.1 1 0 ≤ x.2.1 q ∧ x.2.1 q < x.1.1 1 0) ∧ x.1.1 2 (x.2.1 q) = S0.1 2 (S0.1 18 (10 * c + q)) ∧ x.1.1 3 (x.2.1 q) = st ∧ x.1.1 8 (x.2.1 q) = 0 ∧ x.1.1 10 (x.2.1 q) = 0) ∧
  (∀ q r, q < r → r < p → x.2.1 q < x.2.1 r) ∧
  (∀ q, q < p → (S0.1 10 (S0.1 18 (10 * c + q)) = 0 ∧ x.2.2 q = 0) ∨ ∃ d d', S0.1 10 (S0.1 18 (10 * c + q)) = d + 1 ∧ x.2.2 q = d' + 1 ∧ S1.1 16 0 ≤ d' ∧ CP S0 st d d' x.1) ∧
  ∀ q r, q < r → r < p → x.2.2 q ≠ 0 → x.2.2 r ≠ 0 → x.2.2 q < x.2.2 r
end LISTS
