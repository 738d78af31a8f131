/-! a chain remade: the states -/
section STATES
variable {E : Nat} {S S' S0 X Y : ST} {c s d n st : Nat}
/-- what there was is as it was -/
def Ex (S S' : ST) : Prop := (S.1 1 0 ≤ S'.1 1 0 ∧ S.1 16 0 ≤ S'.1 16 0) ∧
  (∀ s, s < S.1 1 0 → (∀ k, k ∈ [2, 3, 5, 6, 8, 9, 10] → S'.1 k s = S.1 k s) ∧ S'.2.2 4 s = S.2.2 4 s ∧ ∀ j, j < 5 → S'.2.1 7 (5 * s + j) = S.2.1 7 (5 * s + j)) ∧
  ∀ c, c < S.1 16 0 → (∀ k, k ∈ [17, 19, 20] → S'.1 k c = S.1 k c) ∧ (∀ p, p < 10 → S'.1 18 (10 * c + p) = S.1 18 (10 * c + p)) ∧ (∀ i, i < 3 → (∀ k, k ∈ [21, 22, 23] → S'.1 k (3 * c + i) = S.1 k (3 * c + i)) ∧ S'.2.1 24 (3 * c + i) = S.2.1 24 (3 * c + i))
theorem Ex.refl (S : ST) : Ex S S := ⟨⟨Nat.le_refl _, Nat.le_refl _⟩, fun _ _ => ⟨fun _ _ => rfl, rfl, fun _ _ => rfl⟩, fun _ _ => ⟨fun _ _ => rfl, fun _ _ => rfl, fun _ _ => ⟨fun _ _ => rfl, rfl⟩⟩⟩
theorem Ex.trans (h : Ex S X) (h' : Ex X Y) : Ex S Y := by
  obtain ⟨⟨a1, a2⟩, a3, a4⟩ := h
  obtain ⟨⟨b1, b2⟩, b3, b4⟩ := h'
  refine ⟨⟨by omega, by omega⟩, fun s hs => ?_, fun c hc => ?_⟩
  · obtain ⟨u1, u2, u3⟩ := a3 s hs
    obtain ⟨v1, v2, v3⟩ := b3 s (by omega)
    exact ⟨fun k hk => (v1 k hk).trans (u1 k hk), v2.trans u2, fun j hj => (v3 j hj).trans (u3 j hj)⟩
  · obtain ⟨u1, u2, u3⟩ := a4 c hc
    obtain ⟨v1, v2, v3⟩ := b4 c (by omega)
    exact ⟨fun k hk => (v1 k hk).trans (u1 k hk), fun p hp => (v2 p hp).trans (u2 p hp), fun i hi => ⟨fun k hk => ((v3 i hi).1 k hk).trans ((u3 i hi).1 k hk), (v3 i hi).2.trans (u3 i hi).2⟩⟩
/-- a change of numbers alone, that none of them meets -/
theorem ex_N (h : Ex S X) (h1 : S.1 1 0 ≤ Y.1 1 0) (h16 : S.1 16 0 ≤ Y.1 16 0) (hs : ∀ s, s < S.1 1 0 → ∀ k, k ∈ [2, 3, 5, 6, 8, 9, 10] → Y.1 k s = X.1 k s) (hc : ∀ c, c < S.1 16 0 → (∀ k, k ∈ [17, 19, 20] → Y.1 k c = X.1 k c) ∧ (∀ p, p < 10 → Y.1 18 (10 * c + p) = X.1 18 (10 * c + p)) ∧ ∀ i, i < 3 → ∀ k, k ∈ [21, 22, 23] → Y.1 k (3 * c + i) = X.1 k (3 * c + i))
    (h4 : ∀ s, s < S.1 1 0 → Y.2.2 4 s = X.2.2 4 s) (h7 : ∀ s, s < S.1 1 0 → ∀ j, j < 5 → Y.2.1 7 (5 * s + j) = X.2.1 7 (5 * s + j)) (h24 : ∀ c, c < S.1 16 0 → ∀ i, i < 3 → Y.2.1 24 (3 * c + i) = X.2.1 24 (3 * c + i)) : Ex S Y := by
  obtain ⟨⟨a1, a2⟩, a3, a4⟩ := h
  refine ⟨⟨h1, h16⟩, fun s hh => ?_, fun c hh => ?_⟩
  · obtain ⟨u1, u2, u3⟩ := a3 s hh
    exact ⟨fun k hk => (hs s hh k hk).trans (u1 k hk), (h4 s hh).trans u2, fun j hj => (h7 s hh j hj).trans (u3 j hj)⟩
  · obtain ⟨u1, u2, u3⟩ := a4 c hh
    obtain ⟨v1, v2, v3⟩ := hc c hh
    exact ⟨fun k hk => (v1 k hk).trans (u1 k hk), fun p hp => (v2 p hp).trans (u2 p hp), fun i hi => ⟨fun k hk => (v3 i hi k hk).trans ((u3 i hi).1 k hk), (h24 c hh i hi).trans (u3 i hi).2⟩⟩
theorem ex_sec {kd so : Nat} {ln : Int32} (h : Ex S X) : Ex S (secS X kd so ln) := by
  have a1 := h.1.1
  have a2 := h.1.2
  refine ex_N h (by rw [secS_1]; omega) (by rw [secS_k (k := 16) (by decide) (by decide)]; exact a2) (fun s hs k hk => secS_ne (by omega) (fun q => by subst q; revert hk; decide)) (fun c hc => ⟨fun k hk => ?_, fun p _ => congrFun (secS_k (by decide) (by decide)) _, fun i _ k hk => ?_⟩) (fun s hs => secS_I (by omega)) (fun s hs j hj => by rw [secS_J (by decide)]) (fun c hc i hi => by rw [secS_J (by decide)])
  · refine congrFun (secS_k (fun q => ?_) (fun q => by subst q; revert hk; decide)) _
    revert q hk; revert k; decide
  · refine congrFun (secS_k (fun q => ?_) (fun q => by subst q; revert hk; decide)) _
    revert q hk; revert k; decide
theorem ex_cf {j : Nat} {v : Int64} (h : Ex S X) (hn : S.1 1 0 ≤ n) : Ex S (uJ X 7 (5 * n + j) v) := by
  refine ex_N h h.1.1 h.1.2 (fun _ _ _ _ => rfl) (fun _ _ => ⟨fun _ _ => rfl, fun _ _ => rfl, fun _ _ _ _ => rfl⟩) (fun _ _ => rfl) (fun s hs i hi => by
    show up2 X.2.1 7 (5 * n + j) v 7 (5 * s + i) = _
    exact up2_j _ _ _ (by omega)) (fun c hc i hi => by
    show up2 X.2.1 7 (5 * n + j) v 24 (3 * c + i) = _
    exact up2_k _ _ _ _ (by decide))
theorem ex_rl {r l : Nat} (h : Ex S X) (hn : S.1 1 0 ≤ n) : Ex S (uN (uN X 5 n r) 6 n l) := by
  have e : ∀ k j, ¬ (k = 5 ∧ j = n) → ¬ (k = 6 ∧ j = n) → (uN (uN X 5 n r) 6 n l).1 k j = X.1 k j := fun k j h1 h2 => by
    show up2 (up2 X.1 5 n r) 6 n l k j = X.1 k j
    simp only [up2, h1, h2, if_false]
  refine ex_N h ?_ ?_ (fun s hs k hk => e k s (by omega) (by omega)) (fun c hc => ⟨fun k hk => e k c (fun q => by rw [q.1] at hk; revert hk; decide) (fun q => by rw [q.1] at hk; revert hk; decide), fun p _ => e 18 _ (by omega) (by omega), fun i _ k hk => e k _ (fun q => by rw [q.1] at hk; revert hk; decide) (fun q => by rw [q.1] at hk; revert hk; decide)⟩) (fun _ _ => rfl) (fun _ _ _ _ => rfl) (fun _ _ _ _ => rfl)
  · rw [e 1 0 (by omega) (by omega)]; exact h.1.1
  · rw [e 16 0 (by omega) (by omega)]; exact h.1.2
theorem ex_ch (h : Ex S X) : Ex S (chS X) := by
  have a2 := h.1.2
  refine ex_N h (by rw [chS_k (k := 1) (by decide) (by decide)]; exact h.1.1) (by rw [chS_16]; omega) (fun s hs k hk => ?_) (fun c hc => ⟨fun k hk => chS_ne (by omega) (fun q => by subst q; revert hk; decide), fun p _ => congrFun (chS_k (by decide) (by decide)) _, fun i _ k hk => ?_⟩) (fun _ _ => rfl) (fun _ _ _ _ => rfl) (fun _ _ _ _ => rfl)
  · refine congrFun (chS_k (fun q => ?_) (fun q => by subst q; revert hk; decide)) _
    revert q hk; revert k; decide
  · refine congrFun (chS_k (fun q => ?_) (fun q => by subst q; revert hk; decide)) _
    revert q hk; revert k; decide
theorem ex_jn (h : Ex S X) (hc : S.1 16 0 ≤ c) (hs : S.1 1 0 ≤ s) : Ex S (jnS X c s) := by
  have e : ∀ k j, ¬ (k = 18 ∧ j = 10 * c + X.1 17 c) → ¬ (k = 8 ∧ j = s) → ¬ (k = 9 ∧ j = s) → ¬ (k = 17 ∧ j = c) → (jnS X c s).1 k j = X.1 k j := fun k j h1 h2 h3 h4 => by
    simp only [jnS, h1, h2, h3, h4, if_false]
  refine ex_N h ?_ ?_ (fun x hx k hk => e k x (fun q => by rw [q.1] at hk; revert hk; decide) (by omega) (by omega) (fun q => by rw [q.1] at hk; revert hk; decide)) (fun x hx => ⟨fun k hk => e k x (fun q => by rw [q.1] at hk; revert hk; decide) (fun q => by rw [q.1] at hk; revert hk; decide) (fun q => by rw [q.1] at hk; revert hk; decide) (by omega), fun p _ => e 18 _ (by omega) (by omega) (by omega) (by omega), fun i _ k hk => e k _ (fun q => by rw [q.1] at hk; revert hk; decide) (fun q => by rw [q.1] at hk; revert hk; decide) (fun q => by rw [q.1] at hk; revert hk; decide) (fun q => by rw [q.1] at hk; revert hk; decide)⟩) (fun _ _ => rfl) (fun _ _ _ _ => rfl) (fun _ _ _ _ => rfl)
  · rw [e 1 0 (by omega) (by omega) (by omega) (by omega)]; exact h.1.1
  · rw [e 16 0 (by omega) (by omega) (by omega) (by omega)]; exact h.1.2
theorem ex_in (h : Ex S X) (hs : S.1 1 0 ≤ s) (hd : S.1 16 0 ≤ d) : Ex S (inS X s d) := by
  have e : ∀ k j, ¬ (k = 10 ∧ j = s) → ¬ (k = 19 ∧ j = d) → (inS X s d).1 k j = X.1 k j := fun k j h1 h2 => by
    simp only [inS, h1, h2, if_false]
  refine ex_N h ?_ ?_ (fun x hx k hk => e k x (by omega) (fun q => by rw [q.1] at hk; revert hk; decide)) (fun x hx => ⟨fun k hk => e k x (fun q => by rw [q.1] at hk; revert hk; decide) (by omega), fun p _ => e 18 _ (by omega) (by omega), fun i _ k hk => e k _ (fun q => by rw [q.1] at hk; revert hk; decide) (fun q => by rw [q.1] at hk; revert hk; decide)⟩) (fun _ _ => rfl) (fun _ _ _ _ => rfl) (fun _ _ _ _ => rfl)
  · rw [e 1 0 (by omega) (by omega)]; exact h.1.1
  · rw [e 16 0 (by omega) (by omega)]; exact h.1.2
theorem ex_lp {f t ln : Nat} {v : Int64} (h : Ex S X) (hc : S.1 16 0 ≤ c) : Ex S (lpS X c f t ln v) := by
  refine ex_N h (by rw [lpS_k (k := 1) (by decide)]; exact h.1.1) (by rw [lpS_k (k := 16) (by decide)]; exact h.1.2) (fun x hx k hk => ?_) (fun x hx => ⟨fun k hk => ?_, fun p _ => congrFun (lpS_k (by decide)) _, fun i _ k hk => lpS_l (fun q => by subst q; revert hk; decide) (by omega)⟩) (fun _ _ => rfl) (fun _ _ _ _ => by rw [lpS_J (by decide) (by decide)]) (fun x hx i hi => lpS_24 (by omega))
  · refine congrFun (lpS_k (fun q => ?_)) _
    revert q hk; revert k; decide
  · by_cases q : k = 20
    · subst q; exact lpS_20 (by omega)
    · refine congrFun (lpS_k (fun q' => ?_)) _
      revert q' q hk; revert k; decide
/-! what holds of the states -/
theorem WF_cf {j : Nat} {v : Int64} (hW : WF E S) (hj : j < nfac (S.1 2 s)) (hs : s < S.1 1 0) (hv : vb (S.1 3 s) v) : WF E (uJ S 7 (5 * s + j) v) := by
  have h5 := nfac_5 (S.1 2 s)
  refine ⟨hW.1, fun s' h' => ?_, hW.2.2.1, ⟨fun s' h1 h2 => ?_, hW.2.2.2.2⟩⟩
  · obtain ⟨g1, g2, g3, g4, g5, g6, g7, g8, g9, gA, gB, gC, gD⟩ := hW.2.1 s' h'
    refine ⟨g1, g2, g3, g4, g5, g6, g7, g8, fun k hk => ?_, gA, gB, fun k hk h2 => ?_, gD⟩
    · show vb (S.1 3 s') (up2 S.2.1 7 (5 * s + j) v 7 (5 * s' + k))
      by_cases e : 5 * s' + k = 5 * s + j
      · have : s' = s := by omega
        rw [e, up2_same, this]; exact hv
      · rw [up2_j _ _ _ e]; exact g9 k hk
    · have e : ¬ (5 * s' + k = 5 * s + j) := by
        intro e
        have e1 : s' = s := by omega
        subst e1
        have : k = j := by omega
        subst this
        have h2' : nfac (S.1 2 s') ≤ k := h2
        omega
      show up2 S.2.1 7 (5 * s + j) v 7 (5 * s' + k) = 0
      rw [up2_j _ _ _ e]; exact gC k hk h2
  · obtain ⟨q1, q2, q3⟩ := hW.2.2.2.1 s' h1 h2
    refine ⟨q1, q2, fun z hz => ?_⟩
    have h1' : S.1 1 0 ≤ s' := h1
    show up2 S.2.1 7 (5 * s + j) v 7 (5 * s' + z) = 0
    rw [up2_j _ _ _ (by omega)]; exact q3 z hz
theorem WF_rl {r l : Nat} (hW : WF E S) (hf : S.1 3 s = 2) (hr : r ≤ 2) (hl : l ≤ 1) : WF E (uN (uN S 5 s r) 6 s l) := by
  refine ⟨hW.1, fun s' h' => ?_, hW.2.2.1, hW.2.2.2⟩
  obtain ⟨g1, ⟨g2, g3⟩, g4, g5⟩ := hW.2.1 s' h'
  by_cases e : s' = s
  · subst e
    refine ⟨g1, ⟨?_, ?_⟩, fun q => ?_, g5⟩
    · simp [uN, up2]; exact hr
    · simp [uN, up2]; exact hl
    · have : S.1 3 s' < 2 := q
      omega
  · refine ⟨g1, ⟨?_, ?_⟩, fun q => ?_, g5⟩
    · simpa [uN, up2, e] using g2
    · simpa [uN, up2, e] using g3
    · have := g4 q
      refine ⟨?_, ?_, this.2.2⟩
      · simpa [uN, up2, e] using this.1
      · simpa [uN, up2, e] using this.2.1
theorem WF_in (hWF : WF E S) (hd : d < S.1 16 0) (hs : s < S.1 1 0) (hk : S.1 2 s = 15) (h10 : S.1 10 s = 0) (h19 : S.1 19 d = 0) (hh : ∃ c, S.1 8 s = c + 1 ∧ d < c) (h0 : S.1 17 d ≠ 0) (hr : ∀ p, p < S.1 17 d → rtf S d p = false) (hsort : cso S d = S.1 3 s) : WF E (inS S s d) := by
  have k1 : (inS S s d).1 1 = S.1 1 := inS_k (by decide)
  have k2 : (inS S s d).1 2 = S.1 2 := inS_k (by decide)
  have k3 : (inS S s d).1 3 = S.1 3 := inS_k (by decide)
  have k16 : (inS S s d).1 16 = S.1 16 := inS_k (by decide)
  have k17 : (inS S s d).1 17 = S.1 17 := inS_k (by decide)
  have k18 : (inS S s d).1 18 = S.1 18 := inS_k (by decide)
  have k20 : (inS S s d).1 20 = S.1 20 := inS_k (by decide)
  have k44 : (inS S s d).1 44 = S.1 44 := inS_k (by decide)
  have er : ∀ x, rln (inS S s d) x = rln S x := fun x => by unfold rln; rw [k2]; rfl
  have ev : ∀ x, vso (inS S s d) x = vso S x := fun x => by unfold vso; rw [k2, k3]
  have ec : ∀ x, cso (inS S s d) x = cso S x := fun x => by unfold cso; rw [k18, k3]
  have ss : ∀ x, x ≠ s → Ss S (inS S s d) x := fun x e => ⟨fun k hk => by
    simp only [List.mem_cons, List.not_mem_nil, or_false] at hk
    rcases hk with rfl | rfl | rfl | rfl | rfl | rfl | rfl | rfl | rfl <;> first | exact congrFun (inS_k (by decide)) _ | exact inS_10 e, fun _ _ => rfl, rfl, rfl, rfl⟩
  refine ⟨?_, fun s' h => ?_, fun c' h => ?_, fun s' h1 h2 => ?_, fun c' h1 h2 => ?_, hWF.2.2.2.2.2⟩
  · rw [k1, k16, k44]; exact hWF.1
  · rw [k1] at h
    by_cases e : s' = s
    · subst e
      obtain ⟨g1, g2, g3, g4, g5, g6, g7⟩ := hWF.2.1 s' hs
      unfold WFs
      rw [er, ev, k2, k3, k16, k17, k18, inS_10s, inS_k (k := 5) (by decide), inS_k (k := 6) (by decide), inS_k (k := 8) (by decide), inS_k (k := 9) (by decide), inS_k (k := 14) (by decide), inS_k (k := 70) (by decide)]
      refine ⟨g1, g2, g3, fun q => ?_, g5, fun d' hd' => ?_, g7⟩
      · obtain ⟨c, h1, h2⟩ := hh
        rw [h1] at q; cases q
      · have : d' = d := by omega
        subst this
        obtain ⟨c, h1, h2⟩ := hh
        exact ⟨hk, hd, inS_19d, c, h1, h2, by rw [ec]; exact hsort⟩
    · have w := hWF.2.1 s' h
      refine WFs_ss (S := S) (ss s' e) (by rw [k16]; exact Nat.le_refl _) (fun x hx => ⟨by rw [k17]; exact Nat.le_refl _, fun p _ => by rw [k18]⟩) (fun x _ hx' => inS_19 (fun q => ?_)) (fun x _ _ => ec x) w
      subst q
      have := (w.2.2.2.2.2.1 x hx').2.2.1
      rw [h19] at this; cases this
  · rw [k16] at h
    by_cases e : c' = d
    · subst e
      obtain ⟨g1, g2, g3, g4, g5, g6, g7⟩ := hWF.2.2.1 c' h
      unfold WFc
      rw [k17, k18, k20, k2, k3, ec, inS_19d, inS_k (k := 8) (by decide), inS_k (k := 9) (by decide), inS_k (k := 28) (by decide)]
      refine ⟨g1, fun p hp => by rw [k1]; exact g2 p hp, fun x hx' => ?_, g4, fun i hi => ?_, g6, g7⟩
      · have : x = s := by omega
        subst this
        exact ⟨by rw [k1]; exact hs, inS_10s, h0, hr⟩
      · have := g5 i hi
        unfold WFl at this ⊢
        rw [inS_k (k := 21) (by decide), inS_k (k := 22) (by decide), inS_k (k := 23) (by decide), inS_k (k := 26) (by decide), k17, k18, k2, ec]
        exact this
    · refine WFc_sm (S := S) (fun k hk => ?_) (fun p hp => by rw [k18]) (fun k hk i _ => ?_) (fun _ _ => rfl) (fun p hp k hk => ?_) (fun x hx => inS_10 (fun q => ?_)) (by rw [k1]; exact Nat.le_refl _) (hWF.2.2.1 c' h)
      · simp only [List.mem_cons, List.not_mem_nil, or_false] at hk
        rcases hk with rfl | rfl | rfl | rfl <;> first | exact congrFun (inS_k (by decide)) _ | exact inS_19 e
      · refine congrFun (inS_k (fun q => ?_)) _
        revert q hk; revert k; decide
      · refine congrFun (inS_k (fun q => ?_)) _
        revert q hk; revert k; decide
      · subst q
        have := ((hWF.2.2.1 c' h).2.2.1 x hx).2.1
        rw [h10] at this; cases this
  · rw [k1] at h1
    exact hWF.2.2.2.1 s' h1 h2
  · rw [k16] at h1
    rw [k17, k18]
    exact hWF.2.2.2.2.1 c' h1 h2
/-! the steps -/
def cfS (S0 : ST) (st s n : Nat) : Nat → ST → ST
  | 0, S => S
  | j + 1, S => uJ (cfS S0 st s n j S) 7 (5 * n + j) (trB (S0.1 3 s) st (g_R_isPlain (i32 (S0.1 2 s))) (S0.2.1 7 (5 * s + j)))
def rlS (S0 : ST) (st s n : Nat) (S : ST) : ST := if S0.1 3 s = 2 ∧ st = 2 then uN (uN S 5 n (S0.1 5 s)) 6 n (S0.1 6 s) else S
/-- a section of another made anew -/
def cpS (S0 : ST) (st s : Nat) (S : ST) : ST := rlS S0 st s (S.1 1 0) (cfS S0 st s (S.1 1 0) (nfac (S0.1 2 s)) (secS S (S0.1 2 s) st (S0.2.2 4 s)))
abbrev CM : Type := ST × (Nat → Nat) × (Nat → Nat)
/-- the members from the first on: their numbers, the chains within them -/
def cmS (rec : Nat → ST → ST) (S0 : ST) (st c : Nat) : Nat → ST → CM
  | 0, S => (S, fun _ => 0, fun _ => 0)
  | p + 1, S => (cpS S0 st (S0.1 18 (10 * c + p)) (if S0.1 10 (S0.1 18 (10 * c + p)) = 0 then (cmS rec S0 st c p S).1 else rec (S0.1 10 (S0.1 18 (10 * c + p)) - 1) (cmS rec S0 st c p S).1),
      up1 (cmS rec S0 st c p S).2.1 p ((if S0.1 10 (S0.1 18 (10 * c + p)) = 0 then (cmS rec S0 st c p S).1 else rec (S0.1 10 (S0.1 18 (10 * c + p)) - 1) (cmS rec S0 st c p S).1).1 1 0),
      up1 (cmS rec S0 st c p S).2.2 p (if S0.1 10 (S0.1 18 (10 * c + p)) = 0 then 0 else (rec (S0.1 10 (S0.1 18 (10 * c + p)) - 1) (cmS rec S0 st c p S).1).1 16 0))
def jnL (n' : Nat) (a : Nat → Nat) : Nat → ST → ST
  | 0, S => S
  | p + 1, S => jnS (jnL n' a p S) n' (a p)
def inL (a b : Nat → Nat) : Nat → ST → ST
  | 0, S => S
  | p + 1, S => if b p = 0 then inL a b p S else inS (inL a b p S) (a p) (b p - 1)
def lpL (S0 : ST) (st c n' : Nat) : Nat → ST → ST
  | 0, S => S
  | i + 1, S => lpS (lpL S0 st c n' i S) n' (S0.1 22 (3 * c + i)) (S0.1 21 (3 * c + i)) (S0.1 23 (3 * c + i)) (trB (cso S0 c) st false (S0.2.1 24 (3 * c + i)))
def fnS (S0 : ST) (st c : Nat) (x : CM) : ST := lpL S0 st c (x.1.1 16 0) (S0.1 20 c) (inL x.2.1 x.2.2 (S0.1 17 c) (jnL (x.1.1 16 0) x.2.1 (S0.1 17 c) (chS x.1)))
/-- a chain made anew, and all within it -/
def cvS (S0 : ST) (st : Nat) : Nat → Nat → ST → ST
  | 0, _, S => S
  | f + 1, c, S => fnS S0 st c (cmS (cvS S0 st f) S0 st c (S0.1 17 c) S)
/-- a sum over a chain and all within it -/
def wti (rec : Nat → Nat) (S0 : ST) (c : Nat) : Nat → Nat
  | 0 => 0
  | p + 1 => wti rec S0 c p + if S0.1 10 (S0.1 18 (10 * c + p)) = 0 then 0 else rec (S0.1 10 (S0.1 18 (10 * c + p)) - 1)
def wt (w : Nat → Nat) (S0 : ST) : Nat → Nat → Nat
  | 0, _ => 0
  | f + 1, c => w c + wti (wt w S0 f) S0 c (S0.1 17 c)
end STATES
