/-! where things lie -/
section NORM
variable {G : GT} {E B bx m : Nat} {ad : Nat → Nat} {S : ST} {A : AT} {C : CT} {T : MT}
/-- what there is has a tag -/
theorem va_tag (J : JJ G E B bx m ad S A C T) {t i : Nat} (h : VA S t i) (h0 : t ≠ 0) : C.1 (A t i) ≠ 0 := by
  obtain ⟨hJ, ⟨hb, hs, hc, hx⟩, hRT, hWF, hRK, hRD⟩ := J
  unfold VA at h
  split at h
  · have := hb.2.2.2
    have e : i = 0 ∨ i = 1 ∨ i = 2 ∨ i = 3 := by omega
    rcases e with rfl | rfl | rfl | rfl
    · rw [this.1.1]; decide
    · rw [this.2.1.1]; decide
    · rw [this.2.2.1.1]; decide
    · rw [this.2.2.2.1.1]; decide
  · have := hb.2.2.1
    have e : i = 0 ∨ i = 1 ∨ i = 2 := by omega
    rcases e with rfl | rfl | rfl
    · rw [this.2.1.1]; decide
    · rw [this.2.2.1]; decide
    · rw [this.1]; decide
  · subst h; rw [hb.2.2.2.2.2.2.2]; decide
  · rw [(hs i h).1.1]; decide
  · rw [(hs i h).2.2.1.1]; decide
  · rw [(hs i h).2.2.2.1]; decide
  · rw [(hs i h).2.2.2.2.2.2.1]; decide
  · rw [(hs i h).2.1.2.2.1.2.1]; decide
  · rw [(hs i h).2.1.2.2.1.2.2.2.2.1]; decide
  · rw [(hc i h).1.1]; decide
  · rw [(hc i h).2.1.1]; decide
  · rw [(hc i h).2.2.1.1]; decide
  · rw [(hc i h).2.2.2.1.1]; decide
  · have := (hc _ h.1).2.2.2.2 _ h.2
    rw [show 3 * (i / 3) + i % 3 = i from Nat.div_add_mod i 3] at this
    rw [this.1.1]; decide
  · have := (hc _ h.1).2.2.2.2 _ h.2
    rw [show 3 * (i / 3) + i % 3 = i from Nat.div_add_mod i 3] at this
    rw [this.2.1]; decide
  · have := (hc _ h.1).2.2.2.2 _ h.2
    rw [show 3 * (i / 3) + i % 3 = i from Nat.div_add_mod i 3] at this
    rw [this.2.2.2.2.1]; decide
  · rw [(hRK i h).1.1]; decide
  · rw [(hRK i h).2.2.1.1]; decide
  · rw [(hRK i h).2.2.2.1]; decide
  · exact absurd rfl h0
  · exact h.elim
/-- what there is lies below; what is not made yet may be thought far above -/
theorem jj_norm (J : JJ G E B bx m ad S A C T) : ∃ A', JJ G E B bx m ad S A' C T ∧ (∀ t i, t ≠ 0 → A' t i = A t i) ∧ (∀ t i, VA S t i → A' t i < (ck C).1 ∨ (ck C).1 + 1000 ≤ A' t i) ∧ (C.2.2.2.2.1 37 (A' 2 0) 0 ≠ none → ∀ i, i ∈ [1, 2] → A' 0 i < (ck C).1) := by
  have hJ := J
  obtain ⟨⟨w1, w2, w3⟩, ⟨hb, hs, hc, hx⟩, hRT, hWF, hRK, hRD⟩ := J
  have hd : ∀ i, i ∈ [1, 2] → C.2.2.2.2.1 37 (A 2 0) 0 ≠ none → A 0 i < (ck C).1 := by
    intro i hi hn
    rcases hRD with h | ⟨g1, g2, g3, g4, g5, g6, g7⟩
    · exact absurd h.1 hn
    · have e : i = 1 ∨ i = 2 := by simpa using hi
      rcases e with rfl | rfl
      · exact (w1.2.1 _ (by rw [g3]; decide)).2
      · exact (w1.2.1 _ (by rw [g5]; decide)).2
  let A' : AT := fun t i => if t = 0 ∧ (i = 0 ∨ C.2.2.2.2.1 37 (A 2 0) 0 = none) then (ck C).1 + 1000 + i else A t i
  have e : ∀ t i, t ≠ 0 → A' t i = A t i := fun t i h => if_neg (fun q => h q.1)
  have eo : ∀ t n, t ≠ 0 → oA A' t n = oA A t n := fun t n h => by
    cases n with
    | zero => rfl
    | succ n => exact congrArg some (e t n h)
  have hva : ∀ t i, VA S t i → t ≠ 0 → A t i < (ck C).1 := fun t i h h0 => (w1.2.1 _ (va_tag hJ h h0)).2
  refine ⟨A', ⟨⟨w1, w2, ?_⟩, ⟨?_, fun s h => ?_, fun c h => ?_, ?_⟩, hRT, hWF, ?_, ?_⟩, e, fun t i h => ?_, fun hn i hi => ?_⟩
  · intro z hz
    exact w3 z (by rw [hz, e 2 0 (by decide)])
  · unfold RCb at hb ⊢
    simp only [e 5 _ (by decide), e 3 _ (by decide), e 2 _ (by decide), e 7 _ (by decide), e 1 _ (by decide), e 48 _ (by decide)]
    exact hb
  · refine RCs_ag (S := S) (A := A) (C := C) ⟨fun _ _ => rfl, fun _ _ => rfl, rfl, rfl, rfl⟩ (fun t ht => ⟨e t s (fun q => by subst q; revert ht; decide), Ag.refl _ _⟩) (e 5 _ (by decide)) (eo 1 _ (by decide)) (eo 1 _ (by decide)) (hs s h)
  · refine RCc_ag (S := S) (A := A) (C := C) (fun _ _ => rfl) (fun p hp => ⟨rfl, e 7 _ (by decide)⟩) rfl (fun t ht => ⟨e t c (fun q => by subst q; revert ht; decide), Ag.refl _ _⟩) (eo 7 _ (by decide)) (fun i hi => e 4 _ (by decide)) (fun i hi => ?_) (hc c h)
    exact RCl_ag (S := S) (A := A) (C := C) (fun _ _ => rfl) rfl rfl (fun t ht => ⟨e t _ (fun q => by subst q; revert ht; decide), Ag.refl _ _⟩) ((hc c h).2.2.2.2 i hi)
  · intro t i t' i' h h' heq
    by_cases q : t = 0
    · subst q
      by_cases q' : t' = 0
      · subst q'
        refine ⟨rfl, ?_⟩
        have hi : i < 3 := h
        have hi' : i' < 3 := h'
        by_cases c1 : (i = 0 ∨ C.2.2.2.2.1 37 (A 2 0) 0 = none)
        · have e1 : A' 0 i = (ck C).1 + 1000 + i := if_pos ⟨rfl, c1⟩
          by_cases c2 : (i' = 0 ∨ C.2.2.2.2.1 37 (A 2 0) 0 = none)
          · have e2 : A' 0 i' = (ck C).1 + 1000 + i' := if_pos ⟨rfl, c2⟩
            omega
          · have e2 : A' 0 i' = A 0 i' := if_neg (fun q => c2 q.2)
            have := hd i' (by have : i' = 1 ∨ i' = 2 := by have := fun q => c2 (Or.inl q); omega
                              simpa using this) (fun q => c2 (Or.inr q))
            omega
        · have e1 : A' 0 i = A 0 i := if_neg (fun q => c1 q.2)
          have := hd i (by have : i = 1 ∨ i = 2 := by have := fun q => c1 (Or.inl q); omega
                           simpa using this) (fun q => c1 (Or.inr q))
          by_cases c2 : (i' = 0 ∨ C.2.2.2.2.1 37 (A 2 0) 0 = none)
          · have e2 : A' 0 i' = (ck C).1 + 1000 + i' := if_pos ⟨rfl, c2⟩
            omega
          · have e2 : A' 0 i' = A 0 i' := if_neg (fun q => c2 q.2)
            rw [e1, e2] at heq
            exact (hx 0 i 0 i' h h' heq).2
      · rw [e t' i' q'] at heq
        have hlt := hva t' i' h' q'
        by_cases c1 : (i = 0 ∨ C.2.2.2.2.1 37 (A 2 0) 0 = none)
        · have e1 : A' 0 i = (ck C).1 + 1000 + i := if_pos ⟨rfl, c1⟩
          omega
        · have e1 : A' 0 i = A 0 i := if_neg (fun q => c1 q.2)
          rw [e1] at heq
          exact hx 0 i t' i' h h' heq
    · rw [e t i q] at heq
      have hlt := hva t i h q
      by_cases q' : t' = 0
      · subst q'
        by_cases c1 : (i' = 0 ∨ C.2.2.2.2.1 37 (A 2 0) 0 = none)
        · have e1 : A' 0 i' = (ck C).1 + 1000 + i' := if_pos ⟨rfl, c1⟩
          omega
        · have e1 : A' 0 i' = A 0 i' := if_neg (fun q => c1 q.2)
          rw [e1] at heq
          exact hx t i 0 i' h h' heq
      · rw [e t' i' q'] at heq
        exact hx t i t' i' h h' heq
  · exact RK_ag (S := S) (A := A) (C := C) ⟨fun _ _ => rfl, fun _ _ => rfl, Nat.le_refl _, fun c hc => ⟨Nat.le_refl _, Nat.le_refl _, fun _ _ => ⟨rfl, ⟨rfl, rfl, rfl⟩, Or.inr rfl⟩, fun _ _ => rfl⟩⟩ (fun t ht k _ => ⟨e t k (fun q => by subst q; revert ht; decide), Ag.refl _ _⟩) (fun c _ => e 1 c (by decide)) hRK
  · refine RD_ag (A := A) (C := C) ⟨e 2 0 (by decide), Ag.refl _ _⟩ (fun hn i hi => ⟨if_neg (fun q => ?_), Ag.refl _ _⟩) hRD
    rcases q.2 with q | q
    · subst q; revert hi; decide
    · exact hn q
  · by_cases q : t = 0
    · subst q
      by_cases c1 : (i = 0 ∨ C.2.2.2.2.1 37 (A 2 0) 0 = none)
      · have e1 : A' 0 i = (ck C).1 + 1000 + i := if_pos ⟨rfl, c1⟩
        omega
      · have e1 : A' 0 i = A 0 i := if_neg (fun q => c1 q.2)
        have hi : i < 3 := h
        have := hd i (by have : i = 1 ∨ i = 2 := by have := fun q => c1 (Or.inl q); omega
                         simpa using this) (fun q => c1 (Or.inr q))
        omega
    · rw [e t i q]
      exact Or.inl (hva t i h q)
  · rw [e 2 0 (by decide)] at hn
    have e1 : A' 0 i = A 0 i := if_neg (fun q => by
      rcases q.2 with q | q
      · subst q; revert hi; decide
      · exact hn q)
    rw [e1]; exact hd i hi hn
/-- new things, apart from the old -/
theorem ax_grow {S' : ST} {A' : AT} {q n : Nat} {o : Nat → Nat} {D : Nat → Prop} (hx : AX S A) (hl : ∀ t i, VA S t i → A t i < q ∨ q + 1000 ≤ A t i)
    (hn : ∀ t i, VA S' t i → (VA S t i ∧ A' t i = A t i) ∨ (i = n ∧ D t ∧ A' t i = q + o t ∧ o t < 1000)) (hi : ∀ t t', D t → D t' → o t = o t' → t = t') : AX S' A' := by
  intro t i t' i' h h' heq
  rcases hn t i h with ⟨a1, a2⟩ | ⟨a1, a2, a3, a4⟩
  · rcases hn t' i' h' with ⟨b1, b2⟩ | ⟨b1, b2, b3, b4⟩
    · rw [a2, b2] at heq; exact hx t i t' i' a1 b1 heq
    · have := hl t i a1
      omega
  · rcases hn t' i' h' with ⟨b1, b2⟩ | ⟨b1, b2, b3, b4⟩
    · have := hl t' i' b1
      omega
    · exact ⟨hi t t' a2 b2 (by omega), by omega⟩
end NORM
