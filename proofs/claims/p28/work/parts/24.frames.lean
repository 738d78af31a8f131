/-! one change: what stays -/
section FRAMES
variable {B : Nat} {S : ST} {C : CT} {T : MT}
theorem cw_csI {k a j : Nat} {v : Int32} (hw : CW B C) (ht : C.1 a ≠ 0) : CW B (csI C k a j v) := by
  refine ⟨hw.1, hw.2.1, fun x hx y z => ?_⟩
  have h1 := hw.2.1 a ht
  have h2 := hw.2.2 x hx y z
  refine ⟨?_, h2.2.1, h2.2.2.1, h2.2.2.2⟩
  have hx' : (ck C).1 ≤ x := hx
  have : x ≠ a := by omega
  simp [csI, up3, this, h2.1]
theorem cw_csJ {k a j : Nat} {v : Int64} (hw : CW B C) (ht : C.1 a ≠ 0) : CW B (csJ C k a j v) := by
  refine ⟨hw.1, hw.2.1, fun x hx y z => ?_⟩
  have h1 := hw.2.1 a ht
  have h2 := hw.2.2 x hx y z
  refine ⟨h2.1, ?_, h2.2.2.1, h2.2.2.2⟩
  have hx' : (ck C).1 ≤ x := hx
  have : x ≠ a := by omega
  simp [csJ, up3, this, h2.2.1]
theorem cw_csA {k a j : Nat} {v : Option Nat} (hw : CW B C) (ht : C.1 a ≠ 0) : CW B (csA C k a j v) := by
  refine ⟨hw.1, hw.2.1, fun x hx y z => ?_⟩
  have h1 := hw.2.1 a ht
  have h2 := hw.2.2 x hx y z
  refine ⟨h2.1, h2.2.1, ?_, h2.2.2.2⟩
  have hx' : (ck C).1 ≤ x := hx
  have : x ≠ a := by omega
  simp [csA, up3, this, h2.2.2.1]
/-- a number of both that no value's sort hangs on -/
theorem rt_uN (h : RT S T) {k j v : Nat} (hk : k ∈ rtN) (h2 : k ≠ 2) (h3 : k ≠ 3) (h18 : k ≠ 18) : RT (uN S k j v) (tsI T k j (i32 v)) := by
  obtain ⟨a1, a2, a3, a4, a5, a6, a7, a8, a9, b1, b2, b3⟩ := h
  have hd : ∀ x, x ∈ rtN → x ∉ rtC ∧ x ∉ rtM ∧ x ∉ rtI := by decide
  have e3 : ∀ x, (uN S k j v).1 3 x = S.1 3 x := fun x => up2_k _ _ _ _ (Ne.symm h3)
  have e2 : ∀ x, (uN S k j v).1 2 x = S.1 2 x := fun x => up2_k _ _ _ _ (Ne.symm h2)
  have e18 : ∀ x, (uN S k j v).1 18 x = S.1 18 x := fun x => up2_k _ _ _ _ (Ne.symm h18)
  have ec : ∀ x, cso (uN S k j v) x = cso S x := fun x => by unfold cso; rw [e18, e3]
  have ev : ∀ x, vso (uN S k j v) x = vso S x := fun x => by unfold vso; rw [e2, e3]
  refine ⟨fun x hx y => ?_, fun x hx => ?_, fun x hx y => ?_, fun x hx y => ?_, a5, fun y => ?_, fun y => ?_, fun y => ?_, fun y => ?_, fun y => ?_, fun y => ?_, fun y => ?_⟩
  · by_cases e : x = k ∧ y = j
    · obtain ⟨rfl, rfl⟩ := e
      simp [tsI, uN, up2]
    · have : T.1 x y = i32 (S.1 x y) := a1 x hx y
      simp only [tsI, uN, up2, if_neg e, this]
  · have : x ≠ k := fun e => (hd k hk).1 (e ▸ hx)
    simp only [tsI, uN, up2, this, false_and, if_false]; exact a2 x hx
  · have : x ≠ k := fun e => (hd k hk).2.1 (e ▸ hx)
    simp only [tsI, uN, up2, this, false_and, if_false]; exact a3 x hx y
  · have : x ≠ k := fun e => (hd k hk).2.2 (e ▸ hx)
    simp only [tsI, uN, up2, this, false_and, if_false]; exact a4 x hx y
  · rw [e3]; exact a6 y
  · rw [ev]; exact a7 y
  · rw [ec]; exact a8 y
  · rw [ec]; exact a9 y
  · rw [ec]; exact b1 y
  · rw [ev]; exact b2 y
  · rw [ec]; exact b3 y
/-- the reference's scratch -/
theorem rt_scI (h : RT S T) {k j : Nat} {v : Int32} (hk : k ∉ rtN ∧ k ∉ rtC ∧ k ∉ rtM ∧ k ∉ rtI) : RT S (tsI T k j v) := by
  obtain ⟨a1, a2, a3, a4, a5, r⟩ := h
  refine ⟨fun x hx y => ?_, fun x hx => ?_, fun x hx y => ?_, fun x hx y => ?_, a5, r⟩
  · have : x ≠ k := fun e => hk.1 (e ▸ hx)
    simp only [tsI, up2, this, false_and, if_false]; exact a1 x hx y
  · have : x ≠ k := fun e => hk.2.1 (e ▸ hx)
    simp only [tsI, up2, this, false_and, if_false]; exact a2 x hx
  · have : x ≠ k := fun e => hk.2.2.1 (e ▸ hx)
    simp only [tsI, up2, this, false_and, if_false]; exact a3 x hx y
  · have : x ≠ k := fun e => hk.2.2.2 (e ▸ hx)
    simp only [tsI, up2, this, false_and, if_false]; exact a4 x hx y
theorem rt_scJ (h : RT S T) {k j : Nat} {v : Int64} (hk : k ∉ rtJ) : RT S (tsJ T k j v) := by
  obtain ⟨a1, a2, a3, a4, a5, r⟩ := h
  refine ⟨a1, a2, a3, a4, fun x hx y => ?_, r⟩
  have : x ≠ k := fun e => hk (e ▸ hx)
  simp only [tsJ, up2, this, false_and, if_false]; exact a5 x hx y
theorem rt_scD (h : RT S T) {k j : Nat} {v : UInt64} (hk : k ≠ 7 ∧ k ≠ 13 ∧ k ≠ 24 ∧ k ≠ 25 ∧ k ≠ 27 ∧ k ≠ 46 ∧ k ≠ 49) : RT S (tsD T k j v) := by
  obtain ⟨a1, a2, a3, a4, a5, a6, a7, a8, a9, b1, b2, b3⟩ := h
  obtain ⟨k1, k2, k3, k4, k5, k6, k7⟩ := hk
  refine ⟨a1, a2, a3, a4, a5, fun y => ?_, fun y => ?_, fun y => ?_, fun y => ?_, fun y => ?_, fun y => ?_, fun y => ?_⟩ <;> simp only [tsD, up2, Ne.symm k1, Ne.symm k2, Ne.symm k3, Ne.symm k4, Ne.symm k5, Ne.symm k6, Ne.symm k7, false_and, if_false] <;> first | exact a6 y | exact a7 y | exact a8 y | exact a9 y | exact b1 y | exact b2 y | exact b3 y
theorem rt_uI (h : RT S T) {k j : Nat} {v : Int32} (hk : k ∈ rtI) : RT (uI S k j v) (tsI T k j v) := by
  obtain ⟨a1, a2, a3, a4, a5, r⟩ := h
  have hd : ∀ x, x ∈ rtI → x ∉ rtN ∧ x ∉ rtC ∧ x ∉ rtM := by decide
  refine ⟨fun x hx y => ?_, fun x hx => ?_, fun x hx y => ?_, fun x hx y => ?_, a5, r⟩
  · have : x ≠ k := fun e => (hd k hk).1 (e ▸ hx)
    simp only [tsI, up2, this, false_and, if_false]; exact a1 x hx y
  · have : x ≠ k := fun e => (hd k hk).2.1 (e ▸ hx)
    simp only [tsI, up2, this, false_and, if_false]; exact a2 x hx
  · have : x ≠ k := fun e => (hd k hk).2.2 (e ▸ hx)
    simp only [tsI, up2, this, false_and, if_false]; exact a3 x hx y
  · by_cases e : x = k ∧ y = j
    · obtain ⟨rfl, rfl⟩ := e
      simp [tsI, uI, up2]
    · have : T.1 x y = S.2.2 x y := a4 x hx y
      simp only [tsI, uI, up2, if_neg e, this]
theorem rt_uJ (h : RT S T) {k j : Nat} {v : Int64} (hk : k ∈ rtJ) : RT (uJ S k j v) (tsJ T k j v) := by
  obtain ⟨a1, a2, a3, a4, a5, a6, a7, a8, a9, b1, b2, b3⟩ := h
  have hd : ∀ x, x ∈ rtJ → x ≠ 7 ∧ x ≠ 13 ∧ x ≠ 24 ∧ x ≠ 25 ∧ x ≠ 27 ∧ x ≠ 46 ∧ x ≠ 49 := by decide
  obtain ⟨k1, k2, k3, k4, k5, k6, k7⟩ := hd k hk
  have eN : ∀ (x : Nat) (y : Nat), x ≠ k → (uJ S k j v).2.1 x y = S.2.1 x y := fun x y e => up2_k _ _ _ _ e
  refine ⟨a1, a2, a3, a4, fun x hx y => ?_, fun y => ?_, fun y => ?_, fun y => ?_, fun y => ?_, fun y => ?_, fun y => ?_, fun y => ?_⟩
  · by_cases e : x = k ∧ y = j
    · obtain ⟨rfl, rfl⟩ := e
      simp [tsJ, uJ, up2]
    · have : T.2.1 x y = S.2.1 x y := a5 x hx y
      simp only [tsJ, uJ, up2, if_neg e, this]
  · rw [eN _ _ (Ne.symm k1)]; exact a6 y
  · rw [eN _ _ (Ne.symm k2)]; exact a7 y
  · rw [eN _ _ (Ne.symm k3)]; exact a8 y
  · rw [eN _ _ (Ne.symm k4)]; exact a9 y
  · rw [eN _ _ (Ne.symm k5)]; exact b1 y
  · rw [eN _ _ (Ne.symm k6)]; exact b2 y
  · rw [eN _ _ (Ne.symm k7)]; exact b3 y
/-- a value of both -/
theorem rt_uD (h : RT S T) {k j so : Nat} {v : Int64} (hk : k = 7 ∧ so = S.1 3 (j / 5) ∨ k = 13 ∧ so = vso S (j / 64) ∨ k = 24 ∧ so = cso S (j / 3) ∨ k = 25 ∧ so = cso S (j / 64 / 3) ∨ k = 27 ∧ so = cso S (j / 400) ∨ k = 46 ∧ so = vso S (j / 64 % 60) ∨ k = 49 ∧ so = cso S (j / 64 % 60 / 3)) : RT (uJ S k j v) (tsD T k j (dv so v)) := by
  obtain ⟨a1, a2, a3, a4, a5, a6, a7, a8, a9, b1, b2, b3⟩ := h
  have eJ : ∀ x, x ∈ rtJ → ∀ y, (uJ S k j v).2.1 x y = S.2.1 x y := fun x hx y => up2_k _ _ _ _ (by
    have hd : ∀ x, x ∈ rtJ → x ≠ 7 ∧ x ≠ 13 ∧ x ≠ 24 ∧ x ≠ 25 ∧ x ≠ 27 ∧ x ≠ 46 ∧ x ≠ 49 := by decide
    obtain ⟨d1, d2, d3, d4, d5, d6, d7⟩ := hd x hx
    rcases hk with h | h | h | h | h | h | h <;> rw [h.1] <;> assumption)
  refine ⟨a1, a2, a3, a4, fun x hx y => by rw [eJ x hx]; exact a5 x hx y, fun y => ?_, fun y => ?_, fun y => ?_, fun y => ?_, fun y => ?_, fun y => ?_, fun y => ?_⟩
  all_goals
    by_cases ek : ∃ q, k = q ∧ y = j
    · rcases hk with ⟨rfl, rfl⟩ | ⟨rfl, rfl⟩ | ⟨rfl, rfl⟩ | ⟨rfl, rfl⟩ | ⟨rfl, rfl⟩ | ⟨rfl, rfl⟩ | ⟨rfl, rfl⟩ <;> obtain ⟨-, -, rfl⟩ := ek <;> simp only [tsD, uJ, up2] <;> first | (simp [vso, cso]; done) | (simp; first | exact a6 y | exact a7 y | exact a8 y | exact a9 y | exact b1 y | exact b2 y | exact b3 y)
    · have e2 : ¬ y = j := fun e => ek ⟨k, rfl, e⟩
      simp only [tsD, uJ, up2, e2, and_false, if_false]
      first | exact a6 y | exact a7 y | exact a8 y | exact a9 y | exact b1 y | exact b2 y | exact b3 y
end FRAMES
