/-! a loop is silenced: the state -/
section SILLOOP
variable {G : GT} {E B bx m : Nat} {ad : Nat → Nat} {S : ST} {A : AT} {C : CT} {T : MT} {l : Nat}
def elS (S : ST) (l : Nat) : ST := (fun k j => if k = 26 ∧ j = l then 0 else S.1 k j, fun k j => if k = 25 ∧ 64 * l ≤ j ∧ j < 64 * l + 64 then 0 else S.2.1 k j, S.2.2)
theorem elS_k {k : Nat} (h : k ≠ 26) : (elS S l).1 k = S.1 k := by
  funext j
  simp only [elS, h, false_and, if_false]
theorem elS_26 {j : Nat} (h : j ≠ l) : (elS S l).1 26 j = S.1 26 j := by simp [elS, h]
theorem elS_26l : (elS S l).1 26 l = 0 := by simp [elS]
theorem elS_J {k : Nat} (h : k ≠ 25) : (elS S l).2.1 k = S.2.1 k := by
  funext j
  simp only [elS, h, false_and, if_false]
theorem elS_25 {j : Nat} (h : j < 64 * l ∨ 64 * l + 64 ≤ j) : (elS S l).2.1 25 j = S.2.1 25 j := by
  have : ¬ (64 * l ≤ j ∧ j < 64 * l + 64) := by omega
  simp [elS, this]
theorem elS_25s {j : Nat} (h : j < 64) : (elS S l).2.1 25 (64 * l + j) = 0 := by
  have h1 : 64 * l ≤ 64 * l + j := by omega
  simp [elS, h, h1]
theorem rt_el (hR : RT S T) : RT (elS S l) (tsI (zD T 25 (64 * l) (64 * l + 64)) 26 l 0) := by
  obtain ⟨a1, a2, a3, a4, a5, a6, a7, a8, a9, b1, b2, b3⟩ := hR
  have k3 : (elS S l).1 3 = S.1 3 := elS_k (by decide)
  have k2 : (elS S l).1 2 = S.1 2 := elS_k (by decide)
  have k18 : (elS S l).1 18 = S.1 18 := elS_k (by decide)
  have ev : ∀ x, vso (elS S l) x = vso S x := fun x => by unfold vso; rw [k2, k3]
  have ec : ∀ x, cso (elS S l) x = cso S x := fun x => by unfold cso; rw [k18, k3]
  refine ⟨fun k hk j => ?_, fun k hk => ?_, fun k hk j => ?_, fun k hk j => ?_, fun k hk j => ?_, fun j => ?_, fun j => ?_, fun j => ?_, fun j => ?_, fun j => ?_, fun j => ?_, fun j => ?_⟩
  · by_cases q : k = 26 ∧ j = l
    · obtain ⟨rfl, rfl⟩ := q
      rw [elS_26l]; simp [tsI, up2]; rfl
    · simp only [tsI, zD, up2, elS, q, if_false]; exact a1 k hk j
  · have q : k ≠ 26 := fun q => by subst q; revert hk; decide
    simp only [tsI, zD, up2, elS, q, false_and, if_false]; exact a2 k hk
  · have q : k ≠ 26 := fun q => by subst q; revert hk; decide
    simp only [tsI, zD, up2, elS, q, false_and, if_false]; exact a3 k hk j
  · have q : k ≠ 26 := fun q => by subst q; revert hk; decide
    simp only [tsI, zD, up2, elS, q, false_and, if_false]; exact a4 k hk j
  · rw [elS_J (fun q => by subst q; revert hk; decide)]; exact a5 k hk j
  · rw [k3, elS_J (by decide)]
    simp [tsI, zD]; exact a6 j
  · rw [ev, elS_J (by decide)]
    simp [tsI, zD]; exact a7 j
  · rw [ec, elS_J (by decide)]
    simp [tsI, zD]; exact a8 j
  · rw [ec]
    by_cases hj : 64 * l ≤ j ∧ j < 64 * l + 64
    · rw [show j = 64 * l + (j - 64 * l) by omega, elS_25s (by omega), dv_zero, ← show j = 64 * l + (j - 64 * l) by omega]
      simp [tsI, zD, hj]
    · rw [elS_25 (by omega)]
      simp only [tsI, zD, hj, and_false, if_false]
      exact a9 j
  · rw [ec, elS_J (by decide)]
    simp [tsI, zD]; exact b1 j
  · rw [ev, elS_J (by decide)]
    simp [tsI, zD]; exact b2 j
  · rw [ec, elS_J (by decide)]
    simp [tsI, zD]; exact b3 j
end SILLOOP
