/-! a section is silenced: the state -/
section SILSEC
variable {G : GT} {E B bx m : Nat} {ad : Nat → Nat} {S : ST} {A : AT} {C : CT} {T : MT} {c s : Nat}
def slS (S : ST) (s : Nat) : ST := (fun k j => if k = 14 ∧ j = s then 0 else S.1 k j, fun k j => if k = 15 ∧ j = s then 0 else if k = 13 ∧ 64 * s ≤ j ∧ j < 64 * s + 64 then 0 else S.2.1 k j, S.2.2)
theorem slS_k {k : Nat} (h : k ≠ 14) : (slS S s).1 k = S.1 k := by
  funext j
  simp only [slS, h, false_and, if_false]
theorem slS_14 {j : Nat} (h : j ≠ s) : (slS S s).1 14 j = S.1 14 j := by simp [slS, h]
theorem slS_14s : (slS S s).1 14 s = 0 := by simp [slS]
theorem slS_J {k : Nat} (h : k ≠ 15) (h' : k ≠ 13) : (slS S s).2.1 k = S.2.1 k := by
  funext j
  simp only [slS, h, h', false_and, if_false]
theorem slS_15 {j : Nat} (h : j ≠ s) : (slS S s).2.1 15 j = S.2.1 15 j := by simp [slS, h]
theorem slS_15s : (slS S s).2.1 15 s = 0 := by simp [slS]
theorem slS_13 {j : Nat} (h : j < 64 * s ∨ 64 * s + 64 ≤ j) : (slS S s).2.1 13 j = S.2.1 13 j := by
  have : ¬ (64 * s ≤ j ∧ j < 64 * s + 64) := by omega
  simp [slS, this]
theorem slS_13s {j : Nat} (h : j < 64) : (slS S s).2.1 13 (64 * s + j) = 0 := by
  have h1 : 64 * s ≤ 64 * s + j := by omega
  simp [slS, h, h1]
theorem rt_sl (hR : RT S T) : RT (slS S s) (tsJ (tsI (zD T 13 (64 * s) (64 * s + 64)) 14 s 0) 15 s 0) := by
  obtain ⟨a1, a2, a3, a4, a5, a6, a7, a8, a9, b1, b2, b3⟩ := hR
  have k3 : (slS S s).1 3 = S.1 3 := slS_k (by decide)
  have k2 : (slS S s).1 2 = S.1 2 := slS_k (by decide)
  have k18 : (slS S s).1 18 = S.1 18 := slS_k (by decide)
  have ev : ∀ x, vso (slS S s) x = vso S x := fun x => by unfold vso; rw [k2, k3]
  have ec : ∀ x, cso (slS S s) x = cso S x := fun x => by unfold cso; rw [k18, k3]
  refine ⟨fun k hk j => ?_, fun k hk => ?_, fun k hk j => ?_, fun k hk j => ?_, fun k hk j => ?_, fun j => ?_, fun j => ?_, fun j => ?_, fun j => ?_, fun j => ?_, fun j => ?_, fun j => ?_⟩
  · by_cases q : k = 14 ∧ j = s
    · obtain ⟨rfl, rfl⟩ := q
      rw [slS_14s]; simp [tsI, tsJ, up2]; rfl
    · simp only [tsI, tsJ, zD, up2, slS, q, if_false]; exact a1 k hk j
  · have q : k ≠ 14 := fun q => by subst q; revert hk; decide
    simp only [tsI, tsJ, zD, up2, slS, q, false_and, if_false]; exact a2 k hk
  · have q : k ≠ 14 := fun q => by subst q; revert hk; decide
    simp only [tsI, tsJ, zD, up2, slS, q, false_and, if_false]; exact a3 k hk j
  · have q : k ≠ 14 := fun q => by subst q; revert hk; decide
    simp only [tsI, tsJ, zD, up2, slS, q, false_and, if_false]; exact a4 k hk j
  · have h13 : k ≠ 13 := fun q => by subst q; revert hk; decide
    by_cases q : k = 15 ∧ j = s
    · obtain ⟨rfl, rfl⟩ := q
      rw [slS_15s]; simp [tsI, tsJ, up2]
    · simp only [tsI, tsJ, zD, up2, slS, q, h13, false_and, if_false]; exact a5 k hk j
  · rw [k3, slS_J (by decide) (by decide)]
    simp [tsI, tsJ, zD]; exact a6 j
  · rw [ev]
    by_cases hj : 64 * s ≤ j ∧ j < 64 * s + 64
    · rw [show j = 64 * s + (j - 64 * s) by omega, slS_13s (by omega), dv_zero, ← show j = 64 * s + (j - 64 * s) by omega]
      simp [tsI, tsJ, zD, hj]
    · rw [slS_13 (by omega)]
      simp only [tsI, tsJ, zD, hj, and_false, if_false]
      exact a7 j
  · rw [ec, slS_J (by decide) (by decide)]
    simp [tsI, tsJ, zD]; exact a8 j
  · rw [ec, slS_J (by decide) (by decide)]
    simp [tsI, tsJ, zD]; exact a9 j
  · rw [ec, slS_J (by decide) (by decide)]
    simp [tsI, tsJ, zD]; exact b1 j
  · rw [ev, slS_J (by decide) (by decide)]
    simp [tsI, tsJ, zD]; exact b2 j
  · rw [ec, slS_J (by decide) (by decide)]
    simp [tsI, tsJ, zD]; exact b3 j
theorem slS_rln {x : Nat} : rln (slS S s) x = rln S x := by
  unfold rln
  rw [slS_k (k := 2) (by decide)]
  rfl
theorem slS_vso {x : Nat} : vso (slS S s) x = vso S x := by
  unfold vso
  rw [slS_k (k := 2) (by decide), slS_k (k := 3) (by decide)]
theorem WF_sl (hW : WF E S) : WF E (slS S s) := by
  obtain ⟨w0, ws, wc, wz1, wz2, wz3⟩ := hW
  have k : ∀ k, k ≠ 14 → (slS S s).1 k = S.1 k := fun k h => slS_k h
  have j : ∀ k, k ≠ 15 → k ≠ 13 → (slS S s).2.1 k = S.2.1 k := fun k h h' => slS_J h h'
  refine ⟨by rw [k 1 (by decide), k 16 (by decide), k 44 (by decide)]; exact w0, fun x hx => ?_, fun c hc => ?_, fun x h1 h2 => ?_, fun c h1 h2 => ?_, ?_⟩
  · rw [k 1 (by decide)] at hx
    obtain ⟨g1, g2, g3, g4, g5, g6, g7, g8, g9, gA, gB, gC, gD⟩ := ws x hx
    unfold WFs
    rw [slS_rln, slS_vso, k 2 (by decide), k 3 (by decide), k 5 (by decide), k 6 (by decide), k 8 (by decide), k 9 (by decide), k 10 (by decide), k 16 (by decide), k 17 (by decide), k 18 (by decide), k 19 (by decide), k 70 (by decide), j 7 (by decide) (by decide)]
    by_cases e : x = s
    · subst e
      rw [slS_14s, slS_15s]
      refine ⟨g1, g2, fun q => ⟨(g3 q).1, (g3 q).2.1, rfl⟩, g4, g5, g6, Or.inl rfl, fun q => ⟨rfl, (g8 q).2⟩, g9, fun y hy => by rw [slS_13s hy]; exact vb_zero _, fun y hy _ => slS_13s hy, gC, fun q => ?_⟩
      rw [show 64 * x = 64 * x + 0 from rfl, slS_13s (by decide)]
      have := gD q
      exact ⟨by decide, by
        have h1 := this.1
        have h2 := this.2
        rw [Int64.le_iff_toInt_le] at h1
        rw [Int64.lt_iff_toInt_lt] at h2 ⊢
        exact Int.lt_of_le_of_lt h1 h2⟩
    · rw [slS_14 e, slS_15 e]
      refine ⟨g1, g2, g3, g4, g5, g6, g7, g8, g9, fun y hy => by rw [slS_13 (by omega)]; exact gA y hy, fun y hy h => by rw [slS_13 (by omega)]; exact gB y hy h, gC, fun q => ?_⟩
      rw [slS_13 (by omega)]; exact gD q
  · rw [k 16 (by decide)] at hc
    have hne : ∀ l : List Nat, 14 ∉ l → ∀ x, x ∈ l → x ≠ 14 := fun l h x hx q => h (q ▸ hx)
    exact WFc_sm (S := S) (fun x hx => by rw [k x (hne _ (by decide) x hx)]) (fun p _ => by rw [k 18 (by decide)]) (fun x hx i _ => by rw [k x (hne _ (by decide) x hx)]) (fun x hx => j x (fun q => by subst q; revert hx; decide) (fun q => by subst q; revert hx; decide)) (fun p _ x hx => by rw [k x (hne _ (by decide) x hx)]) (fun x _ => by rw [k 10 (by decide)]) (by rw [k 1 (by decide)]; exact Nat.le_refl _) (wc c hc)
  · rw [k 1 (by decide)] at h1
    obtain ⟨u1, u2, u3⟩ := wz1 x h1 h2
    rw [j 46 (by decide) (by decide), j 7 (by decide) (by decide)]
    refine ⟨fun y hy => ?_, u2, u3⟩
    by_cases e : x = s
    · subst e; exact slS_13s hy
    · rw [slS_13 (by omega)]; exact u1 y hy
  · rw [k 16 (by decide)] at h1
    rw [k 17 (by decide), k 18 (by decide), j 24 (by decide) (by decide), j 25 (by decide) (by decide), j 27 (by decide) (by decide), j 49 (by decide) (by decide)]
    exact wz2 c h1 h2
  · rw [j 46 (by decide) (by decide), j 49 (by decide) (by decide), j 24 (by decide) (by decide), j 25 (by decide) (by decide), j 27 (by decide) (by decide)]
    exact wz3
end SILSEC
