/-! what holds of the state with one section more -/
section WFSEC
variable {E : Nat} {S S' : ST}
theorem vb_zero (so : Nat) : vb so 0 := by
  unfold vb
  split
  · exact Or.inl (by decide)
  · exact ⟨by decide, Or.inl (by decide)⟩
  · exact ⟨by decide, by decide⟩
theorem len_le {kd : Nat} {ln : Int32} (h : lenok kd ln) : nrow kd ln ≤ 64 ∧ (ringy kd = true → ln = i32 (nrow kd ln) ∧ 1 ≤ nrow kd ln) := by
  by_cases h6 : kd = 6
  · subst h6
    have := h.1 (Or.inl rfl)
    have := len_i32 (n := 64) this.1 this.2 (by decide)
    exact ⟨this.2.2, fun _ => ⟨this.1, this.2.1⟩⟩
  · by_cases h7 : kd = 7
    · subst h7
      have := h.2.1 rfl
      have := len_i32 (n := 32) this.1 this.2 (by decide)
      exact ⟨Nat.le_trans this.2.2 (by decide), fun _ => ⟨this.1, this.2.1⟩⟩
    · by_cases h8 : kd = 8
      · subst h8
        have := h.1 (Or.inr rfl)
        have := len_i32 (n := 64) this.1 this.2 (by decide)
        exact ⟨this.2.2, fun _ => ⟨this.1, this.2.1⟩⟩
      · refine ⟨?_, fun q => ?_⟩
        · unfold nrow
          split <;> first | decide | (exfalso; omega)
        · simp [ringy, h6, h7, h8] at q
theorem vso_ss {s : Nat} (h : Ss S S' s) : vso S' s = vso S s := by
  unfold vso
  rw [h.1 2 (by decide), h.1 3 (by decide)]
theorem WFs_ss {s : Nat} (hs : Ss S S' s) (h16 : S.1 16 0 ≤ S'.1 16 0) (h17 : ∀ c, c < S.1 16 0 → S.1 17 c ≤ S'.1 17 c ∧ ∀ p, p < S.1 17 c → S'.1 18 (10 * c + p) = S.1 18 (10 * c + p)) (h19 : ∀ d, d < S.1 16 0 → S.1 10 s = d + 1 → S'.1 19 d = S.1 19 d) (h3 : ∀ d, d < S.1 16 0 → S.1 10 s = d + 1 → cso S' d = cso S d) (h : WFs S s) : WFs S' s := by
  have hr := rln_ss hs
  have hv := vso_ss hs
  obtain ⟨hs1, hs2, hs3, hs4, hs5⟩ := hs
  have e2 := hs1 2 (by decide); have e3 := hs1 3 (by decide); have e5 := hs1 5 (by decide); have e6 := hs1 6 (by decide); have e8 := hs1 8 (by decide); have e9 := hs1 9 (by decide); have eX := hs1 10 (by decide); have eE := hs1 14 (by decide); have e70 := hs1 70 (by decide)
  have i4 := hs2 4 (by decide)
  unfold WFs at h ⊢
  rw [hr, hv, e2, e3, e5, e6, e8, e9, eX, eE, e70, i4, hs3, hs4, hs5]
  obtain ⟨g1, g2, g3, g4, g5, g6, g7⟩ := h
  refine ⟨g1, g2, g3, g4, fun c hc => ?_, fun d hd => ?_, g7⟩
  · obtain ⟨u1, p, u2, u3, u4⟩ := g5 c hc
    exact ⟨by omega, p, u2, by have := (h17 c u1).1; omega, by rw [(h17 c u1).2 p u3]; exact u4⟩
  · obtain ⟨u1, u2, u3, c, u4, u5, u6⟩ := g6 d hd
    exact ⟨u1, by omega, by rw [h19 d u2 hd]; exact u3, c, u4, u5, by rw [h3 d u2 hd]; exact u6⟩
theorem WFc_pt {c : Nat} (hk : ∀ k, k ∈ [17, 19, 20, 28] → S'.1 k c = S.1 k c) (h18 : ∀ p, p < 10 → S'.1 18 (10 * c + p) = S.1 18 (10 * c + p)) (hl : ∀ k, k ∈ [21, 22, 23, 26] → ∀ i, i < 3 → S'.1 k (3 * c + i) = S.1 k (3 * c + i)) (h24 : ∀ j, j < 3 → S'.2.1 24 (3 * c + j) = S.2.1 24 (3 * c + j)) (h25 : ∀ j, j < 192 → S'.2.1 25 (192 * c + j) = S.2.1 25 (192 * c + j)) (h27 : ∀ j, j < 400 → S'.2.1 27 (400 * c + j) = S.2.1 27 (400 * c + j)) (h49 : ∀ k, k < 8 → ∀ j, j < 192 → S'.2.1 49 (3840 * k + 192 * c + j) = S.2.1 49 (3840 * k + 192 * c + j))
    (hs : ∀ p, p < S.1 17 c → ∀ k, k ∈ [2, 3, 8, 9] → S'.1 k (S.1 18 (10 * c + p)) = S.1 k (S.1 18 (10 * c + p))) (h10 : ∀ s, S.1 19 c = s + 1 → S'.1 10 s = S.1 10 s) (h1 : S.1 1 0 ≤ S'.1 1 0) (h : WFc E S c) : WFc E S' c := by
  have e17 := hk 17 (by decide); have e19 := hk 19 (by decide); have e20 := hk 20 (by decide); have e28 := hk 28 (by decide)
  obtain ⟨⟨g1, g2, g3⟩, g4, g5, g6, g7, g8, g9⟩ := h
  have hm : ∀ p, p < S.1 17 c → S'.1 18 (10 * c + p) = S.1 18 (10 * c + p) ∧ S.1 18 (10 * c + p) < S.1 1 0 := fun p hp => ⟨h18 p (by omega), (g4 p hp).1⟩
  have h18' : S'.1 18 (10 * c) = S.1 18 (10 * c) := h18 0 (by decide)
  have ec : S.1 17 c ≠ 0 → cso S' c = cso S c := fun q => by
    unfold cso
    rw [h18']
    exact hs 0 (by omega) 3 (by decide)
  unfold WFc
  rw [e17, e19, e20, e28]
  refine ⟨⟨g1, g2, ?_⟩, fun p hp => ?_, fun s hs' => ?_, fun q => ?_, fun i hi => ?_, fun j hj => ?_, g9⟩
  · rw [cnt_congr (g := fun p => spread (S.1 2 (S.1 18 (10 * c + p)))) (fun p hp => by
      show spread (S'.1 2 (S'.1 18 (10 * c + p))) = spread (S.1 2 (S.1 18 (10 * c + p)))
      rw [(hm p hp).1, hs p hp 2 (by decide)])]
    exact g3
  · obtain ⟨u1, u2, u3, u4⟩ := g4 p hp
    rw [(hm p hp).1, hs p hp 8 (by decide), hs p hp 9 (by decide), hs p hp 3 (by decide), ec (by omega)]
    exact ⟨by omega, u2, u3, u4⟩
  · obtain ⟨u1, u2, u3, u4⟩ := g5 s hs'
    refine ⟨by omega, by rw [h10 s hs']; exact u2, u3, fun p hp => ?_⟩
    rw [(hm p hp).1, hs p hp 2 (by decide)]; exact u4 p hp
  · obtain ⟨u1, u2, u3, u4⟩ := g6 q
    exact ⟨u1, u2, by rw [h18']; exact u3, fun j hj => (h24 j hj).trans (u4.1 j hj), fun j hj => (h25 j hj).trans (u4.2.1 j hj), fun j hj => (h27 j hj).trans (u4.2.2.1 j hj), fun k hk j hj => (h49 k hk j hj).trans (u4.2.2.2 k hk j hj)⟩
  · obtain ⟨u1, u2, u3, u4, u5, u6, u7, u8⟩ := g7 i hi
    have v21 := hl 21 (by decide) i (by omega); have v22 := hl 22 (by decide) i (by omega); have v23 := hl 23 (by decide) i (by omega); have v26 := hl 26 (by decide) i (by omega)
    have h0 : S.1 17 c ≠ 0 := by omega
    unfold WFl
    rw [v21, v22, v23, v26, e17, h24 i (by omega), ec h0]
    refine ⟨u1, u2, u3, u4, u5, u6, fun k hk => by rw [show 64 * (3 * c + i) + k = 192 * c + (64 * i + k) by omega, h25 _ (by omega), ← show 64 * (3 * c + i) + k = 192 * c + (64 * i + k) by omega]; exact u7 k hk, fun p h1 h2 => ?_⟩
    rw [(hm p (by omega)).1, hs p (by omega) 2 (by decide)]; exact u8 p h1 h2
  · rw [h27 j hj]
    by_cases q : S.1 17 c = 0
    · rw [(g6 q).2.2.2.2.2.1 j hj]; exact vb_zero _
    · rw [ec q]; exact g8 j hj
theorem WFc_sm {c : Nat} (hk : ∀ k, k ∈ [17, 19, 20, 28] → S'.1 k c = S.1 k c) (h18 : ∀ p, p < 10 → S'.1 18 (10 * c + p) = S.1 18 (10 * c + p)) (hl : ∀ k, k ∈ [21, 22, 23, 26] → ∀ i, i < 3 → S'.1 k (3 * c + i) = S.1 k (3 * c + i)) (hJ : ∀ k, k ∈ [24, 25, 27, 49] → S'.2.1 k = S.2.1 k)
    (hs : ∀ p, p < S.1 17 c → ∀ k, k ∈ [2, 3, 8, 9] → S'.1 k (S.1 18 (10 * c + p)) = S.1 k (S.1 18 (10 * c + p))) (h10 : ∀ s, S.1 19 c = s + 1 → S'.1 10 s = S.1 10 s) (h1 : S.1 1 0 ≤ S'.1 1 0) (h : WFc E S c) : WFc E S' c :=
  WFc_pt hk h18 hl (fun j _ => by rw [hJ 24 (by decide)]) (fun j _ => by rw [hJ 25 (by decide)]) (fun j _ => by rw [hJ 27 (by decide)]) (fun k _ j _ => by rw [hJ 49 (by decide)]) hs h10 h1 h
theorem WFc_ss {c : Nat} (hc : c < S.1 16 0) (hk : ∀ k, k ∈ [17, 19, 20, 28] → S'.1 k c = S.1 k c) (h18 : ∀ p, p < 10 → S'.1 18 (10 * c + p) = S.1 18 (10 * c + p)) (hl : ∀ k, k ∈ [21, 22, 23, 26] → ∀ i, i < 3 → S'.1 k (3 * c + i) = S.1 k (3 * c + i)) (hJ : ∀ k, k ∈ [24, 25, 27, 49] → S'.2.1 k = S.2.1 k)
    (hs : ∀ s, s < S.1 1 0 → ∀ k, k ∈ [2, 3, 8, 9, 10] → S'.1 k s = S.1 k s) (h1 : S.1 1 0 ≤ S'.1 1 0) (h : WFc E S c) : WFc E S' c :=
  WFc_sm hk h18 hl hJ (fun p hp k hk => hs _ (h.2.1 p hp).1 k ((by decide : ∀ k, k ∈ [2, 3, 8, 9] → k ∈ [2, 3, 8, 9, 10]) k hk)) (fun s q => hs s (h.2.2.1 s q).1 10 (by decide)) h1 h
theorem WF_sec (hW : WF E S) (h60 : S.1 1 0 < 60) {kd so : Nat} {ln : Int32} (hk : kd < 16) (hso : so < 3) (hl : lenok kd ln) : WF E (secS S kd so ln) := by
  obtain ⟨⟨w1, w2, w3⟩, ws, wc, wz1, wz2, wz3⟩ := hW
  have k16 : (secS S kd so ln).1 16 = S.1 16 := secS_k (by decide) (by decide)
  have k17 : (secS S kd so ln).1 17 = S.1 17 := secS_k (by decide) (by decide)
  have k18 : (secS S kd so ln).1 18 = S.1 18 := secS_k (by decide) (by decide)
  have k19 : (secS S kd so ln).1 19 = S.1 19 := secS_k (by decide) (by decide)
  have k44 : (secS S kd so ln).1 44 = S.1 44 := secS_k (by decide) (by decide)
  have hz := wz1 (S.1 1 0) (Nat.le_refl _) h60
  refine ⟨⟨by rw [secS_1]; omega, by rw [k16]; exact w2, by rw [k44]; exact w3⟩, fun s hs => ?_, fun c hc => ?_, fun s hs1 hs2 => ?_, fun c hc1 hc2 => ?_, ?_⟩
  · rw [secS_1] at hs
    by_cases e : s = S.1 1 0
    · subst e
      have e2 : (secS S kd so ln).1 2 (S.1 1 0) = kd := by simp [secS]
      have e3 : (secS S kd so ln).1 3 (S.1 1 0) = so := by simp [secS]
      have e5 : (secS S kd so ln).1 5 (S.1 1 0) = 0 := by simp [secS]
      have e6 : (secS S kd so ln).1 6 (S.1 1 0) = 0 := by simp [secS]
      have e8 : (secS S kd so ln).1 8 (S.1 1 0) = 0 := by simp [secS]
      have e9 : (secS S kd so ln).1 9 (S.1 1 0) = 0 := by simp [secS]
      have eX : (secS S kd so ln).1 10 (S.1 1 0) = 0 := by simp [secS]
      have eE : (secS S kd so ln).1 14 (S.1 1 0) = 0 := by simp [secS]
      have e70 : (secS S kd so ln).1 70 (S.1 1 0) = 0 := by simp [secS]
      have i4 : (secS S kd so ln).2.2 4 (S.1 1 0) = ln := by simp [secS]
      have j15 : (secS S kd so ln).2.1 15 (S.1 1 0) = 0 := by simp [secS]
      have j7 : (secS S kd so ln).2.1 7 = S.2.1 7 := secS_J (by decide)
      have j13 : (secS S kd so ln).2.1 13 = S.2.1 13 := secS_J (by decide)
      unfold WFs
      rw [e2, e3, e5, e6, e8, e9, eX, eE, e70, i4, j15, j7, j13]
      refine ⟨⟨hk, hso, hl⟩, ⟨by decide, by decide⟩, fun _ => ⟨rfl, rfl, rfl⟩, fun _ => ⟨rfl, rfl⟩, fun c hc => (by cases hc), fun d hd => (by cases hd), Or.inl rfl, fun _ => ⟨rfl, rfl⟩, fun k h5 => ?_, fun k h64 => ?_, fun k h64 _ => hz.1 k h64, fun k h5 _ => hz.2.2 k h5, fun q => ?_⟩
      · rw [hz.2.2 k h5]; exact vb_zero _
      · rw [hz.1 k h64]; exact vb_zero _
      · rw [show 64 * S.1 1 0 = 64 * S.1 1 0 + 0 from rfl, hz.1 0 (by decide)]
        refine ⟨by decide, ?_⟩
        have := (hl.2.2 (by omega)).1
        rw [Int64.lt_iff_toInt_lt, Int32.toInt_toInt64]
        have : (0 : Int64).toInt = 0 := rfl
        omega
    · refine WFs_ss (secS_ss e) (by rw [k16]; exact Nat.le_refl _) (fun c _ => ⟨by rw [k17]; exact Nat.le_refl _, fun p _ => by rw [k18]⟩) (fun d _ _ => by rw [k19]) (fun d hd hx => ?_) (ws s (by omega))
      have h17 : S.1 17 d ≠ 0 := ((wc d hd).2.2.1 s ((ws s (by omega)).2.2.2.2.2.1 d hx).2.2.1).2.2.1
      have hm : S.1 18 (10 * d + 0) < S.1 1 0 := ((wc d hd).2.1 0 (by omega)).1
      unfold cso
      rw [k18]
      exact (secS_ss (s := S.1 18 (10 * d)) (fun q => by rw [Nat.add_zero] at hm; omega)).1 3 (by decide)
  · rw [k16] at hc
    refine WFc_ss hc (fun k hk => ?_) (fun p _ => by rw [k18]) (fun k hk i _ => ?_) (fun k hk => secS_J (fun q => by subst q; revert hk; decide)) (fun s hs k hk => secS_ne (by omega) (fun q => by subst q; revert hk; decide)) (by rw [secS_1]; omega) (wc c hc)
    · refine congrFun (secS_k (fun q => ?_) (fun q => by subst q; revert hk; decide)) _
      revert q hk; revert k; decide
    · refine congrFun (secS_k (fun q => ?_) (fun q => by subst q; revert hk; decide)) _
      revert q hk; revert k; decide
  · rw [secS_1] at hs1
    rw [secS_J (by decide), secS_J (by decide), secS_J (by decide)]
    exact wz1 s (by omega) hs2
  · rw [k16] at hc1
    rw [k17, k18, secS_J (by decide), secS_J (by decide), secS_J (by decide), secS_J (by decide)]
    exact wz2 c hc1 hc2
  · rw [secS_J (by decide), secS_J (by decide), secS_J (by decide), secS_J (by decide), secS_J (by decide)]
    exact wz3
end WFSEC
