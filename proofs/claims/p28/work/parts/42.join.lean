/-! add: a section joins a chain -/
section JOIN
variable {G : GT} {E B bx m : Nat} {ad : Nat → Nat} {S : ST} {A : AT} {C : CT} {T : MT} {c s : Nat}
def jnS (S : ST) (c s : Nat) : ST := (fun k j => if k = 18 ∧ j = 10 * c + S.1 17 c then s else if k = 8 ∧ j = s then c + 1 else if k = 9 ∧ j = s then S.1 17 c + 1 else if k = 17 ∧ j = c then S.1 17 c + 1 else S.1 k j, S.2)
theorem jnS_k {k : Nat} (h : k ∉ [8, 9, 17, 18]) : (jnS S c s).1 k = S.1 k := by
  simp only [List.mem_cons, List.not_mem_nil, or_false, not_or] at h
  funext j
  simp only [jnS, h, false_and, if_false]
theorem jnS_18 {j : Nat} (h : j ≠ 10 * c + S.1 17 c) : (jnS S c s).1 18 j = S.1 18 j := by simp [jnS, h]
theorem jnS_18s : (jnS S c s).1 18 (10 * c + S.1 17 c) = s := by simp [jnS]
theorem jnS_8 {j : Nat} (h : j ≠ s) : (jnS S c s).1 8 j = S.1 8 j := by simp [jnS, h]
theorem jnS_8s : (jnS S c s).1 8 s = c + 1 := by simp [jnS]
theorem jnS_9 {j : Nat} (h : j ≠ s) : (jnS S c s).1 9 j = S.1 9 j := by simp [jnS, h]
theorem jnS_9s : (jnS S c s).1 9 s = S.1 17 c + 1 := by simp [jnS]
theorem jnS_17 {j : Nat} (h : j ≠ c) : (jnS S c s).1 17 j = S.1 17 j := by simp [jnS, h]
theorem jnS_17c : (jnS S c s).1 17 c = S.1 17 c + 1 := by simp [jnS]
/-- a chain's first member is as it was, or it holds nothing -/
theorem jn_cso (hW : WF E S) (hn : S.1 17 c < 10) (hs : c < S.1 16 0) {x : Nat} (hx : x < 20) : cso (jnS S c s) x = cso S x ∨ ((∀ j, j < 3 → S.2.1 24 (3 * x + j) = 0) ∧ (∀ j, j < 192 → S.2.1 25 (192 * x + j) = 0) ∧ (∀ j, j < 400 → S.2.1 27 (400 * x + j) = 0) ∧ ∀ k, k < 8 → ∀ j, j < 192 → S.2.1 49 (3840 * k + 192 * x + j) = 0) := by
  by_cases e : x = c ∧ S.1 17 c = 0
  · obtain ⟨rfl, e⟩ := e
    exact Or.inr ((hW.2.2.1 x hs).2.2.2.1 e).2.2.2
  · refine Or.inl ?_
    unfold cso
    rw [jnS_18 (by omega), jnS_k (k := 3) (by decide)]
theorem rt_jn (hR : RT S T) (hW : WF E S) (hc : c < S.1 16 0) (hs : s < S.1 1 0) (hn : S.1 17 c < 10) : ∃ T1, h_R_join (i32 c) (i32 s) T = some (i32 (S.1 17 c), T1) ∧ RT (jnS S c s) T1 := by
  have hW' := hW
  obtain ⟨⟨w1, w2, w3⟩, ws, wc, wz1, wz2, wz3⟩ := hW'
  obtain ⟨a1, a2, a3, a4, a5, a6, a7, a8, a9, b1, b2, b3⟩ := hR
  have e20 : jrg 20 (i32 c) = some c := jrg_i32 (by omega) (by decide)
  have e60 : jrg 60 (i32 s) = some s := jrg_i32 (by omega) (by decide)
  have e17 : T.1 17 c = i32 (S.1 17 c) := a1 17 (by decide) c
  refine ⟨tsI (tsI (tsI (tsI T 18 (10 * c + S.1 17 c) (i32 s)) 8 s (i32 c)) 9 s (i32 (S.1 17 c))) 17 c (i32 (S.1 17 c) + 1), ?_, ?_⟩
  · unfold h_R_join
    rw [e20, obd_some, e17, show (10 : Int32) * i32 c + i32 (S.1 17 c) = i32 (10 * c + S.1 17 c) from by rw [show (10 : Int32) = i32 10 from rfl, i32_mul, i32_add], jrg_i32 (by omega) (by decide), obd_some]
    simp only [e60, obd_some, jlet, e20]
    rw [show (tsI (tsI (tsI T 18 (10 * c + S.1 17 c) (i32 s)) 8 s (i32 c)) 9 s (i32 (S.1 17 c))).1 17 c = i32 (S.1 17 c) from e17]
  · have k3 : (jnS S c s).1 3 = S.1 3 := jnS_k (by decide)
    have k2 : (jnS S c s).1 2 = S.1 2 := jnS_k (by decide)
    have ev : ∀ x, vso (jnS S c s) x = vso S x := fun x => by unfold vso; rw [k2, k3]
    refine ⟨fun k hk j => ?_, fun k hk => ?_, fun k hk j => ?_, fun k hk j => ?_, a5, fun j => by rw [k3]; exact a6 j, fun j => by rw [ev]; exact a7 j, fun j => ?_, fun j => ?_, fun j => ?_, fun j => by rw [ev]; exact b2 j, fun j => ?_⟩
    · have h1 := a1 k hk j
      have h8 : k ≠ 8 := fun q => by subst q; revert hk; decide
      have h9 : k ≠ 9 := fun q => by subst q; revert hk; decide
      by_cases q1 : k = 18 ∧ j = 10 * c + S.1 17 c
      · obtain ⟨rfl, rfl⟩ := q1
        rw [jnS_18s]; simp [tsI, up2]
      · by_cases q2 : k = 17 ∧ j = c
        · obtain ⟨rfl, rfl⟩ := q2
          rw [jnS_17c, ← i32_add]; simp [tsI, up2]; rfl
        · simp only [tsI, up2, jnS, q1, q2, h8, h9, false_and, if_false]; exact h1
    · have h1 := a2 k hk
      simp only [rtC, List.mem_cons, List.not_mem_nil, or_false] at hk
      rcases hk with rfl | rfl | rfl <;> rw [jnS_k (by decide)] <;> simp [tsI, up2] <;> exact h1
    · have h1 := a3 k hk j
      have h8 : k ≠ 18 := fun q => by subst q; revert hk; decide
      have h9 : k ≠ 17 := fun q => by subst q; revert hk; decide
      by_cases q1 : k = 8 ∧ j = s
      · obtain ⟨rfl, rfl⟩ := q1
        rw [jnS_8s, im_succ]; simp [tsI, up2]
      · by_cases q2 : k = 9 ∧ j = s
        · obtain ⟨rfl, rfl⟩ := q2
          rw [jnS_9s, im_succ]; simp [tsI, up2]
        · simp only [tsI, up2, jnS, q1, q2, h8, h9, false_and, if_false]; exact h1
    · have h1 := a4 k hk j
      simp only [rtI, List.mem_cons, List.not_mem_nil, or_false] at hk
      rcases hk with rfl | rfl | rfl <;> simp [tsI, up2] <;> exact h1
    · refine (a8 j).trans ?_
      show dv _ (S.2.1 24 j) = dv _ (S.2.1 24 j)
      by_cases hj : 60 ≤ j
      · rw [hW.2.2.2.2.2.2.1 j hj, dv_zero, dv_zero]
      · rcases jn_cso (s := s) hW hn hc (x := j / 3) (by omega) with h | h
        · rw [h]
        · have := h.1 (j % 3) (by omega)
          rw [show 3 * (j / 3) + j % 3 = j by omega] at this
          rw [this, dv_zero, dv_zero]
    · refine (a9 j).trans ?_
      show dv _ (S.2.1 25 j) = dv _ (S.2.1 25 j)
      by_cases hj : 3840 ≤ j
      · rw [hW.2.2.2.2.2.2.2.1 j hj, dv_zero, dv_zero]
      · rcases jn_cso (s := s) hW hn hc (x := j / 64 / 3) (by omega) with h | h
        · rw [h]
        · have := h.2.1 (j % 192) (by omega)
          rw [show 192 * (j / 64 / 3) + j % 192 = j by omega] at this
          rw [this, dv_zero, dv_zero]
    · refine (b1 j).trans ?_
      show dv _ (S.2.1 27 j) = dv _ (S.2.1 27 j)
      by_cases hj : 8000 ≤ j
      · rw [hW.2.2.2.2.2.2.2.2 j hj, dv_zero, dv_zero]
      · rcases jn_cso (s := s) hW hn hc (x := j / 400) (by omega) with h | h
        · rw [h]
        · have := h.2.2.1 (j % 400) (by omega)
          rw [show 400 * (j / 400) + j % 400 = j by omega] at this
          rw [this, dv_zero, dv_zero]
    · refine (b3 j).trans ?_
      show dv _ (S.2.1 49 j) = dv _ (S.2.1 49 j)
      by_cases hj : 30720 ≤ j
      · rw [(hW.2.2.2.2.2.1 j hj).2, dv_zero, dv_zero]
      · rcases jn_cso (s := s) hW hn hc (x := j / 64 % 60 / 3) (by omega) with h | h
        · rw [h]
        · have := h.2.2.2 (j / 3840) (by omega) (j % 192) (by omega)
          rw [show 3840 * (j / 3840) + 192 * (j / 64 % 60 / 3) + j % 192 = j by omega] at this
          rw [this, dv_zero, dv_zero]
theorem jn_ss {s' : Nat} (h : s' ≠ s) : Ss S (jnS S c s) s' := ⟨fun k hk => by
  simp only [List.mem_cons, List.not_mem_nil, or_false] at hk
  rcases hk with rfl | rfl | rfl | rfl | rfl | rfl | rfl | rfl | rfl <;> first | exact congrFun (jnS_k (by decide)) _ | exact jnS_8 h | exact jnS_9 h, fun _ _ => rfl, rfl, rfl, rfl⟩
theorem jn_rln {x : Nat} : rln (jnS S c s) x = rln S x := by
  unfold rln
  rw [jnS_k (k := 2) (by decide)]
  rfl
theorem WF_jn (hW : WF E S) (hc : c < S.1 16 0) (hs : s < S.1 1 0) (hn : S.1 17 c < 10) (h8 : S.1 8 s = 0) (h19 : S.1 19 c = 0) (hso : S.1 17 c ≠ 0 → S.1 3 s = cso S c) (hsp : spread (S.1 2 s) = true → cnt (fun p => spread (S.1 2 (S.1 18 (10 * c + p)))) (S.1 17 c) < 2) : WF E (jnS S c s) := by
  have hW' := hW
  obtain ⟨⟨w1, w2, w3⟩, ws, wc, wz1, wz2, wz3⟩ := hW'
  have k1 : (jnS S c s).1 1 = S.1 1 := jnS_k (by decide)
  have k2 : (jnS S c s).1 2 = S.1 2 := jnS_k (by decide)
  have k3 : (jnS S c s).1 3 = S.1 3 := jnS_k (by decide)
  have k5 : (jnS S c s).1 5 = S.1 5 := jnS_k (by decide)
  have k6 : (jnS S c s).1 6 = S.1 6 := jnS_k (by decide)
  have k10 : (jnS S c s).1 10 = S.1 10 := jnS_k (by decide)
  have k14 : (jnS S c s).1 14 = S.1 14 := jnS_k (by decide)
  have k16 : (jnS S c s).1 16 = S.1 16 := jnS_k (by decide)
  have k19 : (jnS S c s).1 19 = S.1 19 := jnS_k (by decide)
  have k20 : (jnS S c s).1 20 = S.1 20 := jnS_k (by decide)
  have k21 : (jnS S c s).1 21 = S.1 21 := jnS_k (by decide)
  have k22 : (jnS S c s).1 22 = S.1 22 := jnS_k (by decide)
  have k23 : (jnS S c s).1 23 = S.1 23 := jnS_k (by decide)
  have k26 : (jnS S c s).1 26 = S.1 26 := jnS_k (by decide)
  have k28 : (jnS S c s).1 28 = S.1 28 := jnS_k (by decide)
  have k44 : (jnS S c s).1 44 = S.1 44 := jnS_k (by decide)
  have k70 : (jnS S c s).1 70 = S.1 70 := jnS_k (by decide)
  have h17 : ∀ x, S.1 17 x ≤ (jnS S c s).1 17 x := fun x => by
    by_cases e : x = c
    · subst e; rw [jnS_17c]; omega
    · rw [jnS_17 e]; exact Nat.le_refl _
  have h18 : ∀ x, x < S.1 16 0 → ∀ p, p < S.1 17 x → (jnS S c s).1 18 (10 * x + p) = S.1 18 (10 * x + p) := fun x hx p hp => jnS_18 (fun q => by
    have := (wc x hx).1.1
    by_cases e : x = c
    · subst e; omega
    · omega)
  have hms : ∀ x, x < S.1 16 0 → ∀ p, p < S.1 17 x → S.1 18 (10 * x + p) ≠ s := fun x hx p hp q => by
    have := ((wc x hx).2.1 p hp).2.1
    rw [q, h8] at this
    cases this
  refine ⟨⟨by rw [k1]; exact w1, by rw [k16]; exact w2, by rw [k44]; exact w3⟩, fun s' hs' => ?_, fun c' hc' => ?_, fun s' h1 h2 => ?_, fun c' h1 h2 => ?_, wz3⟩
  · rw [k1] at hs'
    by_cases e : s' = s
    · subst e
      have ev : vso (jnS S c s') s' = vso S s' := by unfold vso; rw [k2, k3]
      obtain ⟨g1, g2, g3, g4, g5, g6, g7⟩ := ws s' hs'
      unfold WFs
      rw [jn_rln, ev, k2, k3, k5, k6, k10, k14, k16, k19, k70, jnS_8s, jnS_9s]
      refine ⟨g1, g2, g3, fun q => (by cases q), fun x hx => ?_, fun d hd => ?_, g7⟩
      · have : x = c := by omega
        subst this
        exact ⟨hc, S.1 17 x, rfl, by rw [jnS_17c]; omega, jnS_18s⟩
      · rw [(g4 h8).2] at hd
        cases hd
    · exact WFs_ss (jn_ss e) (by rw [k16]; exact Nat.le_refl _) (fun x hx => ⟨h17 x, h18 x hx⟩) (fun d _ _ => by rw [k19]) (fun d hd hx => by
        have h0 : S.1 17 d ≠ 0 := ((wc d hd).2.2.1 s' ((ws s' hs').2.2.2.2.2.1 d hx).2.2.1).2.2.1
        have h := h18 d hd 0 (by omega)
        rw [Nat.add_zero] at h
        unfold cso
        rw [k3, h]) (ws s' hs')
  · rw [k16] at hc'
    by_cases e : c' = c
    · subst e
      obtain ⟨⟨g1, g2, g3⟩, g4, g5, g6, g7, g8, g9⟩ := wc c' hc'
      have hsort : ∀ p, p < S.1 17 c' → S.1 3 (S.1 18 (10 * c' + p)) = cso S c' := fun p hp => (g4 p hp).2.2.2
      have ec : S.1 17 c' ≠ 0 → cso (jnS S c' s) c' = cso S c' := fun q => by
        unfold cso
        rw [jnS_18 (by omega), k3]
      have es : S.1 3 s = cso (jnS S c' s) c' := by
        by_cases q : S.1 17 c' = 0
        · unfold cso
          have := jnS_18s (S := S) (c := c') (s := s)
          rw [q, Nat.add_zero] at this
          rw [this, k3]
        · rw [ec q]; exact hso q
      unfold WFc
      rw [jnS_17c, k19, k20, k28, h19]
      refine ⟨⟨by omega, g2, ?_⟩, fun p hp => ?_, fun x hx => (by cases hx), fun q => (by cases q), fun i hi => ?_, fun j hj => ?_, g9⟩
      · show cnt _ (S.1 17 c') + (if spread ((jnS S c' s).1 2 ((jnS S c' s).1 18 (10 * c' + S.1 17 c'))) then 1 else 0) ≤ 2
        rw [cnt_congr (g := fun p => spread (S.1 2 (S.1 18 (10 * c' + p)))) (fun p hp => by
          show spread ((jnS S c' s).1 2 ((jnS S c' s).1 18 (10 * c' + p))) = spread (S.1 2 (S.1 18 (10 * c' + p)))
          rw [h18 c' hc' p hp, k2]), jnS_18s, k2]
        by_cases q : spread (S.1 2 s) = true
        · rw [if_pos q]; have := hsp q; omega
        · rw [if_neg q]; omega
      · by_cases q : p = S.1 17 c'
        · subst q
          rw [jnS_18s, jnS_8s, jnS_9s, k1, k3]
          exact ⟨hs, rfl, rfl, es⟩
        · have hp' : p < S.1 17 c' := by omega
          obtain ⟨u1, u2, u3, u4⟩ := g4 p hp'
          rw [h18 c' hc' p hp', jnS_8 (hms c' hc' p hp'), jnS_9 (hms c' hc' p hp'), k1, k3, ec (by omega)]
          exact ⟨u1, u2, u3, u4⟩
      · obtain ⟨u1, u2, u3, u4, u5, u6, u7, u8⟩ := g7 i hi
        unfold WFl
        rw [k21, k22, k23, k26, jnS_17c, ec (by omega)]
        refine ⟨u1, by omega, u3, u4, u5, u6, u7, fun p h1 h2 => ?_⟩
        rw [h18 c' hc' p (by omega), k2]; exact u8 p h1 h2
      · show vb _ (S.2.1 27 (400 * c' + j))
        by_cases q : S.1 17 c' = 0
        · rw [(g6 q).2.2.2.2.2.1 j hj]; exact vb_zero _
        · rw [ec q]; exact g8 j hj
    · refine WFc_sm (S := S) (fun k hk => ?_) (fun p hp => jnS_18 (by omega)) (fun k hk i _ => ?_) (fun _ _ => rfl) (fun p hp k hk => ?_) (fun x hx => by rw [k10]) (by rw [k1]; exact Nat.le_refl _) (wc c' hc')
      · simp only [List.mem_cons, List.not_mem_nil, or_false] at hk
        rcases hk with rfl | rfl | rfl | rfl
        · exact jnS_17 e
        · rw [k19]
        · rw [k20]
        · rw [k28]
      · refine congrFun (jnS_k (fun q => ?_)) _
        revert q hk; revert k; decide
      · have := hms c' hc' p hp
        simp only [List.mem_cons, List.not_mem_nil, or_false] at hk
        rcases hk with rfl | rfl | rfl | rfl
        · rw [k2]
        · rw [k3]
        · exact jnS_8 this
        · exact jnS_9 this
  · rw [k1] at h1
    exact wz1 s' h1 h2
  · rw [k16] at h1
    rw [jnS_17 (by omega), jnS_18 (by omega)]
    exact wz2 c' h1 h2
end JOIN
