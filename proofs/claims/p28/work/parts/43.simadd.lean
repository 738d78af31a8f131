section SIMADD
variable {G : GT} {E B bx m : Nat} {ad : Nat → Nat} {S : ST} {A : AT} {C : CT} {T : MT} {c s : Nat}
def jnC (C : CT) (a17 a1 a7 n : Nat) : CT := csI (csI (csA (csA C 900 a17 n (some a7)) 124 a7 0 (some a1)) 125 a7 0 (i32 n)) 18 a1 0 (i32 n + 1)
theorem cgI_csI_ne {C : CT} {k1 b j a ci k : Nat} {v : Int32} (h : 16 * ci + k ≠ k1) : cgI (csI C k1 b j v) a ci k = cgI C a ci k := by
  unfold cgI
  simp [csI, up3, h]
theorem join_of (J : JJ G E B bx m ad S A C T) (hc : c < S.1 16 0) (hs : s < S.1 1 0) (hn : S.1 17 c < 10) : c_Chain_join (A 1 c) (some (A 7 s)) C = some (jnC C (A 17 c) (A 1 c) (A 7 s) (S.1 17 c)) := by
  have hr := jj_c J hc
  have hsr := jj_s J hs
  have tS : C.1 (A 7 s) = 7 + 1 := rs_tag hsr
  have tC : C.1 (A 1 c) = 1 + 1 := rc_tag hr
  have hne : A 1 c ≠ A 7 s := fun q => by have := rc_tag hr; rw [q, rs_tag hsr] at this; exact absurd this (by decide)
  unfold c_Chain_join
  rw [rc_size hr, obd_some, if_neg (i32_nonneg (by omega)), obd_some, rc_members hr, obd_some, obd_some, cal_of (n := 10) (by rw [hr.2.1.1]; decide) hr.2.1.2.1, obd_some, if_neg (by rw [i32_le (by omega) (by omega)]; omega), obd_some, obd_some, obd_some, obd_some,
    cqA_of (ci := 7) (n := 10) hr.2.1.1 (by decide) (rs_tag hsr) hr.2.1.2.1 (by omega) (by decide), obd_some, cpA_of (ci := 7) (by exact tS) (by decide) (by decide), obd_some]
  have e1 : cgI (csA (csA C 900 (A 17 c) (S.1 17 c) (some (A 7 s))) (16 * 7 + 12) (A 7 s) 0 (some (A 1 c))) (A 1 c) 1 2 = some (i32 (S.1 17 c)) := (show cgI C (A 1 c) 1 2 = some (i32 (S.1 17 c)) from rc_size hr)
  rw [e1, obd_some, cpI_of (ci := 7) (by exact tS) (by decide) (by decide), obd_some]
  have e2 : cgI (csI (csA (csA C 900 (A 17 c) (S.1 17 c) (some (A 7 s))) (16 * 7 + 12) (A 7 s) 0 (some (A 1 c))) (16 * 7 + 13) (A 7 s) 0 (i32 (S.1 17 c))) (A 1 c) 1 2 = some (i32 (S.1 17 c)) := by
    rw [cgI_csI_ne (by decide)]
    exact e1
  rw [e2, obd_some, cpI_of (ci := 1) (by exact tC) (by decide) (by decide), obd_some]
  rfl
theorem jnS_2 : (jnS S c s).2 = S.2 := rfl
theorem jj_join (J : JJ G E B bx m ad S A C T) (hc : c < S.1 16 0) (hs : s < S.1 1 0) (hn : S.1 17 c < 10) (h8 : S.1 8 s = 0) (h19 : S.1 19 c = 0) (hso : S.1 17 c ≠ 0 → S.1 3 s = cso S c) (hsp : spread (S.1 2 s) = true → cnt (fun p => spread (S.1 2 (S.1 18 (10 * c + p)))) (S.1 17 c) < 2) :
    ∃ T1, h_R_join (i32 c) (i32 s) T = some (i32 (S.1 17 c), T1) ∧ JJ G E B bx m ad (jnS S c s) A (jnC C (A 17 c) (A 1 c) (A 7 s) (S.1 17 c)) T1 := by
  have hJ := J
  obtain ⟨⟨w1, w2, w3⟩, ⟨hb, hss, hcc, hx⟩, hRT, hWF, hRK, hRD⟩ := J
  obtain ⟨T1, hT1, hR1⟩ := rt_jn hRT hWF hc hs hn
  have hW1 := WF_jn hWF hc hs hn h8 h19 hso hsp
  have hr := hcc c hc
  have hsr := hss s hs
  have k1 : (jnS S c s).1 1 = S.1 1 := jnS_k (by decide)
  have k2 : (jnS S c s).1 2 = S.1 2 := jnS_k (by decide)
  have k3 : (jnS S c s).1 3 = S.1 3 := jnS_k (by decide)
  have k5 : (jnS S c s).1 5 = S.1 5 := jnS_k (by decide)
  have k6 : (jnS S c s).1 6 = S.1 6 := jnS_k (by decide)
  have k10 : (jnS S c s).1 10 = S.1 10 := jnS_k (by decide)
  have k14 : (jnS S c s).1 14 = S.1 14 := jnS_k (by decide)
  have k16 : (jnS S c s).1 16 = S.1 16 := jnS_k (by decide)
  have k19 : (jnS S c s).1 19 = S.1 19 := jnS_k (by decide)
  have k20 : (jnS S c s).1 20 = S.1 20 := jnS_k (by decide)
  have k23 : (jnS S c s).1 23 = S.1 23 := jnS_k (by decide)
  have k28 : (jnS S c s).1 28 = S.1 28 := jnS_k (by decide)
  have k44 : (jnS S c s).1 44 = S.1 44 := jnS_k (by decide)
  have k70 : (jnS S c s).1 70 = S.1 70 := jnS_k (by decide)
  have h18 : ∀ x, x < S.1 16 0 → ∀ p, p < S.1 17 x → (jnS S c s).1 18 (10 * x + p) = S.1 18 (10 * x + p) := fun x hx' p hp => jnS_18 (fun q => by
    have := (hWF.2.2.1 x hx').1.1
    by_cases e : x = c
    · subst e; omega
    · omega)
  have va : ∀ t i, VA (jnS S c s) t i = VA S t i := fun t i => by unfold VA; rw [k1, k16, k20, k44]
  have ne : ∀ {t i t' i'}, VA S t i → VA S t' i' → (t' ≠ t ∨ i' ≠ i) → A t' i' ≠ A t i := fun h1 h2 h3 => ax_t ⟨hb, hss, hcc, hx⟩ h1 h2 h3
  have hag : ∀ a, a ≠ A 17 c → a ≠ A 7 s → a ≠ A 1 c → Ag C (jnC C (A 17 c) (A 1 c) (A 7 s) (S.1 17 c)) a := fun a h1 h2 h3 => ag_csI (ag_csI (ag_csA (ag_csA (Ag.refl C a) h1) h2) h2) h3
  have hagA : ∀ t i, VA S t i → ¬ (t = 17 ∧ i = c) → ¬ (t = 7 ∧ i = s) → ¬ (t = 1 ∧ i = c) → Ag C (jnC C (A 17 c) (A 1 c) (A 7 s) (S.1 17 c)) (A t i) := fun t i h h1 h2 h3 =>
    hag _ (ne (show VA S 17 c from hc) h (by omega)) (ne (show VA S 7 s from hs) h (by omega)) (ne (show VA S 1 c from hc) h (by omega))
  have hbx : Ag C (jnC C (A 17 c) (A 1 c) (A 7 s) (S.1 17 c)) bx := hag _ (fun q => by have := hb.1.1; rw [q, hr.2.1.1] at this; exact absurd this (by decide)) (fun q => by have := hb.1.1; rw [q, hsr.1.1] at this; exact absurd this (by decide)) (fun q => by have := hb.1.1; rw [q, hr.1.1] at this; exact absurd this (by decide))
  refine ⟨T1, hT1, ⟨?_, w2, fun z hz => ?_⟩, ⟨?_, fun s' h => ?_, fun c' h => ?_, ?_⟩, hR1, hW1, ?_, ?_⟩
  · exact cw_csI (cw_csI (cw_csA (cw_csA w1 (by rw [hr.2.1.1]; decide)) (by show C.1 (A 7 s) ≠ 0; rw [hsr.1.1]; decide)) (by show C.1 (A 7 s) ≠ 0; rw [hsr.1.1]; decide)) (by show C.1 (A 1 c) ≠ 0; rw [hr.1.1]; decide)
  · rw [(hagA 2 0 rfl (by omega) (by omega) (by omega)).2.2.2.2.1] at hz
    rw [k1, k16, k44, k20]
    exact w3 z hz
  · have hA : ∀ i, i < 4 → Ag C (jnC C (A 17 c) (A 1 c) (A 7 s) (S.1 17 c)) (A 3 i) := fun i hi => hagA 3 i hi (by omega) (by omega) (by omega)
    refine RCb_of hb hbx.1 (fun k _ => congrFun (hbx.2.2.2.2.1 k) 0) ?_ ?_ ?_ (fun _ => rfl) (fun _ => rfl) rfl (fun i hi => hagA 5 i hi (by omega) (by omega) (by omega)) (fun i hi => ⟨(hA i hi).1, (hA i hi).2.1⟩) rfl (fun x h => ?_) (fun x h => ?_) (fun x h => ?_)
    · rw [hbx.2.2.1, k1]; exact hb.2.1.1
    · rw [hbx.2.2.1, k16]; exact hb.2.1.2.1
    · rw [hbx.2.2.1, k44]; exact hb.2.1.2.2
    · rw [(hA 0 (by decide)).2.2.2.2.1, k1]; exact hb.2.2.2.1.2.2 x h
    · rw [(hA 1 (by decide)).2.2.2.2.1, k16]; exact hb.2.2.2.2.1.2.2 x h
    · rw [(hA 2 (by decide)).2.2.2.2.1, k44]; exact hb.2.2.2.2.2.1.2.2 x h
  · rw [k1] at h
    by_cases e : s' = s
    · subst e
      obtain ⟨g1, ⟨g2, g3, g4, g5, g6, g7, g8, g9⟩, gF, gR⟩ := hsr
      have n117 : A 117 s' ≠ A 7 s' := ne (show VA S 7 s' from hs) (show VA S 117 s' from hs) (by omega)
      have n118 : A 118 s' ≠ A 7 s' := ne (show VA S 7 s' from hs) (show VA S 118 s' from hs) (by omega)
      have i9 : S.1 10 s' = 0 := ((hWF.2.1 s' hs).2.2.2.1 h8).2
      refine ⟨?_, ⟨?_, ?_, ?_, ?_, ?_, ?_, ?_, ?_⟩, ?_, ?_⟩
      · rw [k2, k3]
        simpa [jnC, csI, csA, up3, jnS_2] using g1
      · rw [k5]; simpa [jnC, csI, csA, up3] using g2
      · rw [k6]; simpa [jnC, csI, csA, up3] using g3
      · exact ⟨by simpa [jnC, csI, csA, up3] using g4.1, g4.2.1, by simpa [jnC, csI, csA, up3] using g4.2.2.1, by simpa [jnC, csI, csA, up3] using g4.2.2.2.1, g4.2.2.2.2⟩
      · simpa [jnC, csI, csA, up3, jnS_2] using g5
      · simpa [jnC, csI, csA, up3, jnS_2] using g6
      · rw [jnS_8s]; simp [jnC, csI, csA, up3, oA]
      · rw [jnS_9s, im_succ]; simp [jnC, csI, csA, up3]
      · rw [k10]; simpa [jnC, csI, csA, up3] using g9
      · rw [k2]; exact gF
      · rw [k70, jn_rln, k14]
        refine ⟨gR.1, ?_, ?_, gR.2.2.2⟩
        · simpa [jnC, csI, csA, up3] using gR.2.1
        · simpa [jnC, csI, csA, up3] using gR.2.2.1
    · have hv : ∀ t, t ∈ [7, 117, 118, 96, 121, 98] → Ag C (jnC C (A 17 c) (A 1 c) (A 7 s) (S.1 17 c)) (A t s') := fun t ht => by
        simp only [List.mem_cons, List.not_mem_nil, or_false] at ht
        rcases ht with rfl | rfl | rfl | rfl | rfl | rfl <;> exact hagA _ s' h (by omega) (by omega) (by omega)
      exact RCs_ag (jn_ss e) (fun t ht => ⟨rfl, hv t ht⟩) rfl rfl rfl (hss s' h)
  · rw [k16] at h
    have wc := hWF.2.2.1 c' h
    have hv : ∀ t, t ∈ [19, 21] → Ag C (jnC C (A 17 c) (A 1 c) (A 7 s) (S.1 17 c)) (A t c') := fun t ht => by
      simp only [List.mem_cons, List.not_mem_nil, or_false] at ht
      rcases ht with rfl | rfl <;> exact hagA _ c' h (by omega) (by omega) (by omega)
    have hl : ∀ i, i < S.1 20 c' → RCl (jnS S c s) A (jnC C (A 17 c) (A 1 c) (A 7 s) (S.1 17 c)) (3 * c' + i) := fun i hi => by
      have hi3 : i < 3 := by have := wc.1.2.1; omega
      have hq : (3 * c' + i) / 3 < S.1 16 0 ∧ (3 * c' + i) % 3 < S.1 20 ((3 * c' + i) / 3) := by
        rw [show (3 * c' + i) / 3 = c' by omega, show (3 * c' + i) % 3 = i by omega]; exact ⟨h, hi⟩
      refine RCl_ag (S := S) (A := A) (C := C) (fun k hk => ?_) rfl rfl (fun t ht => ⟨rfl, ?_⟩) ((hcc c' h).2.2.2.2 i hi)
      · refine congrFun (jnS_k (fun q => ?_)) _
        revert q hk; revert k; decide
      · simp only [List.mem_cons, List.not_mem_nil, or_false] at ht
        rcases ht with rfl | rfl | rfl <;> exact hagA _ _ hq (by omega) (by omega) (by omega)
    by_cases e : c' = c
    · subst e
      obtain ⟨⟨g1, g2, g3, g4, g5, g6, g7, g8, g9, gX, gY⟩, ⟨r1, r2, r3⟩, u, v, -⟩ := hr
      have n17 : A 17 c' ≠ A 1 c' := ne (show VA S 1 c' from hc) (show VA S 17 c' from hc) (by omega)
      have a19 := hv 19 (by decide)
      have a21 := hv 21 (by decide)
      refine ⟨⟨g1, ?_, ?_, ?_, ?_, ?_, ?_, ?_, ?_, ?_, ?_⟩, ⟨r1, r2, fun p hp => ?_⟩, ?_, v, hl⟩
      · simpa [jnC, csI, csA, up3] using g2
      · simpa [jnC, csI, csA, up3] using g3
      · rw [jnS_17c, ← i32_add]; simp [jnC, csI, csA, up3]; rfl
      · simpa [jnC, csI, csA, up3] using g5
      · rw [k20]; simpa [jnC, csI, csA, up3] using g6
      · simpa [jnC, csI, csA, up3] using g7
      · rw [k28]; simpa [jnC, csI, csA, up3] using g8
      · rw [k28]; simpa [jnC, csI, csA, up3] using g9
      · rw [k28]; simpa [jnC, csI, csA, up3] using gX
      · rw [k19]; simpa [jnC, csI, csA, up3] using gY
      · rw [jnS_17c]
        by_cases q : p = S.1 17 c'
        · subst q
          rw [if_pos (by omega), jnS_18s]; simp [jnC, csI, csA, up3]
        · have e1 : (jnC C (A 17 c') (A 1 c') (A 7 s) (S.1 17 c')).2.2.2.2.1 900 (A 17 c') p = C.2.2.2.2.1 900 (A 17 c') p := by simp [jnC, csI, csA, up3, q]
          rw [e1, r3 p hp]
          by_cases q2 : p < S.1 17 c'
          · rw [if_pos q2, if_pos (by omega), h18 c' hc p q2]
          · rw [if_neg q2, if_neg (by omega)]
      · rw [k20, a19.1, a19.2.1, a19.2.2.2.2.1]; exact u
    · have hv' : ∀ t, t ∈ [1, 17, 19, 21] → Ag C (jnC C (A 17 c) (A 1 c) (A 7 s) (S.1 17 c)) (A t c') := fun t ht => by
        simp only [List.mem_cons, List.not_mem_nil, or_false] at ht
        rcases ht with rfl | rfl | rfl | rfl <;> exact hagA _ c' h (by omega) (by omega) (by omega)
      refine RCc_ag (S := S) (A := A) (C := C) (fun k hk => ?_) (fun p hp => ⟨h18 c' h p hp, rfl⟩) rfl (fun t ht => ⟨rfl, hv' t ht⟩) rfl (fun _ _ => rfl) hl (hcc c' h)
      simp only [List.mem_cons, List.not_mem_nil, or_false] at hk
      rcases hk with rfl | rfl | rfl | rfl
      · exact jnS_17 e
      · rw [k19]
      · rw [k20]
      · rw [k28]
  · intro t i t' i' h h'
    rw [va] at h h'
    exact hx t i t' i' h h'
  · refine RK_ag (S := S) (A := A) (C := C) ⟨fun k hk => ?_, fun k hk => rfl, by rw [k16]; exact Nat.le_refl _, fun x h => ⟨?_, by rw [k20]; exact Nat.le_refl _, fun p hp => ⟨h18 x h p hp, ⟨congrFun (jnS_k (k := 2) (by decide)) _, congrFun (jnS_k (k := 3) (by decide)) _, rfl⟩, Or.inr (congrFun (jnS_k (k := 10) (by decide)) _)⟩, fun i _ => congrFun k23 _⟩⟩ (fun t ht k hk => ⟨rfl, ?_⟩) (fun _ _ => rfl) hRK
    · refine jnS_k (fun q => ?_)
      revert q hk; revert k; decide
    · by_cases e : x = c
      · subst e; rw [jnS_17c]; omega
      · rw [jnS_17 e]; exact Nat.le_refl _
    · simp only [List.mem_cons, List.not_mem_nil, or_false] at ht
      rcases ht with rfl | rfl | rfl <;> exact hagA _ k hk (by omega) (by omega) (by omega)
  · refine RD_ag (A := A) (C := C) ⟨rfl, hagA 2 0 rfl (by omega) (by omega) (by omega)⟩ (fun hn i hi => ⟨rfl, ?_⟩) hRD
    have e : i = 1 ∨ i = 2 := by simpa using hi
    exact hagA 0 i (show i < 3 by omega) (by omega) (by omega) (by omega)
end SIMADD
