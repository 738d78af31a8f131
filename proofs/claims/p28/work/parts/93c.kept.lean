/-! one more is kept: the state -/
section KEPTJ
variable {G : GT} {E B bx m k : Nat} {ad : Nat → Nat} {S S' S0 : ST} {A : AT} {C C' : CT} {T T' : MT}
def kpA (A : AT) (K n : Nat) : AT := fun t i => if i = n ∧ t = 48 then K else if i = n ∧ t = 49 then K + 1 else if i = n ∧ t = 50 then K + 2 else A t i
theorem kpA_t {K n t i : Nat} (h : t ∉ [48, 49, 50]) : kpA A K n t i = A t i := by
  simp only [List.mem_cons, List.not_mem_nil, or_false, not_or] at h
  unfold kpA
  rw [if_neg (fun q => h.1 q.2), if_neg (fun q => h.2.1 q.2), if_neg (fun q => h.2.2 q.2)]
theorem kpA_i {K n t i : Nat} (h : i ≠ n) : kpA A K n t i = A t i := by
  unfold kpA
  rw [if_neg (fun q => h q.1), if_neg (fun q => h q.1), if_neg (fun q => h q.1)]
def kpC (C : CT) (bx a32 K n : Nat) : CT := csI (csA C 900 a32 n (some K)) 8 bx 0 (i32 (n + 1))
theorem jj_kept {adb : Nat → Nat} {K : Nat} (J : JJ G E B bx m adb S A C T) (hk : k = S.1 44 0) (h8 : k < 8) (hfar : ∀ t i, VA S t i → A t i < K ∨ K + 1000 ≤ A t i) (hRKk : RKb S (kpA A K k) (kpC C bx (A 3 2) K k) k)
    (hl : lsp m ad C) (hro : RO (ad 0) B (uN S 44 0 (k + 1)) A C) (hR : RT (uN S 44 0 (k + 1)) T') : JJ G E B bx m ad (uN S 44 0 (k + 1)) (kpA A K k) (kpC C bx (A 3 2) K k) T' := by
  have hJ := J
  obtain ⟨⟨w1, w2, w3⟩, ⟨hb, hs, hc, hx⟩, hRT, hWF, hRK, hRD⟩ := J
  have e1 : ∀ x, x ≠ 44 → (uN S 44 0 (k + 1)).1 x = S.1 x := fun x h => uN_k h
  have e44 : (uN S 44 0 (k + 1)).1 44 0 = k + 1 := by simp [uN, up2]
  have t32 : C.1 (A 3 2) = 33 := hb.2.2.2.2.2.1.1
  have hva : ∀ t i, VA S t i → t ≠ 0 → C.1 (A t i) ≠ 0 := fun t i h h0 => va_tag hJ h h0
  have hag2 : ∀ a, a ≠ bx → a ≠ A 3 2 → Ag C (kpC C bx (A 3 2) K k) a := fun a h1 h2 => ag_csI (ag_csA (Ag.refl _ _) h2) h1
  have hagA : ∀ t i, VA S t i → t ≠ 0 → ¬ (t = 3 ∧ i = 2) → Ag C (kpC C bx (A 3 2) K k) (A t i) := by
    intro t i h h0 h3
    refine hag2 _ (fun e => ?_) (fun e => h3 (hx t i 3 2 h (show (2 : Nat) < 4 by decide) e))
    exact va_bx hJ h h0 (by rw [e]; exact hb.1.1)
  have hYI : ∀ x a, x ≠ 8 → (kpC C bx (A 3 2) K k).2.2.1 x a = C.2.2.1 x a := fun x a h => by funext y; simp [kpC, csI, csA, up3, h]
  have hYA : ∀ x a, x ≠ 900 → (kpC C bx (A 3 2) K k).2.2.2.2.1 x a = C.2.2.2.2.1 x a := fun x a h => by funext y; simp [kpC, csI, csA, up3, h]
  have hYA' : ∀ x a, a ≠ A 3 2 → (kpC C bx (A 3 2) K k).2.2.2.2.1 x a = C.2.2.2.2.1 x a := fun x a h => by funext y; simp [kpC, csI, csA, up3, h]
  have h30 : A 3 0 ≠ A 3 2 := fun e => absurd (hx 3 0 3 2 (show (0 : Nat) < 4 by decide) (show (2 : Nat) < 4 by decide) e).2 (by decide)
  have h31 : A 3 1 ≠ A 3 2 := fun e => absurd (hx 3 1 3 2 (show (1 : Nat) < 4 by decide) (show (2 : Nat) < 4 by decide) e).2 (by decide)
  have o1 : ∀ n, oA (kpA A K k) 1 n = oA A 1 n := fun n => by
    cases n with
    | zero => rfl
    | succ n => exact congrArg some (kpA_t (by decide))
  have o7 : ∀ n, oA (kpA A K k) 7 n = oA A 7 n := fun n => by
    cases n with
    | zero => rfl
    | succ n => exact congrArg some (kpA_t (by decide))
  have hss : ∀ s, Ss S (uN S 44 0 (k + 1)) s := fun s => ⟨fun x hx => by rw [e1 x (fun q => by subst q; revert hx; decide)], fun _ _ => rfl, rfl, rfl, rfl⟩
  refine ⟨⟨cw_csI (cw_csA w1 (by rw [t32]; decide)) (by show C.1 bx ≠ 0; rw [hb.1.1]; decide), hl, fun z hz => ?_⟩, ⟨?_, fun s h => ?_, fun c h => ?_, ?_⟩, hR, ?_, ?_, ?_⟩
  · have e2 : kpA A K k 2 0 = A 2 0 := kpA_t (by decide)
    rw [e2, hYA 37 _ (by decide)] at hz
    exact hro z hz
  · refine RCb_of hb rfl (fun x hx => by rw [hYA x bx (by omega)]) ?_ ?_ ?_ (fun i => kpA_t (by decide)) (fun i => kpA_t (by decide)) (kpA_t (by decide)) (fun i hi => hagA 5 i hi (by decide) (by omega)) (fun i hi => ⟨rfl, rfl⟩) rfl (fun s h => ?_) (fun c h => ?_) (fun q h => ?_)
    · rw [hYI 4 bx (by decide), e1 1 (by decide)]; exact hb.2.1.1
    · rw [hYI 6 bx (by decide), e1 16 (by decide)]; exact hb.2.1.2.1
    · rw [e44]; simp [kpC, csI, csA, up3]
    · rw [hYA' 900 _ h30, e1 1 (by decide), kpA_t (by decide)]; exact hb.2.2.2.1.2.2 s h
    · rw [hYA' 900 _ h31, e1 16 (by decide), kpA_t (by decide)]; exact hb.2.2.2.2.1.2.2 c h
    · rw [e44]
      by_cases e : q = k
      · subst e
        rw [if_pos (by omega)]
        simp [kpC, csI, csA, up3, kpA]
      · have e5 : (kpC C bx (A 3 2) K k).2.2.2.2.1 900 (A 3 2) q = C.2.2.2.2.1 900 (A 3 2) q := by simp [kpC, csI, csA, up3, e]
        rw [e5, hb.2.2.2.2.2.1.2.2 q h, kpA_i e]
        by_cases q2 : q < S.1 44 0
        · rw [if_pos q2, if_pos (by omega)]
        · rw [if_neg q2, if_neg (by omega)]
  · rw [e1 1 (by decide)] at h
    refine RCs_ag (hss s) (fun t ht => ⟨kpA_t (fun q => ?_), hagA t s ?_ (fun q => by subst q; revert ht; decide) (fun q => by have := q.1; subst this; revert ht; decide)⟩) (kpA_t (by decide)) (o1 _) (o1 _) (hs s h)
    · revert q ht; revert t; decide
    · simp only [List.mem_cons, List.not_mem_nil, or_false] at ht
      rcases ht with rfl | rfl | rfl | rfl | rfl | rfl <;> exact h
  · rw [e1 16 (by decide)] at h
    have wc := hWF.2.2.1 c h
    refine RCc_ag (S := S) (A := A) (C := C) (fun x hx => by rw [e1 x (fun q => by subst q; revert hx; decide)]) (fun p hp => ⟨by rw [e1 18 (by decide)], kpA_t (by decide)⟩) rfl (fun t ht => ⟨kpA_t (fun q => ?_), hagA t c ?_ (fun q => by subst q; revert ht; decide) (fun q => by have := q.1; subst this; revert ht; decide)⟩) (o7 _) (fun i _ => kpA_t (by decide)) (fun i hi => ?_) (hc c h)
    · revert q ht; revert t; decide
    · simp only [List.mem_cons, List.not_mem_nil, or_false] at ht
      rcases ht with rfl | rfl | rfl | rfl <;> exact h
    · refine RCl_ag (S := S) (A := A) (C := C) (fun x hx => by rw [e1 x (fun q => by subst q; revert hx; decide)]) rfl rfl (fun t ht => ⟨kpA_t (fun q => ?_), hagA t _ (va_lop hJ h hi ht) (fun q => by subst q; revert ht; decide) (fun q => by have := q.1; subst this; revert ht; decide)⟩) ((hc c h).2.2.2.2 i hi)
      revert q ht; revert t; decide
  · refine ax_grow (S := S) (A := A) (q := K) (n := k) (o := fun t => if t = 48 then 0 else if t = 49 then 1 else 2) (D := fun t => t ∈ [48, 49, 50]) hx hfar (fun t i h => ?_) (fun t t' h h' => (by decide : ∀ t, t ∈ [48, 49, 50] → ∀ t', t' ∈ [48, 49, 50] → (if t = 48 then 0 else if t = 49 then 1 else 2) = (if t' = 48 then 0 else if t' = 49 then 1 else 2) → t = t') t h t' h')
    by_cases e : i = k ∧ t ∈ [48, 49, 50]
    · refine Or.inr ⟨e.1, e.2, ?_, ?_⟩
      · obtain ⟨rfl, e2⟩ := e
        simp only [List.mem_cons, List.not_mem_nil, or_false] at e2
        rcases e2 with rfl | rfl | rfl <;> simp [kpA]
      · split <;> try decide
        split <;> decide
    · refine Or.inl ⟨?_, ?_⟩
      · unfold VA at h ⊢
        rw [e1 1 (by decide), e1 16 (by decide), e1 20 (by decide), e44] at h
        split at h <;> first
          | exact h
          | (show i < S.1 44 0
             have hne : i ≠ k := fun q => e ⟨q, by decide⟩
             omega)
      · by_cases e2 : i = k
        · exact kpA_t (fun q => e ⟨e2, q⟩)
        · exact kpA_i e2
  · obtain ⟨v0, v1, v2, v3⟩ := hWF
    refine ⟨⟨by rw [e1 1 (by decide)]; exact v0.1, by rw [e1 16 (by decide)]; exact v0.2.1, by rw [e44]; omega⟩, fun s h => ?_, fun c h => ?_, ?_⟩
    · rw [e1 1 (by decide)] at h
      have w := v1 s h
      unfold WFs rln vso cso at w ⊢
      rw [e1 2 (by decide), e1 3 (by decide), e1 5 (by decide), e1 6 (by decide), e1 8 (by decide), e1 9 (by decide), e1 10 (by decide), e1 14 (by decide), e1 16 (by decide), e1 17 (by decide), e1 18 (by decide), e1 19 (by decide), e1 70 (by decide)]
      exact w
    · rw [e1 16 (by decide)] at h
      have w := v2 c h
      unfold WFc WFl cso at w ⊢
      rw [e1 17 (by decide), e1 18 (by decide), e1 19 (by decide), e1 20 (by decide), e1 1 (by decide), e1 2 (by decide), e1 3 (by decide), e1 8 (by decide), e1 9 (by decide), e1 10 (by decide), e1 21 (by decide), e1 22 (by decide), e1 23 (by decide), e1 26 (by decide), e1 28 (by decide)]
      exact w
    · unfold WFz at v3 ⊢
      rw [e1 1 (by decide), e1 16 (by decide), e1 17 (by decide), e1 18 (by decide)]
      exact v3
  · intro q hq
    rw [e44] at hq
    have hxx : Kx S (uN S 44 0 (k + 1)) := ⟨fun x hx => e1 x (fun z => hx (by subst z; decide)), fun _ _ => rfl, rfl⟩
    have hyy : ∀ q, Ky S (uN S 44 0 (k + 1)) q := fun q => ⟨⟨by rw [e1 45 (by decide)], by rw [e1 72 (by decide)], fun i _ => by rw [e1 73 (by decide)], fun d _ => ⟨by rw [e1 51 (by decide)], by rw [e1 52 (by decide)]⟩, fun x _ => ⟨by rw [e1 47 (by decide)], by rw [e1 50 (by decide)], by rw [e1 53 (by decide)]⟩⟩, fun _ _ => rfl, fun _ _ _ _ => ⟨rfl, rfl⟩⟩
    have key : RKb S (kpA A K k) (kpC C bx (A 3 2) K k) q := by
      by_cases e : q = k
      · subst e; exact hRKk
      · refine RK_ag (S := S) (S' := S) (A := A) (C := C) ⟨fun _ _ => rfl, fun _ _ => rfl, Nat.le_refl _, fun c hc => ⟨Nat.le_refl _, Nat.le_refl _, fun _ _ => ⟨rfl, ⟨rfl, rfl, rfl⟩, Or.inr rfl⟩, fun _ _ => rfl⟩⟩ (fun t ht x hk' => ⟨kpA_i (by omega), ?_⟩) (fun _ _ => kpA_t (by decide)) hRK q (by omega)
        simp only [List.mem_cons, List.not_mem_nil, or_false] at ht
        rcases ht with rfl | rfl | rfl <;> exact hagA _ x hk' (by decide) (by omega)
    exact RKb_slot hxx (hyy q) hJ key
  · refine RD_ag (A := A) (C := C) ⟨kpA_t (by decide), hagA 2 0 rfl (by decide) (by omega)⟩ (fun hn i hi => ⟨kpA_t (by decide), ?_⟩) hRD
    have e : i = 1 ∨ i = 2 := by simpa using hi
    refine hag2 _ (fun q => ?_) (fun q => ?_)
    · rcases hRD with g | ⟨g1, g2, g3, g4, g5, g6, g7⟩
      · exact hn g.1
      · rcases e with rfl | rfl
        · rw [q, hb.1.1] at g3; exact absurd g3 (by decide)
        · rw [q, hb.1.1] at g5; exact absurd g5 (by decide)
    · exact absurd (hx 0 i 3 2 (show i < 3 by omega) (show (2 : Nat) < 4 by decide) q).1 (by decide)
/-! the number of it, its chains -/
def gh (S : ST) (k c : Nat) (t : TR) : ST := (fun x j => if x = 45 ∧ j = k then c else if x = 72 ∧ j = k then t.1 else if x = 73 ∧ 20 * k ≤ j ∧ j < 20 * k + 20 then t.2 (j - 20 * k) else S.1 x j, S.2)
theorem gh_k {c x : Nat} {t : TR} (h : x ∉ [45, 72, 73]) : (gh S k c t).1 x = S.1 x := by
  simp only [List.mem_cons, List.not_mem_nil, or_false, not_or] at h
  funext j
  show (if x = 45 ∧ j = k then c else if x = 72 ∧ j = k then t.1 else if x = 73 ∧ 20 * k ≤ j ∧ j < 20 * k + 20 then t.2 (j - 20 * k) else S.1 x j) = S.1 x j
  rw [if_neg (fun q => h.1 q.1), if_neg (fun q => h.2.1 q.1), if_neg (fun q => h.2.2 q.1)]
theorem gh_45 {c : Nat} {t : TR} : (gh S k c t).1 45 k = c := if_pos ⟨rfl, rfl⟩
theorem gh_72 {c : Nat} {t : TR} : (gh S k c t).1 72 k = t.1 := by simp [gh]
theorem gh_73 {c i : Nat} {t : TR} (h : i < 20) : (gh S k c t).1 73 (20 * k + i) = t.2 i := by
  have h1 : 20 * k ≤ 20 * k + i := by omega
  simp [gh, h, h1]
theorem rt_cong (h : RT S T) (h1 : ∀ x, x ∈ rtN ∨ x ∈ rtC ∨ x ∈ rtM → S'.1 x = S.1 x) (h2 : S'.2 = S.2) : RT S' T := by
  obtain ⟨a1, a2, a3, a4, a5, a6, a7, a8, a9, b1, b2, b3⟩ := h
  have k3 := h1 3 (Or.inl (by decide))
  have k2 := h1 2 (Or.inl (by decide))
  have k18 := h1 18 (Or.inl (by decide))
  have ev : ∀ x, vso S' x = vso S x := fun x => by unfold vso; rw [k2, k3]
  have ec : ∀ x, cso S' x = cso S x := fun x => by unfold cso; rw [k18, k3]
  refine ⟨fun k hk j => by rw [h1 k (Or.inl hk)]; exact a1 k hk j, fun k hk => by rw [h1 k (Or.inr (Or.inl hk))]; exact a2 k hk, fun k hk j => by rw [h1 k (Or.inr (Or.inr hk))]; exact a3 k hk j, fun k hk j => by rw [h2]; exact a4 k hk j, fun k hk j => by rw [h2]; exact a5 k hk j, fun j => by rw [k3, h2]; exact a6 j, fun j => by rw [ev, h2]; exact a7 j, fun j => by rw [ec, h2]; exact a8 j, fun j => by rw [ec, h2]; exact a9 j, fun j => by rw [ec, h2]; exact b1 j, fun j => by rw [ev, h2]; exact b2 j, fun j => by rw [ec, h2]; exact b3 j⟩
theorem rt_gh {c : Nat} {t : TR} (h : RT S T) : RT (gh S k c t) (tsI T 45 k (i32 c)) := by
  refine rt_cong (rt_uN (k := 45) (j := k) (v := c) h (by decide) (by decide) (by decide) (by decide)) (fun x hx => ?_) rfl
  have h72 : x ≠ 72 := fun q => by subst q; revert hx; decide
  have h73 : x ≠ 73 := fun q => by subst q; revert hx; decide
  funext j
  show (if x = 45 ∧ j = k then c else if x = 72 ∧ j = k then t.1 else if x = 73 ∧ 20 * k ≤ j ∧ j < 20 * k + 20 then t.2 (j - 20 * k) else S.1 x j) = (if x = 45 ∧ j = k then c else S.1 x j)
  rw [if_neg (fun q : x = 72 ∧ j = k => h72 q.1), if_neg (fun q : x = 73 ∧ 20 * k ≤ j ∧ j < 20 * k + 20 => h73 q.1)]
theorem jj_gh {c : Nat} {t : TR} (J : JJ G E B bx m ad S A C T) (hk : k = S.1 44 0) (hR : RT (gh S k c t) T') : JJ G E B bx m ad (gh S k c t) A C T' := by
  have hWF := J.2.2.2.1
  refine jj_slot J ⟨fun x hx => gh_k (fun q => hx ((by decide : ∀ x, x ∈ [45, 72, 73] → x ∈ kNs) x q)), fun _ _ => rfl, rfl⟩ (by rw [gh_k (by decide)]) (fun q hq => ⟨⟨?_, ?_, fun i hi => ?_, fun d _ => ⟨by rw [gh_k (by decide)], by rw [gh_k (by decide)]⟩, fun x _ => ⟨by rw [gh_k (by decide)], by rw [gh_k (by decide)], by rw [gh_k (by decide)]⟩⟩, fun _ _ => rfl, fun _ _ _ _ => ⟨rfl, rfl⟩⟩) (fun s h1 h2 => (hWF.2.2.2.1 s h1 h2).2.1) (fun c h1 h2 => ?_) hWF.2.2.2.2.2.1 hR
  · have h1 : q ≠ k := by omega
    simp [gh, h1]
  · have h1 : q ≠ k := by omega
    simp [gh, h1]
  · have h1 : ¬ (20 * k ≤ 20 * q + i ∧ 20 * q + i < 20 * k + 20) := by omega
    simp [gh, h1]
  · by_cases h : S.1 16 0 ≤ c
    · exact (hWF.2.2.2.2.1 c h h1).2.2.2.2.2
    · rcases h2 with h2 | h2
      · exact absurd h2 h
      · exact ((hWF.2.2.1 c (by omega)).2.2.2.1 h2).2.2.2.2.2.2
theorem jj_cc (J : JJ G E B bx m ad S0 A C T) (hk : k = S0.1 44 0) (h8 : k < 8) (hc : CC S0 S' k) (hR : RT S' T') : JJ G E B bx m ad S' A C T' := by
  have hWF := J.2.2.2.1
  have offN : ∀ x j, (∀ y, y < szN x → j ≠ szN x * k + y) → S'.1 x j = S0.1 x j := fun x j h => by
    rcases hc.1 x j with q | ⟨y, y1, y2, -⟩
    · exact q
    · exact absurd y2 (h y y1)
  have offJ : ∀ x j, (∀ y, y < szJ x → j ≠ szJ x * k + y) → S'.2.1 x j = S0.2.1 x j := fun x j h => by
    rcases hc.2.1 x j with q | ⟨y, y1, y2, -⟩
    · exact q
    · exact absurd y2 (h y y1)
  refine jj_slot J (cc_kx hc) (by rw [cc_N hc (x := 44) rfl]) (fun q hq => ⟨⟨by rw [cc_N hc (x := 45) rfl], by rw [cc_N hc (x := 72) rfl], fun i hi => by rw [cc_N hc (x := 73) rfl], fun d hd => ⟨?_, ?_⟩, fun x hx => ⟨?_, ?_, ?_⟩⟩, fun x hx => ?_, fun x y hx hy => ⟨?_, ?_⟩⟩) (fun s h1 h2 kk hkk j hj => ?_) (fun c h1 h2 kk hkk j hj => ?_) (fun j hj => ⟨?_, ?_⟩) hR
  · exact offN 51 _ (fun y hy => by have hy : y < 20 := hy; show _ ≠ 20 * k + y; omega)
  · exact offN 52 _ (fun y hy => by have hy : y < 20 := hy; show _ ≠ 20 * k + y; omega)
  · exact offN 47 _ (fun y hy => by have hy : y < 60 := hy; show _ ≠ 60 * k + y; omega)
  · exact offN 50 _ (fun y hy => by have hy : y < 60 := hy; show _ ≠ 60 * k + y; omega)
  · exact offN 53 _ (fun y hy => by have hy : y < 60 := hy; show _ ≠ 60 * k + y; omega)
  · exact offJ 48 _ (fun y hy => by have hy : y < 60 := hy; show _ ≠ 60 * k + y; omega)
  · exact offJ 46 _ (fun y hy => by have hy : y < 3840 := hy; show _ ≠ 3840 * k + y; omega)
  · exact offJ 49 _ (fun y hy => by have hy : y < 3840 := hy; show _ ≠ 3840 * k + y; omega)
  · have z := hWF.2.2.2.1 s h1 h2
    rcases hc.2.1 46 (3840 * kk + 64 * s + j) with q | ⟨y, y1, y2, y3⟩
    · rw [q]; exact z.2.1 kk hkk j hj
    · have y1 : y < 3840 := y1
      have y2 : 3840 * kk + 64 * s + j = 3840 * k + y := y2
      rw [y3, show y = 64 * s + j by omega]
      exact z.1 j hj
  · have z : (∀ j, j < 192 → S0.2.1 25 (192 * c + j) = 0) ∧ ∀ k, k < 8 → ∀ j, j < 192 → S0.2.1 49 (3840 * k + 192 * c + j) = 0 := by
      by_cases h : S0.1 16 0 ≤ c
      · exact ⟨(hWF.2.2.2.2.1 c h h1).2.2.2.1, (hWF.2.2.2.2.1 c h h1).2.2.2.2.2⟩
      · rcases h2 with h2 | h2
        · exact absurd h2 h
        · exact ⟨((hWF.2.2.1 c (by omega)).2.2.2.1 h2).2.2.2.2.1, ((hWF.2.2.1 c (by omega)).2.2.2.1 h2).2.2.2.2.2.2⟩
    rcases hc.2.1 49 (3840 * kk + 192 * c + j) with q | ⟨y, y1, y2, y3⟩
    · rw [q]; exact z.2 kk hkk j hj
    · have y1 : y < 3840 := y1
      have y2 : 3840 * kk + 192 * c + j = 3840 * k + y := y2
      rw [y3, show y = 192 * c + j by omega]
      exact z.1 j hj
  · rw [offJ 46 j (fun y hy => by have hy : y < 3840 := hy; show _ ≠ 3840 * k + y; omega)]; exact (hWF.2.2.2.2.2.1 j hj).1
  · rw [offJ 49 j (fun y hy => by have hy : y < 3840 := hy; show _ ≠ 3840 * k + y; omega)]; exact (hWF.2.2.2.2.2.1 j hj).2
end KEPTJ
