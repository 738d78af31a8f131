section LOOP
variable {G : GT} {E B bx m : Nat} {ad : Nat → Nat} {S : ST} {A : AT} {C : CT} {T : MT} {c f t ln : Nat} {v : Int64}
def lpA (A : AT) (q l : Nat) : AT := fun t i => if i = l ∧ t = 4 then q else if i = l ∧ t = 67 then q + 1 else if i = l ∧ t = 68 then q + 2 else A t i
theorem lpA_t {q n t i : Nat} (h : t ∉ [4, 67, 68]) : lpA A q n t i = A t i := by
  simp only [List.mem_cons, List.not_mem_nil, or_false, not_or] at h
  unfold lpA
  rw [if_neg (fun q => h.1 q.2), if_neg (fun q => h.2.1 q.2), if_neg (fun q => h.2.2 q.2)]
theorem lpA_i {q n t i : Nat} (h : i ≠ n) : lpA A q n t i = A t i := by
  unfold lpA
  rw [if_neg (fun q => h q.1), if_neg (fun q => h q.1), if_neg (fun q => h q.1)]
theorem va_lp {x i : Nat} (h3 : S.1 20 c < 3) (h : VA (lpS S c f t ln v) x i) : VA S x i ∨ (i = 3 * c + S.1 20 c ∧ x ∈ [4, 67, 68]) := by
  have k1 : (lpS S c f t ln v).1 1 = S.1 1 := lpS_k (by decide)
  have k16 : (lpS S c f t ln v).1 16 = S.1 16 := lpS_k (by decide)
  have k44 : (lpS S c f t ln v).1 44 = S.1 44 := lpS_k (by decide)
  have kl : i / 3 < S.1 16 0 ∧ i % 3 < (lpS S c f t ln v).1 20 (i / 3) → (i / 3 < S.1 16 0 ∧ i % 3 < S.1 20 (i / 3)) ∨ i = 3 * c + S.1 20 c := by
    rintro ⟨h1, h2⟩
    by_cases e : i / 3 = c
    · rw [e, lpS_20c] at h2
      by_cases q : i % 3 = S.1 20 c
      · exact Or.inr (by omega)
      · exact Or.inl ⟨h1, by rw [e]; omega⟩
    · rw [lpS_20 e] at h2
      exact Or.inl ⟨h1, h2⟩
  unfold VA at h ⊢
  rw [k1, k16, k44] at h
  split at h <;> first
    | exact Or.inl h
    | exact (kl h).elim (fun q => Or.inl q) (fun q => Or.inr ⟨q, by decide⟩)
    | exact h.elim
theorem sm_one {f g : Nat → Nat} {c d : Nat} : ∀ {n : Nat}, c < n → (∀ i, i < n → i ≠ c → f i = g i) → f c + d = g c → sm f n + d = sm g n
  | 0, h, _, _ => absurd h (Nat.not_lt_zero _)
  | n + 1, h, h1, h2 => by
    show sm f n + f n + d = sm g n + g n
    by_cases e : c = n
    · subst e
      rw [sm_congr (f := f) (g := g) (fun i hi => h1 i (by omega) (by omega))]
      omega
    · have := sm_one (n := n) (by omega) (fun i hi hn => h1 i (by omega) hn) h2
      rw [h1 n (by omega) (fun q => e q.symm)]
      omega
theorem jj_loop (J : JJ G E B bx m ad S A C T) (hfar : ∀ t i, VA S t i → A t i < (ck C).1 ∨ (ck C).1 + 1000 ≤ A t i) (hdead : C.2.2.2.2.1 37 (A 2 0) 0 ≠ none → ∀ i, i ∈ [1, 2] → A 0 i < (ck C).1) (hc : c < S.1 16 0) (h3 : S.1 20 c < 3) (hft : f ≤ t) (ht : t < S.1 17 c) (hl : 1 ≤ ln) (hl' : ln ≤ 64) (hv : vb (cso S c) v) (hr : ∀ p, f ≤ p → p ≤ t → rate (S.1 2 (S.1 18 (10 * c + p))) = false) {N : Nat} (hN : 100 ≤ N) :
    ∃ T1, h_R_newLoop N (i32 c) (i32 f) (i32 t) (i32 ln) (dv (cso S c) v) T = some (i32 (S.1 20 c + 1), T1) ∧ JJ G E B bx m ad (lpS S c f t ln v) (lpA A (ck C).1 (3 * c + S.1 20 c)) (tiC C (A 19 c) (A 1 c) (S.1 20 c) f t ln v) T1 := by
  have hJ := J
  obtain ⟨⟨w1, ⟨w2, w2m, w2a⟩, w3⟩, ⟨hb, hss, hcc, hx⟩, hRT, hWF, hRK, hRD⟩ := J
  obtain ⟨T1, hT1, hR1⟩ := rt_lp (f := f) (t := t) (ln := ln) (v := v) hRT (show c < 20 by have := hWF.1.2.1; omega) h3 hN
  have hW1 := WF_lp hWF hc h3 hft ht hl hl' hv hr
  obtain ⟨⟨f1, f2⟩, f3, f4⟩ := lpC_facts (f := f) (t := t) (ln := ln) (v := v) w1
  have hag : ∀ a, a < (ck C).1 → Ag C (lpC C f t ln v) a := fun a ha => lpC_agr.ag ha
  have hva : ∀ t i, VA S t i → t ≠ 0 → A t i < (ck C).1 := fun t i h h0 => (w1.2.1 _ (va_tag hJ h h0)).2
  have hbx : bx < (ck C).1 := (w1.2.1 bx (by rw [hb.1.1]; decide)).2
  have hcr := hcc c hc
  have l1 : A 1 c < (ck C).1 := hva 1 c hc (by decide)
  have l19 : A 19 c < (ck C).1 := hva 19 c hc (by decide)
  have k1 : (lpS S c f t ln v).1 1 = S.1 1 := lpS_k (by decide)
  have k2 : (lpS S c f t ln v).1 2 = S.1 2 := lpS_k (by decide)
  have k16 : (lpS S c f t ln v).1 16 = S.1 16 := lpS_k (by decide)
  have k17 : (lpS S c f t ln v).1 17 = S.1 17 := lpS_k (by decide)
  have k18 : (lpS S c f t ln v).1 18 = S.1 18 := lpS_k (by decide)
  have k19 : (lpS S c f t ln v).1 19 = S.1 19 := lpS_k (by decide)
  have k28 : (lpS S c f t ln v).1 28 = S.1 28 := lpS_k (by decide)
  have k44 : (lpS S c f t ln v).1 44 = S.1 44 := lpS_k (by decide)
  have j27 : (lpS S c f t ln v).2.1 27 = S.2.1 27 := lpS_J (by decide) (by decide)
  have er : ∀ x, rln (lpS S c f t ln v) x = rln S x := fun x => by unfold rln; rw [k2]; rfl
  have ne : ∀ {t i t' i'}, VA S t i → VA S t' i' → (t' ≠ t ∨ i' ≠ i) → A t' i' ≠ A t i := fun h1 h2 h3 => ax_t ⟨hb, hss, hcc, hx⟩ h1 h2 h3
  generalize hY : tiC C (A 19 c) (A 1 c) (S.1 20 c) f t ln v = Y
  generalize hX : lpC C f t ln v = X at *
  have hYe : Y = csI (csA X 900 (A 19 c) (S.1 20 c) (some (ck C).1)) 20 (A 1 c) 0 (i32 (S.1 20 c) + 1) := by rw [← hY, ← hX]; rfl
  have hag2 : ∀ a, a < (ck C).1 → a ≠ A 19 c → a ≠ A 1 c → Ag C Y a := fun a ha h1 h2 => by rw [hYe]; exact ag_csI (ag_csA (hag a ha) h1) h2
  have hagA : ∀ t i, VA S t i → t ≠ 0 → ¬ (t = 19 ∧ i = c) → ¬ (t = 1 ∧ i = c) → Ag C Y (A t i) := fun t i h h0 h1 h2 => hag2 _ (hva t i h h0) (ne (show VA S 19 c from hc) h (by omega)) (ne (show VA S 1 c from hc) h (by omega))
  have hbY : Ag C Y bx := hag2 _ hbx (fun q => by have := hb.1.1; rw [q, hcr.2.2.1.1] at this; exact absurd this (by decide)) (fun q => by have := hb.1.1; rw [q, hcr.1.1] at this; exact absurd this (by decide))
  have hYI : ∀ k a, k ≠ 20 → Y.2.2.1 k a = X.2.2.1 k a := fun k a h => by rw [hYe]; funext y; simp [csI, csA, up3, h]
  have hYJ : ∀ k a, Y.2.2.2.1 k a = X.2.2.2.1 k a := fun k a => by rw [hYe]; rfl
  have hYA : ∀ k a, k ≠ 900 → Y.2.2.2.2.1 k a = X.2.2.2.2.1 k a := fun k a h => by rw [hYe]; funext y; simp [csI, csA, up3, h]
  have hYt : ∀ a, Y.1 a = X.1 a := fun a => by rw [hYe]; rfl
  have hYl : ∀ a, Y.2.1 a = X.2.1 a := fun a => by rw [hYe]; rfl
  have hYc : ck Y = ck X := by rw [hYe]; rfl
  have h20 := hWF.1.2.1
  refine ⟨T1, hT1, ⟨?_, ⟨⟨?_, fun k hk => ?_⟩, ?_, fun k hk => ?_⟩, fun z hz => ?_⟩, ⟨?_, fun s h => ?_, fun c' h => ?_, ?_⟩, hR1, hW1, ?_, ?_⟩
  · rw [hYe]
    refine cw_csI (cw_csA f2 (by rw [(hag _ l19).1, hcr.2.2.1.1]; decide)) (by show X.1 (A 1 c) ≠ 0; rw [(hag _ l1).1, hcr.1.1]; decide)
  · rw [hYt, (hag _ w2m).1]; exact w2.1
  · rw [hYt, (hag _ (w2a k hk)).1]; exact w2.2 k hk
  · rw [hYc, f1]; show m < (ck C).1 + 3; omega
  · rw [hYc, f1]; show ad k < (ck C).1 + 3; have := w2a k hk; omega
  · have e2 : lpA A (ck C).1 (3 * c + S.1 20 c) 2 0 = A 2 0 := lpA_t (by decide)
    rw [e2, (hagA 2 0 rfl (by decide) (by omega) (by omega)).2.2.2.2.1] at hz
    have := w3 z hz
    have es : sm (fun x => 3 - (lpS S c f t ln v).1 20 x) (S.1 16 0) + 1 = sm (fun x => 3 - S.1 20 x) (S.1 16 0) := sm_one hc (fun i _ hi => by show 3 - (lpS S c f t ln v).1 20 i = 3 - S.1 20 i; rw [lpS_20 hi]) (by show 3 - (lpS S c f t ln v).1 20 c + 1 = 3 - S.1 20 c; rw [lpS_20c]; omega)
    rw [hYc, f1, k1, k16, k44]
    show (ck C).1 + 3 + _ + _ + _ + _ + _ ≤ _ ∧ (ck C).2 + 4 + 2 + ln + _ + _ + _ + _ + _ ≤ _
    omega
  · have hA : ∀ i, i < 4 → Ag C Y (A 3 i) := fun i hi => hagA 3 i hi (by decide) (by omega) (by omega)
    refine RCb_of hb hbY.1 (fun k _ => congrFun (hbY.2.2.2.2.1 k) 0) ?_ ?_ ?_ (fun _ => lpA_t (by decide)) (fun _ => lpA_t (by decide)) (lpA_t (by decide)) (fun i hi => hagA 5 i hi (by decide) (by omega) (by omega)) (fun i hi => ⟨(hA i hi).1, (hA i hi).2.1⟩) (hagA 2 0 rfl (by decide) (by omega) (by omega)).1 (fun x h => ?_) (fun x h => ?_) (fun x h => ?_)
    · rw [hbY.2.2.1, k1]; exact hb.2.1.1
    · rw [hbY.2.2.1, k16]; exact hb.2.1.2.1
    · rw [hbY.2.2.1, k44]; exact hb.2.1.2.2
    · rw [(hA 0 (by decide)).2.2.2.2.1, k1, lpA_t (by decide)]; exact hb.2.2.2.1.2.2 x h
    · rw [(hA 1 (by decide)).2.2.2.2.1, k16, lpA_t (by decide)]; exact hb.2.2.2.2.1.2.2 x h
    · rw [(hA 2 (by decide)).2.2.2.2.1, k44, lpA_t (by decide)]; exact hb.2.2.2.2.2.1.2.2 x h
  · rw [k1] at h
    have ho : ∀ n, oA (lpA A (ck C).1 (3 * c + S.1 20 c)) 1 n = oA A 1 n := fun n => by
      cases n with
      | zero => rfl
      | succ n => exact congrArg some (lpA_t (by decide))
    refine RCs_ag (S := S) (A := A) (C := C) ⟨fun k hk => ?_, fun _ _ => rfl, by rw [lpS_J (by decide) (by decide)], lpS_J (by decide) (by decide), lpS_J (by decide) (by decide)⟩ (fun t ht => ⟨lpA_t ((by decide : ∀ t, t ∈ [7, 117, 118, 96, 121, 98] → t ∉ [4, 67, 68]) t ht), ?_⟩) (lpA_t (by decide)) (ho _) (ho _) (hss s h)
    · exact congrFun (lpS_k ((by decide : ∀ k, k ∈ [2, 3, 5, 6, 8, 9, 10, 14, 70] → k ∉ [20, 21, 22, 23, 26, 71]) k hk)) _
    · simp only [List.mem_cons, List.not_mem_nil, or_false] at ht
      rcases ht with rfl | rfl | rfl | rfl | rfl | rfl <;> exact hagA _ s h (by decide) (by omega) (by omega)
  · rw [k16] at h
    have wc := hWF.2.2.1 c' h
    have ho : ∀ n, oA (lpA A (ck C).1 (3 * c + S.1 20 c)) 7 n = oA A 7 n := fun n => by
      cases n with
      | zero => rfl
      | succ n => exact congrArg some (lpA_t (by decide))
    have hol : ∀ i, i < S.1 20 c' → RCl (lpS S c f t ln v) (lpA A (ck C).1 (3 * c + S.1 20 c)) Y (3 * c' + i) := fun i hi => by
      have hi3 : i < 3 := by have := wc.1.2.1; omega
      have hne : 3 * c' + i ≠ 3 * c + S.1 20 c := fun q => by
        have : c' = c := by omega
        subst this
        omega
      have hq : (3 * c' + i) / 3 < S.1 16 0 ∧ (3 * c' + i) % 3 < S.1 20 ((3 * c' + i) / 3) := by
        rw [show (3 * c' + i) / 3 = c' by omega, show (3 * c' + i) % 3 = i by omega]; exact ⟨h, hi⟩
      refine RCl_agr (S := S) (A := A) (C := C) (fun k hk => lpS_l (fun q => by subst q; revert hk; decide) hne) (lpS_24 hne) (fun j hj => lpS_25 (by omega)) (wc.2.2.2.2.1 i hi).2.2.2.1 (fun t ht => ⟨lpA_i hne, ?_⟩) ((hcc c' h).2.2.2.2 i hi)
      simp only [List.mem_cons, List.not_mem_nil, or_false] at ht
      rcases ht with rfl | rfl | rfl <;> exact hagA _ _ hq (by decide) (by omega) (by omega)
    by_cases e : c' = c
    · subst e
      obtain ⟨⟨g1, g2, g3, g4, g5, g6, g7, g8, g9, gX, gY⟩, r, ⟨u1, u2, u3⟩, z, -⟩ := hcr
      have a17 := hagA 17 c' (show c' < S.1 16 0 from hc) (by decide) (by omega) (by omega)
      have a21 := hagA 21 c' (show c' < S.1 16 0 from hc) (by decide) (by omega) (by omega)
      have x1 := hag _ l1
      have x19 := hag _ l19
      have p1 : lpA A (ck C).1 (3 * c' + S.1 20 c') 1 c' = A 1 c' := lpA_t (by decide)
      have p17 : lpA A (ck C).1 (3 * c' + S.1 20 c') 17 c' = A 17 c' := lpA_t (by decide)
      have p19 : lpA A (ck C).1 (3 * c' + S.1 20 c') 19 c' = A 19 c' := lpA_t (by decide)
      have p21 : lpA A (ck C).1 (3 * c' + S.1 20 c') 21 c' = A 21 c' := lpA_t (by decide)
      have i20 : Y.2.2.1 20 (A 1 c') 0 = i32 (S.1 20 c' + 1) := by rw [hYe, ← i32_add]; simp [csI, csA, up3]; rfl
      unfold RCc
      rw [p1, p17, p19, p21, k17, k18, k19, k28, j27, lpS_20c, i20, ho, hYt, hYI _ _ (show (16 : Nat) ≠ 20 by decide), hYI _ _ (show (18 : Nat) ≠ 20 by decide), hYI _ _ (show (22 : Nat) ≠ 20 by decide), hYI _ _ (show (23 : Nat) ≠ 20 by decide), hYI _ _ (show (24 : Nat) ≠ 20 by decide), hYA _ _ (show (17 : Nat) ≠ 900 by decide), hYA _ _ (show (19 : Nat) ≠ 900 by decide), hYA _ _ (show (21 : Nat) ≠ 900 by decide), hYA _ _ (show (25 : Nat) ≠ 900 by decide), x1.1, x1.2.2.1, x1.2.2.1, x1.2.2.1, x1.2.2.1, x1.2.2.1, x1.2.2.2.2.1, x1.2.2.2.2.1, x1.2.2.2.2.1, x1.2.2.2.2.1]
      refine ⟨⟨g1, g2, g3, g4, g5, rfl, g7, g8, g9, gX, gY⟩, ?_, ⟨?_, ?_, fun i hi => ?_⟩, ?_, fun i hi => ?_⟩
      · rw [a17.1, a17.2.1, a17.2.2.2.2.1]
        refine ⟨r.1, r.2.1, fun p hp => ?_⟩
        rw [r.2.2 p hp, lpA_t (by decide)]
      · rw [hYt, x19.1]; exact u1
      · rw [hYl, x19.2.1]; exact u2
      · by_cases q : i = S.1 20 c'
        · subst q
          rw [if_pos (by omega), hYe]
          simp [csI, csA, up3, lpA]
        · have e1 : Y.2.2.2.2.1 900 (A 19 c') i = X.2.2.2.2.1 900 (A 19 c') i := by rw [hYe]; simp [csI, csA, up3, q]
          rw [e1, congrFun (x19.2.2.2.2.1 900) i, u3 i hi]
          by_cases q2 : i < S.1 20 c'
          · rw [if_pos q2, if_pos (by omega), lpA_i (by omega)]
          · rw [if_neg q2, if_neg (by omega)]
      · rw [a21.1, a21.2.1, a21.2.2.2.1]; exact z
      · by_cases q : i = S.1 20 c'
        · subst q
          obtain ⟨y1, y2, y3, y4, y5⟩ := f3
          obtain ⟨z1, z2, z3, z4, z5, z6⟩ := f4
          have p4 : lpA A (ck C).1 (3 * c' + S.1 20 c') 4 (3 * c' + S.1 20 c') = (ck C).1 := by simp [lpA]
          have p67 : lpA A (ck C).1 (3 * c' + S.1 20 c') 67 (3 * c' + S.1 20 c') = (ck C).1 + 1 := by simp [lpA]
          have p68 : lpA A (ck C).1 (3 * c' + S.1 20 c') 68 (3 * c' + S.1 20 c') = (ck C).1 + 2 := by simp [lpA]
          unfold RCl ring
          rw [p4, p67, p68, lpS_21, lpS_22, lpS_23, lpS_26, lpS_71, lpS_24s]
          simp only [hYt, hYl, hYJ, hYI _ _ (show (64 : Nat) ≠ 20 by decide), hYI _ _ (show (65 : Nat) ≠ 20 by decide), hYI _ _ (show (97 : Nat) ≠ 20 by decide), hYA _ _ (show (67 : Nat) ≠ 900 by decide), hYA _ _ (show (96 : Nat) ≠ 900 by decide)]
          refine ⟨⟨y1, y2, y3, y4, y5⟩, z1, z2, z3, z4, z5, Or.inl trivial, Or.inl trivial, fun k hk => ?_⟩
          rw [z6, lpS_25s (by have := Nat.mod_lt (0 + k) (show 0 < ln by omega); omega)]
        · exact hol i (by omega)
    · refine RCc_ag (S := S) (A := A) (C := C) (fun k hk => ?_) (fun p hp => ⟨congrFun k18 _, lpA_t (by decide)⟩) j27 (fun t ht => ⟨lpA_t ((by decide : ∀ t, t ∈ [1, 17, 19, 21] → t ∉ [4, 67, 68]) t ht), ?_⟩) (ho _) (fun i hi => lpA_i (fun q => ?_)) hol (hcc c' h)
      · simp only [List.mem_cons, List.not_mem_nil, or_false] at hk
        rcases hk with rfl | rfl | rfl | rfl
        · rw [k17]
        · rw [k19]
        · exact lpS_20 e
        · rw [k28]
      · simp only [List.mem_cons, List.not_mem_nil, or_false] at ht
        rcases ht with rfl | rfl | rfl | rfl <;> exact hagA _ c' h (by decide) (by omega) (by omega)
      · have := wc.1.2.1
        omega
  · refine ax_grow (S := S) (A := A) (q := (ck C).1) (n := 3 * c + S.1 20 c) (o := fun t => if t = 4 then 0 else if t = 67 then 1 else 2) (D := fun t => t ∈ [4, 67, 68]) hx hfar (fun x i h => ?_) (fun t t' h h' => (by decide : ∀ t, t ∈ [4, 67, 68] → ∀ t', t' ∈ [4, 67, 68] → (if t = 4 then 0 else if t = 67 then 1 else 2) = (if t' = 4 then 0 else if t' = 67 then 1 else 2) → t = t') t h t' h')
    by_cases e : i = 3 * c + S.1 20 c ∧ x ∈ [4, 67, 68]
    · refine Or.inr ⟨e.1, e.2, ?_, ?_⟩
      · obtain ⟨rfl, e2⟩ := e
        simp only [List.mem_cons, List.not_mem_nil, or_false] at e2
        rcases e2 with rfl | rfl | rfl <;> simp [lpA]
      · split <;> try decide
        split <;> decide
    · refine Or.inl ⟨?_, ?_⟩
      · rcases va_lp h3 h with q | q
        · exact q
        · exact absurd q e
      · by_cases e1 : i = 3 * c + S.1 20 c
        · exact lpA_t (fun q => e ⟨e1, q⟩)
        · exact lpA_i e1
  · refine RK_ag (S := S) (A := A) (C := C) ⟨fun k hk => ?_, fun k hk => lpS_J (fun q => by subst q; revert hk; decide) (fun q => by subst q; revert hk; decide), by rw [k16]; exact Nat.le_refl _, fun x h => ⟨by rw [k17]; exact Nat.le_refl _, ?_, fun p hp => ⟨congrFun k18 _, ⟨congrFun (lpS_k (k := 2) (by decide)) _, congrFun (lpS_k (k := 3) (by decide)) _, rfl⟩, Or.inr (congrFun (lpS_k (k := 10) (by decide)) _)⟩, fun i hi => lpS_l (by decide) (fun q => ?_)⟩⟩ (fun t ht k hk => ⟨lpA_t ((by decide : ∀ t, t ∈ [48, 49, 50] → t ∉ [4, 67, 68]) t ht), ?_⟩) (fun _ _ => lpA_t (by decide)) hRK
    · exact lpS_k ((by decide : ∀ k, k ∈ [44, 45, 47, 50, 51, 52, 53, 72, 73] → k ∉ [20, 21, 22, 23, 26, 71]) k hk)
    · by_cases e : x = c
      · subst e; rw [lpS_20c]; omega
      · rw [lpS_20 e]; exact Nat.le_refl _
    · have := (hWF.2.2.1 x h).1.2.1
      have : x = c := by omega
      subst this
      omega
    · simp only [List.mem_cons, List.not_mem_nil, or_false] at ht
      rcases ht with rfl | rfl | rfl <;> exact hagA _ k hk (by decide) (by omega) (by omega)
  · refine RD_ag (A := A) (C := C) ⟨lpA_t (by decide), hagA 2 0 rfl (by decide) (by omega) (by omega)⟩ (fun hn i hi => ⟨lpA_t (by decide), ?_⟩) hRD
    have e : i = 1 ∨ i = 2 := by simpa using hi
    exact hag2 _ (hdead hn i hi) (ne (show VA S 19 c from hc) (show i < 3 by omega) (by omega)) (ne (show VA S 1 c from hc) (show i < 3 by omega) (by omega))
end LOOP
