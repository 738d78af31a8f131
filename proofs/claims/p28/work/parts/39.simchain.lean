section SIMCHAIN
variable {G : GT} {E B bx m : Nat} {ad : Nat → Nat} {S : ST} {A : AT} {C : CT} {T : MT}
def chA (A : AT) (q n : Nat) : AT := fun t i => if i = n ∧ t = 1 then q else if i = n ∧ t = 17 then q + 1 else if i = n ∧ t = 19 then q + 2 else if i = n ∧ t = 21 then q + 3 else A t i
theorem chA_t {q n t i : Nat} (h : t ∉ [1, 17, 19, 21]) : chA A q n t i = A t i := by
  simp only [List.mem_cons, List.not_mem_nil, or_false, not_or] at h
  unfold chA
  rw [if_neg (fun q => h.1 q.2), if_neg (fun q => h.2.1 q.2), if_neg (fun q => h.2.2.1 q.2), if_neg (fun q => h.2.2.2 q.2)]
theorem chA_i {q n t i : Nat} (h : i ≠ n) : chA A q n t i = A t i := by
  unfold chA
  rw [if_neg (fun q => h q.1), if_neg (fun q => h q.1), if_neg (fun q => h q.1), if_neg (fun q => h q.1)]
theorem va_ch {t i : Nat} (h : VA (chS S) t i) : VA S t i ∨ (i = S.1 16 0 ∧ t ∈ [1, 17, 19, 21]) := by
  have k1 : (chS S).1 1 = S.1 1 := chS_k (by decide) (by decide)
  have k44 : (chS S).1 44 = S.1 44 := chS_k (by decide) (by decide)
  have kl : i / 3 < S.1 16 0 + 1 ∧ i % 3 < (chS S).1 20 (i / 3) → i / 3 < S.1 16 0 ∧ i % 3 < S.1 20 (i / 3) := by
    rintro ⟨h1, h2⟩
    by_cases e : i / 3 = S.1 16 0
    · rw [e, chS_at (k := 20) (by decide)] at h2
      exact absurd h2 (Nat.not_lt_zero _)
    · rw [chS_ne e (by decide)] at h2
      exact ⟨by omega, h2⟩
  unfold VA at h ⊢
  rw [chS_16, k1, k44] at h
  split at h <;> first
    | exact Or.inl h
    | exact Or.inl (kl h)
    | (by_cases e : i = S.1 16 0
       · exact Or.inr ⟨e, by decide⟩
       · exact Or.inl (by show i < S.1 16 0; omega))
    | exact h.elim
def ncC (C : CT) (bx a31 n : Nat) : CT := csI (csA (csI (chC C) 16 (ck C).1 0 (i32 n)) 900 a31 n (some (ck C).1)) 6 bx 0 (i32 n + 1)
theorem jj_newChain (J : JJ G E B bx m ad S A C T) (hfar : ∀ t i, VA S t i → A t i < (ck C).1 ∨ (ck C).1 + 1000 ≤ A t i) (hdead : C.2.2.2.2.1 37 (A 2 0) 0 ≠ none → ∀ i, i ∈ [1, 2] → A 0 i < (ck C).1) (h20 : S.1 16 0 < 20) :
    ∃ T1, c_B_chain bx C = some (i32 (S.1 16 0), ncC C bx (A 3 1) (S.1 16 0)) ∧ h_R_newChain T = some (i32 (S.1 16 0), T1) ∧ JJ G E B bx m ad (chS S) (chA A (ck C).1 (S.1 16 0)) (ncC C bx (A 3 1) (S.1 16 0)) T1 := by
  have hJ := J
  obtain ⟨⟨w1, ⟨w2, w2m, w2a⟩, w3⟩, ⟨hb, hs, hc, hx⟩, hRT, hWF, hRK, hRD⟩ := J
  obtain ⟨T1, hT1, hR1⟩ := rt_ch hRT h20
  obtain ⟨⟨f1, f2⟩, f3, f4, f5, f6⟩ := chC_facts w1
  have hag : ∀ a, a < (ck C).1 → Ag C (chC C) a := fun a ha => chC_agr.ag ha
  have hva : ∀ t i, VA S t i → t ≠ 0 → A t i < (ck C).1 := fun t i h h0 => (w1.2.1 _ (va_tag hJ h h0)).2
  have hbx : bx < (ck C).1 := (w1.2.1 bx (by rw [hb.1.1]; decide)).2
  have h31 : A 3 1 < (ck C).1 := hva 3 1 (show (1 : Nat) < 4 by decide) (by decide)
  refine ⟨T1, ?_, hT1, ?_⟩
  · have e7 : ∀ k, k ∈ [16] → True := fun _ _ => trivial
    unfold c_B_chain
    rw [rb_chainCount hb, obd_some, rb_chains hb, obd_some, obd_some, cal_of (n := 20) (by rw [hb.2.2.2.2.1.1]; decide) hb.2.2.2.2.1.2.1, obd_some, if_pos (by rw [i32_lt (by omega) (by omega)]; omega)]
    unfold cnew
    dsimp only
    rw [show cfr C (1 + 1) 0 (jnfl 1) = cfr C 2 0 10 from rfl, cinit_of, obd_some, cob_of (C := chC C) (ci := 0) (by rw [(hag bx hbx).1]; exact hb.1.1), jgd_true]
    unfold c_B_registered
    rw [cgI_ag (hag bx hbx), rb_chainCount hb, obd_some, if_neg (i32_nonneg (by omega)), obd_some, cgA_ag (hag bx hbx), rb_chains hb, obd_some, obd_some, cal_of (n := 20) (by rw [(hag _ h31).1, hb.2.2.2.2.1.1]; decide) (by rw [(hag _ h31).2.1]; exact hb.2.2.2.2.1.2.1), obd_some, if_pos (by rw [i32_lt (by omega) (by omega)]; omega), obd_some, obd_some, cpI_of (ci := 1) f3.1 (by decide) (by decide), obd_some]
    have g8 : ∀ a, a < (ck C).1 → Ag C (csI (chC C) (16 * 1 + 0) (ck C).1 0 (i32 (S.1 16 0))) a := fun a ha => ag_csI (hag a ha) (by omega)
    rw [cgA_ag (g8 bx hbx), rb_chains hb, obd_some, cgI_ag (g8 bx hbx), rb_chainCount hb, obd_some, obd_some, cqA_of (n := 20) (by rw [(g8 _ h31).1]; exact hb.2.2.2.2.1.1) (by decide) (show (csI (chC C) (16 * 1 + 0) (ck C).1 0 (i32 (S.1 16 0))).1 (ck C).1 = 1 + 1 from f3.1) (by rw [(g8 _ h31).2.1]; exact hb.2.2.2.2.1.2.1) h20 (by decide), obd_some]
    have e1 : cgI (csA (csI (chC C) (16 * 1 + 0) (ck C).1 0 (i32 (S.1 16 0))) 900 (A 3 1) (S.1 16 0) (some (ck C).1)) bx 0 6 = some (i32 (S.1 16 0)) := (cgI_ag (g8 bx hbx)).trans (rb_chainCount hb)
    rw [e1, obd_some, cpI_of (ci := 0) (by show (chC C).1 bx = 0 + 1; rw [(hag bx hbx).1]; exact hb.1.1) (by decide) (by decide), obd_some]
    have e2 : cgI (csI (csA (csI (chC C) (16 * 1 + 0) (ck C).1 0 (i32 (S.1 16 0))) 900 (A 3 1) (S.1 16 0) (some (ck C).1)) (16 * 0 + 6) bx 0 (i32 (S.1 16 0) + 1)) (ck C).1 1 0 = some (i32 (S.1 16 0)) := by
      refine (if_pos (show (chC C).1 (ck C).1 = 1 + 1 from f3.1)).trans (congrArg some ?_)
      simp [csI, csA, up3]
    rw [e2, obd_some, cbd2_some]
    rfl
  · generalize hX : chC C = X at *
    have hC1 : ncC C bx (A 3 1) (S.1 16 0) = csI (csA (csI X 16 (ck C).1 0 (i32 (S.1 16 0))) 900 (A 3 1) (S.1 16 0) (some (ck C).1)) 6 bx 0 (i32 (S.1 16 0) + 1) := by rw [← hX]; rfl
    rw [hC1]
    have hag2 : ∀ a, a < (ck C).1 → a ≠ bx → a ≠ A 3 1 → Ag C (csI (csA (csI X 16 (ck C).1 0 (i32 (S.1 16 0))) 900 (A 3 1) (S.1 16 0) (some (ck C).1)) 6 bx 0 (i32 (S.1 16 0) + 1)) a := fun a ha h1 h2 => ag_csI (ag_csA (ag_csI (hag a ha) (by omega)) h2) h1
    have hagA : ∀ t i, VA S t i → t ≠ 0 → t ≠ 3 → Ag C (csI (csA (csI X 16 (ck C).1 0 (i32 (S.1 16 0))) 900 (A 3 1) (S.1 16 0) (some (ck C).1)) 6 bx 0 (i32 (S.1 16 0) + 1)) (A t i) := by
      intro t i h h0 h3
      refine hag2 _ (hva t i h h0) (fun e => ?_) (fun e => h3 (hx t i 3 1 h (show (1 : Nat) < 4 by decide) e).1)
      exact va_bx hJ h h0 (by rw [e]; exact hb.1.1)
    generalize hY : csI (csA (csI X 16 (ck C).1 0 (i32 (S.1 16 0))) 900 (A 3 1) (S.1 16 0) (some (ck C).1)) 6 bx 0 (i32 (S.1 16 0) + 1) = Y at *
    have hYI : ∀ k a, k ≠ 6 → k ≠ 16 → Y.2.2.1 k a = X.2.2.1 k a := fun k a h h' => by rw [← hY]; funext y; simp [csI, csA, up3, h, h']
    have hYI' : ∀ k a, a ≠ bx → a ≠ (ck C).1 → Y.2.2.1 k a = X.2.2.1 k a := fun k a h h' => by rw [← hY]; funext y; simp [csI, csA, up3, h, h']
    have hYJ : ∀ k a, Y.2.2.2.1 k a = X.2.2.2.1 k a := fun k a => by rw [← hY]; rfl
    have hYA : ∀ k a, k ≠ 900 → Y.2.2.2.2.1 k a = X.2.2.2.2.1 k a := fun k a h => by rw [← hY]; funext y; simp [csI, csA, up3, h]
    have hYA' : ∀ k a, a ≠ A 3 1 → Y.2.2.2.2.1 k a = X.2.2.2.2.1 k a := fun k a h => by rw [← hY]; funext y; simp [csI, csA, up3, h]
    have hYt : ∀ a, Y.1 a = X.1 a := fun a => by rw [← hY]; rfl
    have hYl : ∀ a, Y.2.1 a = X.2.1 a := fun a => by rw [← hY]; rfl
    have hYc : ck Y = ck X := by rw [← hY]; rfl
    have k1 : (chS S).1 1 = S.1 1 := chS_k (by decide) (by decide)
    have k18 : (chS S).1 18 = S.1 18 := chS_k (by decide) (by decide)
    have k23 : (chS S).1 23 = S.1 23 := chS_k (by decide) (by decide)
    have k44 : (chS S).1 44 = S.1 44 := chS_k (by decide) (by decide)
    have hss : ∀ s, Ss S (chS S) s := fun s => ⟨fun k hk => by
      refine congrFun (chS_k (fun q => ?_) (fun q => by subst q; revert hk; decide)) _
      revert q hk; revert k; decide, fun _ _ => rfl, rfl, rfl, rfl⟩
    have h30 : A 3 0 ≠ A 3 1 := fun e => absurd (hx 3 0 3 1 (show (0 : Nat) < 4 by decide) (show (1 : Nat) < 4 by decide) e).2 (by decide)
    have h32 : A 3 2 ≠ A 3 1 := fun e => absurd (hx 3 2 3 1 (show (2 : Nat) < 4 by decide) (show (1 : Nat) < 4 by decide) e).2 (by decide)
    have l3 : ∀ i, i < 4 → A 3 i < (ck C).1 := fun i h => hva 3 i h (by decide)
    have ho1 : ∀ n, n ≤ S.1 16 0 → oA (chA A (ck C).1 (S.1 16 0)) 1 n = oA A 1 n := fun n hn => by
      cases n with
      | zero => rfl
      | succ n => exact congrArg some (chA_i (by omega))
    refine ⟨⟨?_, ⟨⟨?_, fun k hk => ?_⟩, ?_, fun k hk => ?_⟩, fun z hz => ?_⟩, ⟨?_, fun s h => ?_, fun c h => ?_, ?_⟩, hR1, WF_ch hWF h20, ?_, ?_⟩
    · rw [← hY]
      refine cw_csI (cw_csA (cw_csI f2 (by rw [f3.1]; decide)) (by show X.1 (A 3 1) ≠ 0; rw [(hag _ h31).1, hb.2.2.2.2.1.1]; decide)) (by show X.1 bx ≠ 0; rw [(hag _ hbx).1, hb.1.1]; decide)
    · rw [hYt, (hag _ w2m).1]; exact w2.1
    · rw [hYt, (hag _ (w2a k hk)).1]; exact w2.2 k hk
    · rw [hYc, f1]; show m < (ck C).1 + 4; omega
    · rw [hYc, f1]; show ad k < (ck C).1 + 4; have := w2a k hk; omega
    · have e2 : chA A (ck C).1 (S.1 16 0) 2 0 = A 2 0 := chA_t (by decide)
      rw [e2, (hagA 2 0 rfl (by decide) (by decide)).2.2.2.2.1] at hz
      have := w3 z hz
      rw [hYc, f1, chS_16, k1, k44]
      have es : sm (fun c => 3 - (chS S).1 20 c) (S.1 16 0 + 1) = sm (fun c => 3 - S.1 20 c) (S.1 16 0) + 3 := by
        show sm (fun c => 3 - (chS S).1 20 c) (S.1 16 0) + (3 - (chS S).1 20 (S.1 16 0)) = _
        rw [chS_at (k := 20) (by decide), sm_congr (f := fun c => 3 - (chS S).1 20 c) (g := fun c => 3 - S.1 20 c) (fun c hc => by show 3 - (chS S).1 20 c = 3 - S.1 20 c; rw [chS_ne (by omega) (by decide)])]
      rw [es]
      show (ck C).1 + 4 + _ + _ + _ + _ + _ ≤ _ ∧ (ck C).2 + 10 + 10 + 3 + 400 + _ + _ + _ + _ + _ ≤ _
      omega
    · refine RCb_of hb (by rw [hYt]; exact (hag _ hbx).1) (fun k hk => by rw [hYA k bx (by omega)]; exact congrFun ((hag _ hbx).2.2.2.2.1 k) 0) ?_ ?_ ?_ (fun i => chA_t (by decide)) (fun i => chA_t (by decide)) (chA_t (by decide)) (fun i hi => hagA 5 i hi (by decide) (by decide))
        (fun i hi => ⟨by rw [hYt]; exact (hag _ (l3 i hi)).1, by rw [hYl]; exact (hag _ (l3 i hi)).2.1⟩) (by rw [hYt]; exact (hag _ (hva 2 0 rfl (by decide))).1) (fun s h => ?_) (fun c h => ?_) (fun k h => ?_)
      · rw [hYI 4 bx (by decide) (by decide), k1, congrFun ((hag _ hbx).2.2.1 4) 0]; exact hb.2.1.1
      · rw [← hY, chS_16, ← i32_add]
        simp [csI, up3]
        rfl
      · rw [hYI 8 bx (by decide) (by decide), k44, congrFun ((hag _ hbx).2.2.1 8) 0]; exact hb.2.1.2.2
      · rw [hYA' 900 _ h30, congrFun ((hag _ (l3 0 (by decide))).2.2.2.2.1 900) s, k1, chA_t (by decide)]
        exact hb.2.2.2.1.2.2 s h
      · rw [chS_16]
        by_cases e : c = S.1 16 0
        · subst e
          rw [if_pos (by omega), ← hY]
          simp [csI, csA, up3, chA]
        · have e1 : Y.2.2.2.2.1 900 (A 3 1) c = X.2.2.2.2.1 900 (A 3 1) c := by rw [← hY]; simp [csI, csA, up3, e]
          rw [e1, congrFun ((hag _ h31).2.2.2.2.1 900) c, hb.2.2.2.2.1.2.2 c h, chA_i e]
          by_cases q : c < S.1 16 0
          · rw [if_pos q, if_pos (by omega)]
          · rw [if_neg q, if_neg (by omega)]
      · rw [hYA' 900 _ h32, congrFun ((hag _ (l3 2 (by decide))).2.2.2.2.1 900) k, k44, chA_t (by decide)]
        exact hb.2.2.2.2.2.1.2.2 k h
    · rw [k1] at h
      refine RCs_ag (hss s) (fun t ht => ⟨chA_t (fun q => ?_), hagA t s ?_ (fun q => by subst q; revert ht; decide) (fun q => by subst q; revert ht; decide)⟩) (chA_t (by decide)) (ho1 _ (home_le hJ h)) (ho1 _ (inner_le hJ h)) (hs s h)
      · revert q ht; revert t; decide
      · simp only [List.mem_cons, List.not_mem_nil, or_false] at ht
        rcases ht with rfl | rfl | rfl | rfl | rfl | rfl <;> exact h
    · rw [chS_16] at h
      by_cases e : c = S.1 16 0
      · subst e
        obtain ⟨q1, q2, q3, q4, q5, q6, q7, q8, q9, qX⟩ := f3
        obtain ⟨r1, r2, r3⟩ := f4
        obtain ⟨u1, u2, u3⟩ := f5
        obtain ⟨v1, v2, v3⟩ := f6
        have hz := hWF.2.2.2.2.1 (S.1 16 0) (Nat.le_refl _) h20
        have p1 : chA A (ck C).1 (S.1 16 0) 1 (S.1 16 0) = (ck C).1 := by simp [chA]
        have p17 : chA A (ck C).1 (S.1 16 0) 17 (S.1 16 0) = (ck C).1 + 1 := by simp [chA]
        have p19 : chA A (ck C).1 (S.1 16 0) 19 (S.1 16 0) = (ck C).1 + 2 := by simp [chA]
        have p21 : chA A (ck C).1 (S.1 16 0) 21 (S.1 16 0) = (ck C).1 + 3 := by simp [chA]
        have i16 : Y.2.2.1 16 (ck C).1 0 = i32 (S.1 16 0) := by rw [← hY]; simp [csI, csA, up3]
        unfold RCc
        rw [chS_at (k := 17) (by decide), chS_at (k := 19) (by decide), chS_at (k := 20) (by decide), chS_at (k := 28) (by decide), p1, p17, p19, p21, i16]
        simp only [hYt, hYl, hYJ, hYI _ _ (show (18 : Nat) ≠ 6 by decide) (show (18 : Nat) ≠ 16 by decide), hYI _ _ (show (20 : Nat) ≠ 6 by decide) (show (20 : Nat) ≠ 16 by decide), hYI _ _ (show (22 : Nat) ≠ 6 by decide) (show (22 : Nat) ≠ 16 by decide), hYI _ _ (show (23 : Nat) ≠ 6 by decide) (show (23 : Nat) ≠ 16 by decide), hYI _ _ (show (24 : Nat) ≠ 6 by decide) (show (24 : Nat) ≠ 16 by decide),
          hYA _ _ (show (17 : Nat) ≠ 900 by decide), hYA _ _ (show (19 : Nat) ≠ 900 by decide), hYA _ _ (show (21 : Nat) ≠ 900 by decide), hYA _ _ (show (25 : Nat) ≠ 900 by decide), hYA' 900 ((ck C).1 + 1) (by omega), hYA' 900 ((ck C).1 + 2) (by omega)]
        refine ⟨⟨q1, trivial, q2, q3, q4, q5, q6, q7, q8, q9, qX⟩, ⟨r1, r2, fun p _ => ?_⟩, ⟨u1, u2, fun i _ => ?_⟩, ⟨v1, v2, fun j h => ?_⟩, fun i hi => absurd hi (Nat.not_lt_zero _)⟩
        · rw [r3, if_neg (Nat.not_lt_zero _)]
        · rw [u3, if_neg (Nat.not_lt_zero _)]
        · rw [v3]; exact (hz.2.2.2.2.1 j h).symm
      · have hc' : c < S.1 16 0 := by omega
        have wc := hWF.2.2.1 c hc'
        refine RCc_ag (fun k hk => chS_ne e (fun q => by subst q; revert hk; decide)) (fun p hp => ⟨congrFun k18 _, chA_t (by decide)⟩) rfl (fun t ht => ⟨chA_i e, hagA t c ?_ (fun q => by subst q; revert ht; decide) (fun q => by subst q; revert ht; decide)⟩) ?_ (fun i _ => chA_t (by decide)) (fun i hi => ?_) (hc c hc')
        · simp only [List.mem_cons, List.not_mem_nil, or_false] at ht
          rcases ht with rfl | rfl | rfl | rfl <;> exact hc'
        · cases q : S.1 19 c with
          | zero => rfl
          | succ s => exact congrArg some (chA_t (by decide))
        · have hi3 : i < 3 := by have := wc.1.2.1; omega
          refine RCl_ag (S := S) (A := A) (C := C) (fun k hk => ?_) rfl rfl (fun t ht => ⟨chA_t (fun q => ?_), hagA t _ ?_ (fun q => by subst q; revert ht; decide) (fun q => by subst q; revert ht; decide)⟩) ((hc c hc').2.2.2.2 i hi)
          · refine congrFun (chS_k (fun q => ?_) (fun q => by subst q; revert hk; decide)) _
            revert q hk; revert k; decide
          · revert q ht; revert t; decide
          · have hv : (3 * c + i) / 3 < S.1 16 0 ∧ (3 * c + i) % 3 < S.1 20 ((3 * c + i) / 3) := by
              rw [show (3 * c + i) / 3 = c by omega, show (3 * c + i) % 3 = i by omega]; exact ⟨hc', hi⟩
            simp only [List.mem_cons, List.not_mem_nil, or_false] at ht
            rcases ht with rfl | rfl | rfl <;> exact hv
    · refine ax_grow (S := S) (A := A) (q := (ck C).1) (n := S.1 16 0) (o := fun t => if t = 1 then 0 else if t = 17 then 1 else if t = 19 then 2 else 3) (D := fun t => t ∈ [1, 17, 19, 21]) hx hfar (fun t i h => ?_) (fun t t' h h' => (by decide : ∀ t, t ∈ [1, 17, 19, 21] → ∀ t', t' ∈ [1, 17, 19, 21] → (if t = 1 then 0 else if t = 17 then 1 else if t = 19 then 2 else 3) = (if t' = 1 then 0 else if t' = 17 then 1 else if t' = 19 then 2 else 3) → t = t') t h t' h')
      by_cases e : i = S.1 16 0 ∧ t ∈ [1, 17, 19, 21]
      · refine Or.inr ⟨e.1, e.2, ?_, ?_⟩
        · obtain ⟨rfl, e2⟩ := e
          simp only [List.mem_cons, List.not_mem_nil, or_false] at e2
          rcases e2 with rfl | rfl | rfl | rfl <;> simp [chA]
        · split <;> try decide
          split <;> try decide
          split <;> decide
      · refine Or.inl ⟨?_, ?_⟩
        · rcases va_ch h with q | q
          · exact q
          · exact absurd q e
        · by_cases e1 : i = S.1 16 0
          · exact chA_t (fun q => e ⟨e1, q⟩)
          · exact chA_i e1
    · refine RK_ag (S := S) (A := A) (C := C) ⟨fun k hk => ?_, fun k hk => rfl, by rw [chS_16]; omega, fun c h => ⟨by rw [chS_ne (by omega) (by decide)]; exact Nat.le_refl _, by rw [chS_ne (by omega) (by decide)]; exact Nat.le_refl _, fun p hp => ⟨congrFun k18 _, ss_kn (hss _), Or.inr ((hss _).1 10 (by decide))⟩, fun i _ => congrFun k23 _⟩⟩ (fun t ht k hk => ⟨chA_t (fun q => ?_), hagA t k ?_ (fun q => by subst q; revert ht; decide) (fun q => by subst q; revert ht; decide)⟩) (fun c hc => chA_i (by omega)) hRK
      · refine chS_k (fun q => ?_) (fun q => by subst q; revert hk; decide)
        revert q hk; revert k; decide
      · revert q ht; revert t; decide
      · simp only [List.mem_cons, List.not_mem_nil, or_false] at ht
        rcases ht with rfl | rfl | rfl <;> exact hk
    · refine RD_ag (A := A) (C := C) ⟨chA_t (by decide), hagA 2 0 rfl (by decide) (by decide)⟩ (fun hn i hi => ⟨chA_t (by decide), ?_⟩) hRD
      rw [← hY]
      have e : i = 1 ∨ i = 2 := by simpa using hi
      have hlt := hdead hn i hi
      refine ag_csI (ag_csA (ag_csI (hag _ hlt) (by omega)) (fun q => ?_)) (fun q => ?_)
      · exact absurd (hx 0 i 3 1 (show i < 3 by omega) (show (1 : Nat) < 4 by decide) q).1 (by decide)
      · rcases hRD with g | ⟨g1, g2, g3, g4, g5, g6, g7⟩
        · exact hn g.1
        · rcases e with rfl | rfl
          · rw [q, hb.1.1] at g3; exact absurd g3 (by decide)
          · rw [q, hb.1.1] at g5; exact absurd g5 (by decide)
theorem sim_chain {N M : Nat} : ls_4 N M bx (II G E B bx m ad) (II G E B bx m ad) := by
  rintro C T ⟨S, A0, J0⟩
  obtain ⟨A, J, -, hfar, hdead⟩ := jj_norm J0
  have hb := jj_b J
  have hn := (jj_n J).2.1
  have h1 := jj_C J 16 (by decide)
  by_cases h20 : S.1 16 0 = 20
  · refine ⟨-1, C, T, ?_, ?_, S, A, J⟩
    · unfold c_B_chain
      rw [rb_chainCount hb, obd_some, rb_chains hb, obd_some, obd_some, cal_of (n := 20) (by rw [hb.2.2.2.2.1.1]; decide) hb.2.2.2.2.1.2.1, obd_some, if_neg (by rw [i32_lt (by omega) (by omega)]; omega)]
    · unfold h_R_chain
      rw [if_pos (by rw [h1, h20]; rfl)]
  · obtain ⟨T1, u1, u2, J1⟩ := jj_newChain J hfar hdead (by omega)
    refine ⟨_, _, T1, u1, ?_, _, _, J1⟩
    unfold h_R_chain
    rw [if_neg (by rw [h1]; exact i32_ne (by omega) (by decide) h20), u2, tbd2_some]
end SIMCHAIN
