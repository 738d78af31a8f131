/-! section -/
section SECTION
variable {G : GT} {E B bx m : Nat} {ad : Nat → Nat} {S : ST} {A : AT} {C : CT} {T : MT}
/-- none of it is the bench -/
theorem va_bx (J : JJ G E B bx m ad S A C T) {t i : Nat} (h : VA S t i) (h0 : t ≠ 0) : C.1 (A t i) ≠ 1 := by
  obtain ⟨hJ, ⟨hb, hs, hc, hx⟩, hRT, hWF, hRK, hRD⟩ := J
  unfold VA at h
  split at h
  · have := hb.2.2.2
    have e : i = 0 ∨ i = 1 ∨ i = 2 ∨ i = 3 := by omega
    rcases e with rfl | rfl | rfl | rfl
    · rw [this.1.1]; decide
    · rw [this.2.1.1]; decide
    · rw [this.2.2.1.1]; decide
    · rw [this.2.2.2.1.1]; decide
  · have := hb.2.2.1
    have e : i = 0 ∨ i = 1 ∨ i = 2 := by omega
    rcases e with rfl | rfl | rfl
    · rw [this.2.1.1]; decide
    · rw [this.2.2.1]; decide
    · rw [this.1]; decide
  · subst h; rw [hb.2.2.2.2.2.2.2]; decide
  · rw [(hs i h).1.1]; decide
  · rw [(hs i h).2.2.1.1]; decide
  · rw [(hs i h).2.2.2.1]; decide
  · rw [(hs i h).2.2.2.2.2.2.1]; decide
  · rw [(hs i h).2.1.2.2.1.2.1]; decide
  · rw [(hs i h).2.1.2.2.1.2.2.2.2.1]; decide
  · rw [(hc i h).1.1]; decide
  · rw [(hc i h).2.1.1]; decide
  · rw [(hc i h).2.2.1.1]; decide
  · rw [(hc i h).2.2.2.1.1]; decide
  · have := (hc _ h.1).2.2.2.2 _ h.2
    rw [show 3 * (i / 3) + i % 3 = i from Nat.div_add_mod i 3] at this
    rw [this.1.1]; decide
  · have := (hc _ h.1).2.2.2.2 _ h.2
    rw [show 3 * (i / 3) + i % 3 = i from Nat.div_add_mod i 3] at this
    rw [this.2.1]; decide
  · have := (hc _ h.1).2.2.2.2 _ h.2
    rw [show 3 * (i / 3) + i % 3 = i from Nat.div_add_mod i 3] at this
    rw [this.2.2.2.2.1]; decide
  · rw [(hRK i h).1.1]; decide
  · rw [(hRK i h).2.2.1.1]; decide
  · rw [(hRK i h).2.2.2.1]; decide
  · exact absurd rfl h0
  · exact h.elim
theorem cgI_ag {C' : CT} {a ci k : Nat} (h : Ag C C' a) : cgI C' a ci k = cgI C a ci k := by unfold cgI; rw [h.1, h.2.2.1]
theorem cgJ_ag {C' : CT} {a ci k : Nat} (h : Ag C C' a) : cgJ C' a ci k = cgJ C a ci k := by unfold cgJ; rw [h.1, h.2.2.2.1]
theorem cgA_ag {C' : CT} {a ci k : Nat} (h : Ag C C' a) : cgA C' a ci k = cgA C a ci k := by unfold cgA; rw [h.1, h.2.2.2.2.1]
/-- the bench's own, when one of its rows and a count of it change -/
theorem RCb_of {S' : ST} {A' : AT} {C' : CT} (h : RCb S A C bx) (ht : C'.1 bx = C.1 bx) (hA : ∀ k, k < 16 → C'.2.2.2.2.1 k bx 0 = C.2.2.2.2.1 k bx 0)
    (h4 : C'.2.2.1 4 bx 0 = i32 (S'.1 1 0)) (h6 : C'.2.2.1 6 bx 0 = i32 (S'.1 16 0)) (h8 : C'.2.2.1 8 bx 0 = i32 (S'.1 44 0)) (h5 : ∀ i, A' 5 i = A 5 i) (h3 : ∀ i, A' 3 i = A 3 i) (h2 : A' 2 0 = A 2 0)
    (g5 : ∀ i, i < 3 → Ag C C' (A 5 i)) (g3 : ∀ i, i < 4 → C'.1 (A 3 i) = C.1 (A 3 i) ∧ C'.2.1 (A 3 i) = C.2.1 (A 3 i)) (g2 : C'.1 (A 2 0) = C.1 (A 2 0))
    (r0 : ∀ s, s < 60 → C'.2.2.2.2.1 900 (A 3 0) s = if s < S'.1 1 0 then some (A' 7 s) else none) (r1 : ∀ c, c < 20 → C'.2.2.2.2.1 900 (A 3 1) c = if c < S'.1 16 0 then some (A' 1 c) else none) (r2 : ∀ k, k < 8 → C'.2.2.2.2.1 900 (A 3 2) k = if k < S'.1 44 0 then some (A' 48 k) else none) : RCb S' A' C' bx := by
  obtain ⟨⟨b1, b2, b3, b4, b5, b6, b7, b8, b9⟩, -, ⟨c1, c2, c3⟩, d0, d1, d2, d3, d4⟩ := h
  obtain ⟨t0, l0, I0, J0, -⟩ := g5 0 (by decide)
  obtain ⟨t1, l1, I1, J1, -⟩ := g5 1 (by decide)
  obtain ⟨t2, -⟩ := g5 2 (by decide)
  refine ⟨⟨by rw [ht]; exact b1, by rw [hA 0 (by decide), h5]; exact b2, by rw [hA 1 (by decide), h5]; exact b3, by rw [hA 2 (by decide), h5]; exact b4, by rw [hA 3 (by decide), h3]; exact b5, by rw [hA 5 (by decide), h3]; exact b6, by rw [hA 7 (by decide), h3]; exact b7, by rw [hA 9 (by decide), h3]; exact b8, by rw [hA 10 (by decide), h2]; exact b9⟩, ⟨h4, h6, h8⟩,
    ⟨by rw [h5, t2]; exact c1, ?_, ?_⟩, ⟨by rw [h3, (g3 0 (by decide)).1]; exact d0.1, by rw [h3, (g3 0 (by decide)).2]; exact d0.2.1, by rw [h3]; exact r0⟩, ⟨by rw [h3, (g3 1 (by decide)).1]; exact d1.1, by rw [h3, (g3 1 (by decide)).2]; exact d1.2.1, by rw [h3]; exact r1⟩,
    ⟨by rw [h3, (g3 2 (by decide)).1]; exact d2.1, by rw [h3, (g3 2 (by decide)).2]; exact d2.2.1, by rw [h3]; exact r2⟩, ⟨by rw [h3, (g3 3 (by decide)).1]; exact d3.1, by rw [h3, (g3 3 (by decide)).2]; exact d3.2⟩, by rw [h2, g2]; exact d4⟩
  · unfold RCreal at c2 ⊢
    rw [h5, t0, I0, I0, I0, J0, J0, J0, J0]; exact c2
  · unfold RCreal at c3 ⊢
    rw [h5, t1, I1, I1, I1, J1, J1, J1, J1]; exact c3
/-- where the new section lies -/
def secA (A : AT) (q n : Nat) : AT := fun t i => if i = n ∧ t = 7 then q else if i = n ∧ t = 117 then q + 3 else if i = n ∧ t = 118 then q + 4 else if i = n ∧ t = 96 then q + 5 else if i = n ∧ t = 121 then q + 1 else if i = n ∧ t = 98 then q + 2 else A t i
theorem secA_t {q n t i : Nat} (h : t ∉ [7, 117, 118, 96, 121, 98]) : secA A q n t i = A t i := by
  simp only [List.mem_cons, List.not_mem_nil, or_false, not_or] at h
  unfold secA
  rw [if_neg (fun q => h.1 q.2), if_neg (fun q => h.2.1 q.2), if_neg (fun q => h.2.2.1 q.2), if_neg (fun q => h.2.2.2.1 q.2), if_neg (fun q => h.2.2.2.2.1 q.2), if_neg (fun q => h.2.2.2.2.2 q.2)]
theorem secA_i {q n t i : Nat} (h : i ≠ n) : secA A q n t i = A t i := by
  unfold secA
  rw [if_neg (fun q => h q.1), if_neg (fun q => h q.1), if_neg (fun q => h q.1), if_neg (fun q => h q.1), if_neg (fun q => h q.1), if_neg (fun q => h q.1)]
/-- the class's heap with one section more -/
def nsC (C : CT) (bx a3 n kd so : Nat) (ln : Int32) (nums : Option Nat) : CT := csI (csA (secC C (i32 n) (i32 kd) (i32 so) ln nums (nfac kd) (nrow kd ln)) 900 a3 n (some (ck C).1)) 4 bx 0 (i32 n + 1)
theorem va_sec {kd so : Nat} {ln : Int32} {t i : Nat} (h : VA (secS S kd so ln) t i) : VA S t i ∨ (i = S.1 1 0 ∧ t ∈ [7, 117, 118, 96, 121, 98]) := by
  have k16 : (secS S kd so ln).1 16 = S.1 16 := secS_k (by decide) (by decide)
  have k20 : (secS S kd so ln).1 20 = S.1 20 := secS_k (by decide) (by decide)
  have k44 : (secS S kd so ln).1 44 = S.1 44 := secS_k (by decide) (by decide)
  unfold VA at h ⊢
  rw [secS_1, k16, k20, k44] at h
  split at h <;> first
    | exact Or.inl h
    | (by_cases e : i = S.1 1 0
       · exact Or.inr ⟨e, by decide⟩
       · exact Or.inl (by show i < S.1 1 0; omega))
    | exact h.elim
theorem jj_newSection (J : JJ G E B bx m ad S A C T) (hfar : ∀ t i, VA S t i → A t i < (ck C).1 ∨ (ck C).1 + 1000 ≤ A t i) (hdead : C.2.2.2.2.1 37 (A 2 0) 0 ≠ none → ∀ i, i ∈ [1, 2] → A 0 i < (ck C).1) (h60 : S.1 1 0 < 60)
    {kd so : Nat} {ln : Int32} (hk : kd < 16) (hso : so < 3) (hl : lenok kd ln) {N : Nat} (hN : 100 ≤ N) :
    ∃ T1, c_B_newSection bx (i32 kd) (i32 so) ln (some (A 5 so)) C = some (some (ck C).1, nsC C bx (A 3 0) (S.1 1 0) kd so ln (some (A 5 so))) ∧ h_R_newSection N (i32 kd) (i32 so) ln T = some (i32 (S.1 1 0), T1) ∧
      JJ G E B bx m ad (secS S kd so ln) (secA A (ck C).1 (S.1 1 0)) (nsC C bx (A 3 0) (S.1 1 0) kd so ln (some (A 5 so))) T1 := by
  have hJ := J
  obtain ⟨⟨w1, ⟨w2, w2m, w2a⟩, w3⟩, ⟨hb, hs, hc, hx⟩, hRT, hWF, hRK, hRD⟩ := J
  obtain ⟨T1, hT1, hR1⟩ := rt_sec hRT hWF h60 hN (kd := kd) (so := so) (ln := ln)
  have hle := len_le hl
  obtain ⟨⟨f1, f2⟩, f3, f4, f5, f6⟩ := secC_facts (num := i32 (S.1 1 0)) (kd := i32 kd) (so := i32 so) (ln := ln) (nums := some (A 5 so)) (n := nfac kd) (rl := nrow kd ln) w1
  have hag : ∀ a, a < (ck C).1 → Ag C (secC C (i32 (S.1 1 0)) (i32 kd) (i32 so) ln (some (A 5 so)) (nfac kd) (nrow kd ln)) a := fun a ha => secC_agr.ag ha
  have hva : ∀ t i, VA S t i → t ≠ 0 → A t i < (ck C).1 := fun t i h h0 => (w1.2.1 _ (va_tag hJ h h0)).2
  have hbx : bx < (ck C).1 := (w1.2.1 bx (by rw [hb.1.1]; decide)).2
  have h30 : A 3 0 < (ck C).1 := hva 3 0 (show (0 : Nat) < 4 by decide) (by decide)
  have n5 := nfac_5 kd
  refine ⟨T1, ?_, hT1, ?_⟩
  · have hab : Ag C (cfr C 8 0 15) bx := (agr_fr (Nat.le_refl _)).ag hbx
    unfold c_B_newSection
    rw [rb_sectionCount hb, obd_some, if_neg (i32_nonneg (by omega)), obd_some, rb_sections hb, obd_some, obd_some, cal_of (n := 60) (by rw [hb.2.2.2.1.1]; decide) hb.2.2.2.1.2.1, obd_some, if_pos (by rw [i32_lt (by omega) (by omega)]; omega)]
    unfold cnew
    dsimp only
    rw [show cfr C (7 + 1) 0 (jnfl 7) = cfr C 8 0 15 from rfl, cgI_ag hab, rb_sectionCount hb, obd_some, init_of (rl := nrow kd ln) hk rfl (fun q => (hle.2 q).1) hle.1, obd_some, cgA_ag (hag bx hbx), rb_sections hb, obd_some, cgI_ag (hag bx hbx), rb_sectionCount hb, obd_some, obd_some,
      cqA_of (n := 60) (by rw [(hag _ h30).1]; exact hb.2.2.2.1.1) (by decide) f3.1 (by rw [(hag _ h30).2.1]; exact hb.2.2.2.1.2.1) h60 (by decide), obd_some]
    have e1 : cgI (csA (secC C (i32 (S.1 1 0)) (i32 kd) (i32 so) ln (some (A 5 so)) (nfac kd) (nrow kd ln)) 900 (A 3 0) (S.1 1 0) (some (ck C).1)) bx 0 4 = some (i32 (S.1 1 0)) := (cgI_ag (hag bx hbx)).trans (rb_sectionCount hb)
    rw [e1, obd_some, cpI_of (by show (secC C (i32 (S.1 1 0)) (i32 kd) (i32 so) ln (some (A 5 so)) (nfac kd) (nrow kd ln)).1 bx = 0 + 1; rw [(hag bx hbx).1]; exact hb.1.1) (by decide) (by decide), obd_some]
    rfl
  · generalize hX : secC C (i32 (S.1 1 0)) (i32 kd) (i32 so) ln (some (A 5 so)) (nfac kd) (nrow kd ln) = X at *
    have hC1 : nsC C bx (A 3 0) (S.1 1 0) kd so ln (some (A 5 so)) = csI (csA X 900 (A 3 0) (S.1 1 0) (some (ck C).1)) 4 bx 0 (i32 (S.1 1 0) + 1) := by rw [← hX]; rfl
    rw [hC1]
    have hag2 : ∀ a, a < (ck C).1 → a ≠ bx → a ≠ A 3 0 → Ag C (csI (csA X 900 (A 3 0) (S.1 1 0) (some (ck C).1)) 4 bx 0 (i32 (S.1 1 0) + 1)) a := fun a ha h1 h2 => ag_csI (ag_csA (hag a ha) h2) h1
    have hagA : ∀ t i, VA S t i → t ≠ 0 → t ≠ 3 → Ag C (csI (csA X 900 (A 3 0) (S.1 1 0) (some (ck C).1)) 4 bx 0 (i32 (S.1 1 0) + 1)) (A t i) := by
      intro t i h h0 h3
      refine hag2 _ (hva t i h h0) (fun e => ?_) (fun e => h3 (hx t i 3 0 h (show (0 : Nat) < 4 by decide) e).1)
      exact va_bx hJ h h0 (by rw [e]; exact hb.1.1)
    generalize hY : csI (csA X 900 (A 3 0) (S.1 1 0) (some (ck C).1)) 4 bx 0 (i32 (S.1 1 0) + 1) = Y at *
    have hYI : ∀ k a, k ≠ 4 → Y.2.2.1 k a = X.2.2.1 k a := fun k a h => by rw [← hY]; funext y; simp [csI, csA, up3, h]
    have hYJ : ∀ k a, Y.2.2.2.1 k a = X.2.2.2.1 k a := fun k a => by rw [← hY]; rfl
    have hYA : ∀ k a, k ≠ 900 → Y.2.2.2.2.1 k a = X.2.2.2.2.1 k a := fun k a h => by rw [← hY]; funext y; simp [csI, csA, up3, h]
    have hYA' : ∀ k a, a ≠ A 3 0 → Y.2.2.2.2.1 k a = X.2.2.2.2.1 k a := fun k a h => by rw [← hY]; funext y; simp [csI, csA, up3, h]
    have hYt : ∀ a, Y.1 a = X.1 a := fun a => by rw [← hY]; rfl
    have hYl : ∀ a, Y.2.1 a = X.2.1 a := fun a => by rw [← hY]; rfl
    have hYc : ck Y = ck X := by rw [← hY]; rfl
    have k16 : (secS S kd so ln).1 16 = S.1 16 := secS_k (by decide) (by decide)
    have k17 : (secS S kd so ln).1 17 = S.1 17 := secS_k (by decide) (by decide)
    have k18 : (secS S kd so ln).1 18 = S.1 18 := secS_k (by decide) (by decide)
    have k20 : (secS S kd so ln).1 20 = S.1 20 := secS_k (by decide) (by decide)
    have k23 : (secS S kd so ln).1 23 = S.1 23 := secS_k (by decide) (by decide)
    have k44 : (secS S kd so ln).1 44 = S.1 44 := secS_k (by decide) (by decide)
    have hA1 : ∀ i, secA A (ck C).1 (S.1 1 0) 1 i = A 1 i := fun i => secA_t (by decide)
    have ho1 : ∀ n, oA (secA A (ck C).1 (S.1 1 0)) 1 n = oA A 1 n := fun n => by
      cases n with
      | zero => rfl
      | succ n => exact congrArg some (hA1 n)
    have hmem : ∀ c, c < S.1 16 0 → ∀ p, p < S.1 17 c → S.1 18 (10 * c + p) < S.1 1 0 := fun c h p hp => ((hWF.2.2.1 c h).2.1 p hp).1
    have h31 : A 3 1 ≠ A 3 0 := fun e => absurd (hx 3 1 3 0 (show (1 : Nat) < 4 by decide) (show (0 : Nat) < 4 by decide) e).2 (by decide)
    have h32 : A 3 2 ≠ A 3 0 := fun e => absurd (hx 3 2 3 0 (show (2 : Nat) < 4 by decide) (show (0 : Nat) < 4 by decide) e).2 (by decide)
    have l3 : ∀ i, i < 4 → A 3 i < (ck C).1 := fun i h => hva 3 i h (by decide)
    refine ⟨⟨?_, ⟨⟨?_, fun k hk => ?_⟩, ?_, fun k hk => ?_⟩, fun z hz => ?_⟩, ⟨?_, fun s h => ?_, fun c h => ?_, ?_⟩, hR1, WF_sec hWF h60 hk hso hl, ?_, ?_⟩
    · rw [← hY]
      exact cw_csI (cw_csA f2 (by rw [(hag _ h30).1, hb.2.2.2.1.1]; decide)) (by show X.1 bx ≠ 0; rw [(hag _ hbx).1, hb.1.1]; decide)
    · rw [hYt, (hag _ w2m).1]; exact w2.1
    · rw [hYt, (hag _ (w2a k hk)).1]; exact w2.2 k hk
    · rw [hYc, f1]; show m < (ck C).1 + 6; omega
    · rw [hYc, f1]; show ad k < (ck C).1 + 6; have := w2a k hk; omega
    · have e2 : secA A (ck C).1 (S.1 1 0) 2 0 = A 2 0 := secA_t (by decide)
      rw [e2, (hagA 2 0 rfl (by decide) (by decide)).2.2.2.2.1] at hz
      have := w3 z hz
      rw [hYc, f1, secS_1, k16, k44, k20]
      show (ck C).1 + 6 + _ + _ + _ + _ + _ ≤ _ ∧ (ck C).2 + 18 + nfac kd + 2 + nrow kd ln + _ + _ + _ + _ + _ ≤ _
      have := hle.1
      omega
    · refine RCb_of hb (by rw [hYt]; exact (hag _ hbx).1) (fun k hk => by rw [hYA k bx (by omega)]; exact congrFun ((hag _ hbx).2.2.2.2.1 k) 0) ?_ ?_ ?_ (fun i => secA_t (by decide)) (fun i => secA_t (by decide)) (secA_t (by decide)) (fun i hi => hagA 5 i hi (by decide) (by decide))
        (fun i hi => ⟨by rw [hYt]; exact (hag _ (l3 i hi)).1, by rw [hYl]; exact (hag _ (l3 i hi)).2.1⟩) (by rw [hYt]; exact (hag _ (hva 2 0 rfl (by decide))).1) (fun s h => ?_) (fun c h => ?_) (fun k h => ?_)
      · rw [← hY, secS_1, ← i32_add]
        simp [csI, up3]
        rfl
      · rw [hYI 6 bx (by decide), k16, congrFun ((hag _ hbx).2.2.1 6) 0]; exact hb.2.1.2.1
      · rw [hYI 8 bx (by decide), k44, congrFun ((hag _ hbx).2.2.1 8) 0]; exact hb.2.1.2.2
      · rw [secS_1]
        by_cases e : s = S.1 1 0
        · subst e
          rw [if_pos (by omega), ← hY]
          simp [csI, csA, up3, secA]
        · have e1 : Y.2.2.2.2.1 900 (A 3 0) s = X.2.2.2.2.1 900 (A 3 0) s := by rw [← hY]; simp [csI, csA, up3, e]
          rw [e1, congrFun ((hag _ h30).2.2.2.2.1 900) s, hb.2.2.2.1.2.2 s h, secA_i e]
          by_cases q : s < S.1 1 0
          · rw [if_pos q, if_pos (by omega)]
          · rw [if_neg q, if_neg (by omega)]
      · rw [hYA' 900 _ h31, congrFun ((hag _ (l3 1 (by decide))).2.2.2.2.1 900) c, k16, hA1]
        exact hb.2.2.2.2.1.2.2 c h
      · rw [hYA' 900 _ h32, congrFun ((hag _ (l3 2 (by decide))).2.2.2.2.1 900) k, k44, secA_t (by decide)]
        exact hb.2.2.2.2.2.1.2.2 k h
    · rw [secS_1] at h
      by_cases e : s = S.1 1 0
      · subst e
        obtain ⟨q1, q2, q3, q4, q5, q6, q7, q8⟩ := f3
        obtain ⟨r1, r2, r3, r4, r5, r6, r7, r8⟩ := f4
        obtain ⟨u1, u2, u3⟩ := f5
        obtain ⟨v1, v2, v3, v4, v5, v6⟩ := f6
        have hz := hWF.2.2.2.1 (S.1 1 0) (Nat.le_refl _) h60
        have p7 : secA A (ck C).1 (S.1 1 0) 7 (S.1 1 0) = (ck C).1 := by simp [secA]
        have p117 : secA A (ck C).1 (S.1 1 0) 117 (S.1 1 0) = (ck C).1 + 3 := by simp [secA]
        have p118 : secA A (ck C).1 (S.1 1 0) 118 (S.1 1 0) = (ck C).1 + 4 := by simp [secA]
        have p96 : secA A (ck C).1 (S.1 1 0) 96 (S.1 1 0) = (ck C).1 + 5 := by simp [secA]
        have p121 : secA A (ck C).1 (S.1 1 0) 121 (S.1 1 0) = (ck C).1 + 1 := by simp [secA]
        have p98 : secA A (ck C).1 (S.1 1 0) 98 (S.1 1 0) = (ck C).1 + 2 := by simp [secA]
        have p5 : secA A (ck C).1 (S.1 1 0) 5 so = A 5 so := secA_t (by decide)
        have e2 : (secS S kd so ln).1 2 (S.1 1 0) = kd := by simp [secS]
        have e3 : (secS S kd so ln).1 3 (S.1 1 0) = so := by simp [secS]
        have e5 : (secS S kd so ln).1 5 (S.1 1 0) = 0 := by simp [secS]
        have e6 : (secS S kd so ln).1 6 (S.1 1 0) = 0 := by simp [secS]
        have e8 : (secS S kd so ln).1 8 (S.1 1 0) = 0 := by simp [secS]
        have e9 : (secS S kd so ln).1 9 (S.1 1 0) = 0 := by simp [secS]
        have eX : (secS S kd so ln).1 10 (S.1 1 0) = 0 := by simp [secS]
        have eE : (secS S kd so ln).1 14 (S.1 1 0) = 0 := by simp [secS]
        have e70 : (secS S kd so ln).1 70 (S.1 1 0) = 0 := by simp [secS]
        have i4 : (secS S kd so ln).2.2 4 (S.1 1 0) = ln := by simp [secS]
        have i11 : (secS S kd so ln).2.2 11 (S.1 1 0) = 0 := by simp [secS]
        have i12 : (secS S kd so ln).2.2 12 (S.1 1 0) = 0 := by simp [secS]
        have j15 : (secS S kd so ln).2.1 15 (S.1 1 0) = 0 := by simp [secS]
        have j7 : (secS S kd so ln).2.1 7 = S.2.1 7 := secS_J (by decide)
        have j13 : (secS S kd so ln).2.1 13 = S.2.1 13 := secS_J (by decide)
        have er : rln (secS S kd so ln) (S.1 1 0) = nrow kd ln := by unfold rln; rw [e2, i4]
        unfold RCs ring
        rw [er, e2, e3, e5, e6, e8, e9, eX, eE, e70, i4, i11, i12, j15, j7, j13, p7, p117, p118, p96, p121, p98, p5]
        simp only [hYt, hYl, hYJ, hYI _ _ (show (112 : Nat) ≠ 4 by decide), hYI _ _ (show (113 : Nat) ≠ 4 by decide), hYI _ _ (show (114 : Nat) ≠ 4 by decide), hYI _ _ (show (115 : Nat) ≠ 4 by decide), hYI _ _ (show (119 : Nat) ≠ 4 by decide), hYI _ _ (show (120 : Nat) ≠ 4 by decide), hYI _ _ (show (122 : Nat) ≠ 4 by decide), hYI _ _ (show (123 : Nat) ≠ 4 by decide), hYI _ _ (show (125 : Nat) ≠ 4 by decide), hYI _ _ (show (97 : Nat) ≠ 4 by decide),
          hYA _ _ (show (116 : Nat) ≠ 900 by decide), hYA _ _ (show (117 : Nat) ≠ 900 by decide), hYA _ _ (show (118 : Nat) ≠ 900 by decide), hYA _ _ (show (121 : Nat) ≠ 900 by decide), hYA _ _ (show (124 : Nat) ≠ 900 by decide), hYA _ _ (show (126 : Nat) ≠ 900 by decide), hYA _ _ (show (96 : Nat) ≠ 900 by decide)]
        refine ⟨⟨q1, q2, q3, q4, q5, q6, q7, q8⟩, ⟨r1, r2, r3, r4, r5, r6, r7, r8⟩, ⟨u1, u2, fun k h => ?_⟩, ⟨v1, v2, v3, v4, v5, Or.inl trivial, Or.inl trivial, fun k h => ?_⟩⟩
        · rw [u3]; exact (hz.2.2 k (by omega)).symm
        · rw [v6]; exact (hz.1 _ (by have := Nat.mod_lt (0 + k) (show 0 < nrow kd ln by omega); have := hle.1; omega)).symm
      · refine RCs_ag (secS_ss e) (fun t ht => ⟨secA_i e, hagA t s ?_ (fun q => by subst q; revert ht; decide) (fun q => by subst q; revert ht; decide)⟩) (secA_t (by decide)) (ho1 _) (ho1 _) (hs s (by omega))
        have hlt : s < S.1 1 0 := by omega
        simp only [List.mem_cons, List.not_mem_nil, or_false] at ht
        rcases ht with rfl | rfl | rfl | rfl | rfl | rfl <;> exact hlt
    · rw [k16] at h
      have wc := hWF.2.2.1 c h
      refine RCc_ag (fun k hk => ?_) (fun p hp => ⟨congrFun k18 _, secA_i (by have := hmem c h p hp; omega)⟩) (secS_J (by decide)) (fun t ht => ⟨secA_t (fun q => ?_), hagA t c ?_ (fun q => by subst q; revert ht; decide) (fun q => by subst q; revert ht; decide)⟩) ?_ (fun i _ => secA_t (by decide)) (fun i hi => ?_) (hc c h)
      · refine congrFun (secS_k (fun q => ?_) (fun q => by subst q; revert hk; decide)) _
        revert q hk; revert k; decide
      · revert q ht; revert t; decide
      · simp only [List.mem_cons, List.not_mem_nil, or_false] at ht
        rcases ht with rfl | rfl | rfl | rfl <;> exact h
      · cases q : S.1 19 c with
        | zero => rfl
        | succ s => exact congrArg some (secA_i (by have := (wc.2.2.1 s q).1; omega))
      · have hi3 : i < 3 := by have := wc.1.2.1; omega
        refine RCl_ag (fun k hk => ?_) (congrFun (secS_J (by decide)) _) (secS_J (by decide)) (fun t ht => ⟨secA_t (fun q => ?_), hagA t _ ?_ (fun q => by subst q; revert ht; decide) (fun q => by subst q; revert ht; decide)⟩) ((hc c h).2.2.2.2 i hi)
        · refine congrFun (secS_k (fun q => ?_) (fun q => by subst q; revert hk; decide)) _
          revert q hk; revert k; decide
        · revert q ht; revert t; decide
        · have hv : (3 * c + i) / 3 < S.1 16 0 ∧ (3 * c + i) % 3 < S.1 20 ((3 * c + i) / 3) := by
            rw [show (3 * c + i) / 3 = c by omega, show (3 * c + i) % 3 = i by omega]; exact ⟨h, hi⟩
          simp only [List.mem_cons, List.not_mem_nil, or_false] at ht
          rcases ht with rfl | rfl | rfl <;> exact hv
    · refine ax_grow (S := S) (A := A) (q := (ck C).1) (n := S.1 1 0) (o := fun t => if t = 7 then 0 else if t = 117 then 3 else if t = 118 then 4 else if t = 96 then 5 else if t = 121 then 1 else 2) (D := fun t => t ∈ [7, 117, 118, 96, 121, 98]) hx hfar (fun t i h => ?_) (fun t t' h h' => (by decide : ∀ t, t ∈ [7, 117, 118, 96, 121, 98] → ∀ t', t' ∈ [7, 117, 118, 96, 121, 98] → (if t = 7 then 0 else if t = 117 then 3 else if t = 118 then 4 else if t = 96 then 5 else if t = 121 then 1 else 2) = (if t' = 7 then 0 else if t' = 117 then 3 else if t' = 118 then 4 else if t' = 96 then 5 else if t' = 121 then 1 else 2) → t = t') t h t' h')
      by_cases e : i = S.1 1 0 ∧ t ∈ [7, 117, 118, 96, 121, 98]
      · refine Or.inr ⟨e.1, e.2, ?_, ?_⟩
        · obtain ⟨rfl, e2⟩ := e
          simp only [List.mem_cons, List.not_mem_nil, or_false] at e2
          rcases e2 with rfl | rfl | rfl | rfl | rfl | rfl <;> simp [secA]
        · split <;> try decide
          split <;> try decide
          split <;> try decide
          split <;> try decide
          split <;> decide
      · refine Or.inl ⟨?_, ?_⟩
        · rcases va_sec h with q | q
          · exact q
          · exact absurd q e
        · by_cases e1 : i = S.1 1 0
          · exact secA_t (fun q => e ⟨e1, q⟩)
          · exact secA_i e1
    · refine RK_ag (S := S) (A := A) (C := C) ⟨fun k hk => ?_, fun k hk => secS_J (fun q => by subst q; revert hk; decide), by rw [k16]; exact Nat.le_refl _, fun c h => ⟨by rw [k17]; exact Nat.le_refl _, by rw [k20]; exact Nat.le_refl _, fun p hp => ⟨congrFun k18 _, ss_kn (secS_ss (by have := hmem c h p hp; omega)), Or.inr ((secS_ss (by have := hmem c h p hp; omega)).1 10 (by decide))⟩, fun i _ => congrFun k23 _⟩⟩ (fun t ht k hk => ⟨secA_t (fun q => ?_), hagA t k ?_ (fun q => by subst q; revert ht; decide) (fun q => by subst q; revert ht; decide)⟩) (fun c _ => hA1 c) hRK
      · refine secS_k (fun q => ?_) (fun q => by subst q; revert hk; decide)
        revert q hk; revert k; decide
      · revert q ht; revert t; decide
      · simp only [List.mem_cons, List.not_mem_nil, or_false] at ht
        rcases ht with rfl | rfl | rfl <;> exact hk
    · refine RD_ag (A := A) (C := C) ⟨secA_t (by decide), hagA 2 0 rfl (by decide) (by decide)⟩ (fun hn i hi => ⟨secA_t (by decide), ?_⟩) hRD
      rw [← hY]
      have e : i = 1 ∨ i = 2 := by simpa using hi
      refine ag_csI (ag_csA (hag _ (hdead hn i hi)) (fun q => ?_)) (fun q => ?_)
      · exact absurd (hx 0 i 3 0 (show i < 3 by omega) (show (0 : Nat) < 4 by decide) q).1 (by decide)
      · rcases hRD with g | ⟨g1, g2, g3, g4, g5, g6, g7⟩
        · exact hn g.1
        · rcases e with rfl | rfl
          · rw [q, hb.1.1] at g3; exact absurd g3 (by decide)
          · rw [q, hb.1.1] at g5; exact absurd g5 (by decide)
end SECTION
