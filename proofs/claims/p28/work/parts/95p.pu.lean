/-! a chain remade: the whole way, in states -/
section PUS
variable {G : GT} {E B bx m : Nat} {ad : Nat → Nat} {S0 S S1 : ST} {A0 : AT} {C0 : CT} {T0 : MT} {c s d n st f p : Nat} {x : CM}
def bad (S0 : ST) (st : Nat) : Nat → Nat := fun e => if okc S0 st e = true then 0 else 1
def oneF : Nat → Nat := fun _ => 1
theorem wt_one {f c : Nat} (h : c < f) : 1 ≤ wt oneF S0 f c := by
  obtain ⟨f', rfl⟩ : ∃ f', f = f' + 1 := ⟨f - 1, by omega⟩
  show 1 ≤ 1 + _
  omega
theorem wti_mono {r : Nat → Nat} {c p : Nat} : ∀ {q : Nat}, p ≤ q → wti r S0 c p ≤ wti r S0 c q
  | 0, h => by
    have : p = 0 := by omega
    subst this; exact Nat.le_refl _
  | q + 1, h => by
    by_cases e : p = q + 1
    · subst e; exact Nat.le_refl _
    · have := wti_mono (r := r) (c := c) (p := p) (q := q) (by omega)
      exact Nat.le_trans this (Nat.le_add_right _ _)
/-- what a remade chain comes to -/
def PU (E : Nat) (S0 : ST) (st f : Nat) : Prop := ∀ c S, c < f → c < S0.1 16 0 → S0.1 17 c ≠ 0 → wt (bad S0 st) S0 f c = 0 → Ex S0 S → WF E S → S.1 1 0 + wt (S0.1 17) S0 f c ≤ 60 → S.1 16 0 + wt oneF S0 f c ≤ 20 →
  WF E (cvS S0 st f c S) ∧ Ex S (cvS S0 st f c S) ∧ (cvS S0 st f c S).1 1 0 = S.1 1 0 + wt (S0.1 17) S0 f c ∧ (cvS S0 st f c S).1 16 0 = S.1 16 0 + wt oneF S0 f c ∧ CP S0 st c ((cvS S0 st f c S).1 16 0 - 1) (cvS S0 st f c S)
theorem cm_facts (J0 : JJ G E B bx m ad S0 A0 C0 T0) (s3 : st < 3) (hI : PU E S0 st f) (hcf : c < f + 1) (hc : c < S0.1 16 0) (hok : okc S0 st c = true) (hb : wti (wt (bad S0 st) S0 f) S0 c (S0.1 17 c) = 0) (hx : Ex S0 S) (hW : WF E S) (h60 : S.1 1 0 + S0.1 17 c + wti (wt (S0.1 17) S0 f) S0 c (S0.1 17 c) ≤ 60) (h20 : S.1 16 0 + wti (wt oneF S0 f) S0 c (S0.1 17 c) + 1 ≤ 20) :
    ∀ p, p ≤ S0.1 17 c → WF E (cmS (cvS S0 st f) S0 st c p S).1 ∧ MI S0 st c S p (cmS (cvS S0 st f) S0 st c p S) ∧ (cmS (cvS S0 st f) S0 st c p S).1.1 1 0 = S.1 1 0 + p + wti (wt (S0.1 17) S0 f) S0 c p ∧ (cmS (cvS S0 st f) S0 st c p S).1.1 16 0 = S.1 16 0 + wti (wt oneF S0 f) S0 c p := fun p => by
  have w0 := jj_wc J0 hc
  have hokm : allR (okm S0 st c) 0 (S0.1 17 c) = true := by
    unfold okc at hok
    rw [Bool.and_eq_true] at hok
    exact hok.1
  induction p with
  | zero => exact fun _ => ⟨hW, ⟨Ex.refl S, fun q hq => absurd hq (Nat.not_lt_zero _), fun q r _ hr => absurd hr (Nat.not_lt_zero _), fun q hq => absurd hq (Nat.not_lt_zero _), fun q r _ hr => absurd hr (Nat.not_lt_zero _)⟩, rfl, rfl⟩
  | succ p ih =>
    intro hp
    obtain ⟨i1, ⟨m1, m2, m3, m4, m5⟩, i3, i4⟩ := ih (by omega)
    have hmem := (w0.2.1 p (by omega)).1
    have hokf : allR (okf S0 st (S0.1 18 (10 * c + p))) 0 (nfac (S0.1 2 (S0.1 18 (10 * c + p)))) = true := allR_iff.mp hokm p (Nat.zero_le _) (by omega)
    have n60 := wti_mono (S0 := S0) (r := wt (S0.1 17) S0 f) (c := c) (show p + 1 ≤ S0.1 17 c by omega)
    have n20 := wti_mono (S0 := S0) (r := wt oneF S0 f) (c := c) (show p + 1 ≤ S0.1 17 c by omega)
    have nb := wti_mono (S0 := S0) (r := wt (bad S0 st) S0 f) (c := c) (show p + 1 ≤ S0.1 17 c by omega)
    have e60 : wti (wt (S0.1 17) S0 f) S0 c (p + 1) = wti (wt (S0.1 17) S0 f) S0 c p + if S0.1 10 (S0.1 18 (10 * c + p)) = 0 then 0 else wt (S0.1 17) S0 f (S0.1 10 (S0.1 18 (10 * c + p)) - 1) := rfl
    have e20 : wti (wt oneF S0 f) S0 c (p + 1) = wti (wt oneF S0 f) S0 c p + if S0.1 10 (S0.1 18 (10 * c + p)) = 0 then 0 else wt oneF S0 f (S0.1 10 (S0.1 18 (10 * c + p)) - 1) := rfl
    have eb : wti (wt (bad S0 st) S0 f) S0 c (p + 1) = wti (wt (bad S0 st) S0 f) S0 c p + if S0.1 10 (S0.1 18 (10 * c + p)) = 0 then 0 else wt (bad S0 st) S0 f (S0.1 10 (S0.1 18 (10 * c + p)) - 1) := rfl
    -- the state ahead of the section
    have key : ∀ (S2 : ST) (b' : Nat), WF E S2 → Ex (cmS (cvS S0 st f) S0 st c p S).1 S2 → S2.1 1 0 = S.1 1 0 + p + wti (wt (S0.1 17) S0 f) S0 c (p + 1) → S2.1 16 0 = S.1 16 0 + wti (wt oneF S0 f) S0 c (p + 1) → ((S0.1 10 (S0.1 18 (10 * c + p)) = 0 ∧ b' = 0) ∨ ∃ d d', S0.1 10 (S0.1 18 (10 * c + p)) = d + 1 ∧ b' = d' + 1 ∧ (cmS (cvS S0 st f) S0 st c p S).1.1 16 0 ≤ d' ∧ CP S0 st d d' S2) →
        cmS (cvS S0 st f) S0 st c (p + 1) S = (cpS S0 st (S0.1 18 (10 * c + p)) S2, up1 (cmS (cvS S0 st f) S0 st c p S).2.1 p (S2.1 1 0), up1 (cmS (cvS S0 st f) S0 st c p S).2.2 p b') →
        WF E (cmS (cvS S0 st f) S0 st c (p + 1) S).1 ∧ MI S0 st c S (p + 1) (cmS (cvS S0 st f) S0 st c (p + 1) S) ∧ (cmS (cvS S0 st f) S0 st c (p + 1) S).1.1 1 0 = S.1 1 0 + (p + 1) + wti (wt (S0.1 17) S0 f) S0 c (p + 1) ∧ (cmS (cvS S0 st f) S0 st c (p + 1) S).1.1 16 0 = S.1 16 0 + wti (wt oneF S0 f) S0 c (p + 1) := fun S2 b' k1 k2 k3 k4 k5 k6 => by
      obtain ⟨f1, f2, f3, f4, f5, f6, f7, f8⟩ := cp_facts J0 hmem s3 hokf k1 (by omega)
      rw [k6]
      have g1 := m1.1.1
      have g2 := k2.1.1
      have g3 := k2.1.2
      have hEx : Ex (cmS (cvS S0 st f) S0 st c p S).1 (cpS S0 st (S0.1 18 (10 * c + p)) S2) := f2 _ k2
      have hE2 : Ex S2 (cpS S0 st (S0.1 18 (10 * c + p)) S2) := f2 _ (Ex.refl _)
      have ua : ∀ (g : Nat → Nat) v q, q < p → up1 g p v q = g q := fun g v q hq => if_neg (show ¬ q = p by omega)
      have up : ∀ (g : Nat → Nat) v, up1 g p v p = v := fun g v => if_pos rfl
      have hd10 : ∀ q, q < S0.1 17 c → ∀ d, S0.1 10 (S0.1 18 (10 * c + q)) = d + 1 → S0.1 17 d ≤ 10 := fun q hq d hd => (jj_wc J0 (by have := (inner_und J0 hc hq hd).2.1; omega)).1.1
      refine ⟨f1, ⟨f2 _ (m1.trans k2), fun q hq => ?_, fun q r hq hr => ?_, fun q hq => ?_, fun q r hq hr h1 h2 => ?_⟩, ?_, ?_⟩
      · show (S.1 1 0 ≤ up1 _ p _ q ∧ up1 _ p _ q < _) ∧ (cpS S0 st (S0.1 18 (10 * c + p)) S2).1 2 (up1 _ p _ q) = _ ∧ (cpS S0 st (S0.1 18 (10 * c + p)) S2).1 3 (up1 _ p _ q) = _ ∧ (cpS S0 st (S0.1 18 (10 * c + p)) S2).1 8 (up1 _ p _ q) = _ ∧ (cpS S0 st (S0.1 18 (10 * c + p)) S2).1 10 (up1 _ p _ q) = _
        by_cases e : q = p
        · subst e
          rw [up, f3]
          exact ⟨⟨by omega, by omega⟩, f5, f6, f7, f8⟩
        · rw [ua _ _ q (by omega), f3]
          obtain ⟨a1, a2, a3, a4, a5⟩ := m2 q (by omega)
          have hx := (hEx.2.1 _ a1.2).1
          rw [hx 2 (by decide), hx 3 (by decide), hx 8 (by decide), hx 10 (by decide)]
          exact ⟨⟨a1.1, by omega⟩, a2, a3, a4, a5⟩
      · show up1 _ p _ q < up1 _ p _ r
        by_cases e : r = p
        · subst e
          rw [up, ua _ _ q hq]
          have := (m2 q hq).1.2
          omega
        · rw [ua _ _ r (by omega), ua _ _ q (by omega)]
          exact m3 q r hq (by omega)
      · show (_ ∧ up1 _ p _ q = 0) ∨ ∃ d d', _ ∧ up1 _ p _ q = d' + 1 ∧ _ ∧ CP S0 st d d' (cpS S0 st (S0.1 18 (10 * c + p)) S2)
        by_cases e : q = p
        · subst e
          rw [up]
          rcases k5 with z | ⟨d, d', z1, z2, z3, z4⟩
          · exact Or.inl z
          · exact Or.inr ⟨d, d', z1, z2, by have := m1.1.2; omega, cp_ex z4 hE2 (hd10 q (by omega) d z1)⟩
        · rw [ua _ _ q (by omega)]
          rcases m4 q (by omega) with z | ⟨d, d', z1, z2, z3, z4⟩
          · exact Or.inl z
          · exact Or.inr ⟨d, d', z1, z2, z3, cp_ex z4 hEx (hd10 q (by omega) d z1)⟩
      · show up1 _ p _ q < up1 _ p _ r
        have h1 : up1 _ p _ q ≠ 0 := h1
        have h2 : up1 _ p _ r ≠ 0 := h2
        by_cases e : r = p
        · subst e
          rw [up] at h2 ⊢
          rw [ua _ _ q hq] at h1 ⊢
          rcases m4 q hq with z | ⟨d, d', z1, z2, z3, z4⟩
          · exact absurd z.2 h1
          · rcases k5 with y | ⟨e, e', y1, y2, y3, y4⟩
            · exact absurd y.2 h2
            · have := z4.1.1; omega
        · rw [ua _ _ r (by omega)] at h2 ⊢
          rw [ua _ _ q (by omega)] at h1 ⊢
          exact m5 q r hq (by omega) h1 h2
      · show (cpS S0 st (S0.1 18 (10 * c + p)) S2).1 1 0 = _
        rw [f3]; omega
      · show (cpS S0 st (S0.1 18 (10 * c + p)) S2).1 16 0 = _
        rw [f4]; omega
    by_cases h0 : S0.1 10 (S0.1 18 (10 * c + p)) = 0
    · rw [if_pos h0] at e60 e20 eb
      refine key (cmS (cvS S0 st f) S0 st c p S).1 0 i1 (Ex.refl _) (by omega) (by omega) (Or.inl ⟨h0, rfl⟩) ?_
      show (cpS S0 st (S0.1 18 (10 * c + p)) (if S0.1 10 (S0.1 18 (10 * c + p)) = 0 then _ else _), up1 _ p ((if S0.1 10 (S0.1 18 (10 * c + p)) = 0 then _ else _ : ST).1 1 0), up1 _ p (if S0.1 10 (S0.1 18 (10 * c + p)) = 0 then 0 else _)) = _
      rw [if_pos h0, if_pos h0]
    · rw [if_neg h0] at e60 e20 eb
      obtain ⟨d, hd⟩ : ∃ d, S0.1 10 (S0.1 18 (10 * c + p)) = d + 1 := ⟨S0.1 10 (S0.1 18 (10 * c + p)) - 1, by omega⟩
      have ed : S0.1 10 (S0.1 18 (10 * c + p)) - 1 = d := by omega
      rw [ed] at e60 e20 eb
      obtain ⟨u1, u2, u3, u4, u5⟩ := inner_und J0 hc (show p < S0.1 17 c by omega) hd
      obtain ⟨r1, r2, r3, r4, r5⟩ := hI d (cmS (cvS S0 st f) S0 st c p S).1 (by omega) (by omega) u3 (by omega) (hx.trans m1) i1 (by omega) (by omega)
      have o1 := wt_one (S0 := S0) (show d < f by omega)
      refine key (cvS S0 st f d (cmS (cvS S0 st f) S0 st c p S).1) ((cvS S0 st f d (cmS (cvS S0 st f) S0 st c p S).1).1 16 0) r1 r2 (by omega) (by omega) (Or.inr ⟨d, (cvS S0 st f d (cmS (cvS S0 st f) S0 st c p S).1).1 16 0 - 1, hd, by omega, by omega, r5⟩) ?_
      show (cpS S0 st (S0.1 18 (10 * c + p)) (if S0.1 10 (S0.1 18 (10 * c + p)) = 0 then _ else _), up1 _ p ((if S0.1 10 (S0.1 18 (10 * c + p)) = 0 then _ else _ : ST).1 1 0), up1 _ p (if S0.1 10 (S0.1 18 (10 * c + p)) = 0 then 0 else _)) = _
      rw [if_neg h0, if_neg h0, ed]
theorem jnL_ex {n' : Nat} {a : Nat → Nat} {X : ST} (h : Ex S X) (hn : S.1 16 0 ≤ n') : ∀ {p : Nat}, (∀ q, q < p → S.1 1 0 ≤ a q) → Ex S (jnL n' a p X)
  | 0, _ => h
  | p + 1, ha => ex_jn (jnL_ex h hn (fun q hq => ha q (by omega))) hn (ha p (by omega))
theorem inL_ex {a b : Nat → Nat} {X : ST} (h : Ex S X) : ∀ {p : Nat}, (∀ q, q < p → S.1 1 0 ≤ a q ∧ (b q ≠ 0 → S.1 16 0 ≤ b q - 1)) → Ex S (inL a b p X)
  | 0, _ => h
  | p + 1, ha => by
    have ih := inL_ex h (p := p) (fun q hq => ha q (by omega))
    show Ex S (if b p = 0 then _ else _)
    by_cases q : b p = 0
    · rw [if_pos q]; exact ih
    · rw [if_neg q]; exact ex_in ih (ha p (by omega)).1 ((ha p (by omega)).2 q)
theorem lpL_ex {n' : Nat} {X : ST} (h : Ex S X) (hn : S.1 16 0 ≤ n') : ∀ {i : Nat}, Ex S (lpL S0 st c n' i X)
  | 0 => h
  | i + 1 => ex_lp (lpL_ex h hn) hn
theorem fn_ex (hM : MI S0 st c S (S0.1 17 c) x) : Ex S (fnS S0 st c x) := by
  obtain ⟨m1, m2, m3, m4, m5⟩ := hM
  have h16 := m1.1.2
  refine lpL_ex (inL_ex (jnL_ex (ex_ch m1) h16 (fun q hq => (m2 q hq).1.1)) (fun q hq => ⟨(m2 q hq).1.1, fun hb => ?_⟩)) h16
  rcases m4 q hq with z | ⟨d, d', z1, z2, z3, z4⟩
  · exact absurd z.2 hb
  · omega
theorem pu_all (J0 : JJ G E B bx m ad S0 A0 C0 T0) (s3 : st < 3) : ∀ f, PU E S0 st f
  | 0 => fun c S h => absurd h (Nat.not_lt_zero _)
  | f + 1 => fun c S hcf hc h0 hb hx hW h60 h20 => by
    have w0 := jj_wc J0 hc
    have eb : wt (bad S0 st) S0 (f + 1) c = bad S0 st c + wti (wt (bad S0 st) S0 f) S0 c (S0.1 17 c) := rfl
    have e60 : wt (S0.1 17) S0 (f + 1) c = S0.1 17 c + wti (wt (S0.1 17) S0 f) S0 c (S0.1 17 c) := rfl
    have e20 : wt oneF S0 (f + 1) c = 1 + wti (wt oneF S0 f) S0 c (S0.1 17 c) := rfl
    have hok : okc S0 st c = true := by
      have hb0 : bad S0 st c = 0 := by omega
      unfold bad at hb0
      by_cases q : okc S0 st c = true
      · exact q
      · rw [if_neg q] at hb0; cases hb0
    have hokl : allR (okl S0 st c) 0 (S0.1 20 c) = true := by
      unfold okc at hok
      rw [Bool.and_eq_true] at hok
      exact hok.2
    obtain ⟨k1, k2, k3, k4⟩ := cm_facts J0 s3 (pu_all J0 s3 f) hcf hc hok (by omega) hx hW (by omega) (by omega) (S0.1 17 c) (Nat.le_refl _)
    have hF := fn_FX k2
    have hw := lp_WF J0 hc h0 k1 (by omega) s3 hokl k2 (S0.1 20 c) (Nat.le_refl _)
    have e : cvS S0 st (f + 1) c S = fnS S0 st c (cmS (cvS S0 st f) S0 st c (S0.1 17 c) S) := rfl
    rw [e]
    obtain ⟨⟨a1, a2, a3, a4, a5, a6, a7⟩, b1, b2, b3, b4⟩ := hF
    refine ⟨hw, fn_ex k2, by rw [a1]; omega, by rw [a2]; omega, ?_⟩
    obtain ⟨m1, m2, m3, m4, m5⟩ := k2
    rw [a2, Nat.add_sub_cancel]
    refine ⟨⟨by rw [a2]; omega, a4, a3⟩, fun p hp => ?_⟩
    obtain ⟨u1, u2, u3, u4, u5⟩ := m2 p hp
    rw [a7 p hp, a1, b3 2 _ (by decide), b3 3 _ (by decide)]
    exact ⟨u1.2, u2, u3⟩
end PUS
