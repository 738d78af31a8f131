/-! a chain remade: taken in, the coupling -/
section TAKEN
variable {G : GT} {E B bx m : Nat} {ad ad' : Nat → Nat} {S S0 S1 Z : ST} {A A0 : AT} {C V : CT} {X Y : Nat → Prop} {s c n st q nl : Nat} {x : CM} {L : Nat → Nat}
def adA (A : AT) (q n : Nat) (L : Nat → Nat) : AT := fun t i => if t = 1 ∧ i = n then q else if t = 17 ∧ i = n then q + 1 else if t = 19 ∧ i = n then q + 2 else if t = 21 ∧ i = n then q + 3 else if t = 4 ∧ i / 3 = n then L (i % 3) else if t = 67 ∧ i / 3 = n then L (i % 3) + 1 else if t = 68 ∧ i / 3 = n then L (i % 3) + 2 else A t i
theorem adA_off {t i : Nat} (h1 : t ∈ [1, 17, 19, 21] → i ≠ n) (h2 : t ∈ [4, 67, 68] → i / 3 ≠ n) : adA A q n L t i = A t i := by
  unfold adA
  rw [if_neg (fun z => h1 (by rw [z.1]; decide) z.2), if_neg (fun z => h1 (by rw [z.1]; decide) z.2), if_neg (fun z => h1 (by rw [z.1]; decide) z.2), if_neg (fun z => h1 (by rw [z.1]; decide) z.2), if_neg (fun z => h2 (by rw [z.1]; decide) z.2), if_neg (fun z => h2 (by rw [z.1]; decide) z.2), if_neg (fun z => h2 (by rw [z.1]; decide) z.2)]
theorem adA_va {t i : Nat} (h : VA S t i) : adA A q (S.1 16 0) L t i = A t i := by
  refine adA_off (fun z => ?_) (fun z => ?_)
  · simp only [List.mem_cons, List.not_mem_nil, or_false] at z
    rcases z with rfl | rfl | rfl | rfl <;> exact Nat.ne_of_lt (show i < S.1 16 0 from h)
  · simp only [List.mem_cons, List.not_mem_nil, or_false] at z
    rcases z with rfl | rfl | rfl <;> exact Nat.ne_of_lt (show i / 3 < S.1 16 0 ∧ i % 3 < S.1 20 (i / 3) from h).1
theorem adA_1 : adA A q n L 1 n = q := if_pos ⟨rfl, rfl⟩
theorem adA_17 : adA A q n L 17 n = q + 1 := by simp [adA]
theorem adA_19 : adA A q n L 19 n = q + 2 := by simp [adA]
theorem adA_21 : adA A q n L 21 n = q + 3 := by simp [adA]
theorem adA_l {i : Nat} (h : i < 3) : adA A q n L 4 (3 * n + i) = L i ∧ adA A q n L 67 (3 * n + i) = L i + 1 ∧ adA A q n L 68 (3 * n + i) = L i + 2 := by
  have e1 : (3 * n + i) / 3 = n := by omega
  have e2 : (3 * n + i) % 3 = i := by omega
  refine ⟨?_, ?_, ?_⟩ <;> simp [adA, e1, e2]
/-- what there is then -/
theorem va_FX (hF : FX S0 st c x Z) (h44 : Z.1 44 0 = x.1.1 44 0) {t i : Nat} (h : VA Z t i) : VA x.1 t i ∨ (t ∈ [1, 17, 19, 21] ∧ i = x.1.1 16 0) ∨ (t ∈ [4, 67, 68] ∧ i / 3 = x.1.1 16 0 ∧ i % 3 < S0.1 20 c) := by
  obtain ⟨⟨a1, a2, a3, a4, a5, a6, a7⟩, b1, b2, b3, b4, b5, b6, b7⟩ := hF
  have kl : i / 3 < Z.1 16 0 ∧ i % 3 < Z.1 20 (i / 3) → (i / 3 < x.1.1 16 0 ∧ i % 3 < x.1.1 20 (i / 3)) ∨ (i / 3 = x.1.1 16 0 ∧ i % 3 < S0.1 20 c) := by
    rintro ⟨h1, h2⟩
    rw [a2] at h1
    by_cases e : i / 3 = x.1.1 16 0
    · rw [e, a5] at h2; exact Or.inr ⟨e, h2⟩
    · rw [b6 20 _ (by decide) e] at h2; exact Or.inl ⟨by omega, h2⟩
  unfold VA at h ⊢
  rw [a1, h44] at h
  split at h <;> first
    | exact Or.inl h
    | (rcases kl h with z | z
       · exact Or.inl z
       · exact Or.inr (Or.inr ⟨by decide, z⟩))
    | (rw [a2] at h
       by_cases e : i = x.1.1 16 0
       · exact Or.inr (Or.inl ⟨by decide, e⟩)
       · exact Or.inl (by show i < x.1.1 16 0; omega))
    | exact h.elim
theorem taken (J : JJ G E B bx m ad x.1 A V (tOf x.1)) (P : Pd (fun a => X a ∨ ∃ p, p < n ∧ a = A 7 (x.2.1 p)) (fun a => Y a ∨ ∃ p, p < n ∧ x.2.2 p ≠ 0 ∧ a = A 1 (x.2.2 p - 1)) C V) (hn : S0.1 17 c = n) (h10 : n ≤ 10) (hnl : S0.1 20 c = nl) (hnl3 : nl ≤ 3) (h20 : x.1.1 16 0 < 20) (hW : WF E Z) (hF : FX S0 st c x Z) (hM : MI S0 st c S1 n x)
    (hO : OM C q n (fun p => A 7 (x.2.1 p)) nl L) (hL : ∀ i, i < nl → LM C (L i) (S0.1 22 (3 * c + i)) (S0.1 21 (3 * c + i)) (S0.1 23 (3 * c + i)) (trB (cso S0 c) st false (S0.2.1 24 (3 * c + i)))) (hln : ∀ i, i < nl → S0.1 23 (3 * c + i) ≤ 64)
    (hpf : ∀ p, p < n → C.2.2.2.2.1 124 (A 7 (x.2.1 p)) 0 = some q ∧ C.2.2.1 125 (A 7 (x.2.1 p)) 0 = i32 p ∧ C.2.2.2.2.1 126 (A 7 (x.2.1 p)) 0 = oA A 1 (x.2.2 p) ∧ (x.2.2 p ≠ 0 → C.2.2.2.2.1 25 (A 1 (x.2.2 p - 1)) 0 = some (A 7 (x.2.1 p))))
    (hU : ∀ t i, VA x.1 t i → t ≠ 0 → A t i < q ∨ q + 3 < A t i) (hbx : bx < q) (hD : V.2.2.2.2.1 37 (A 2 0) 0 ≠ none → A 0 1 < q ∧ A 0 2 < q) (hq : q + 3 < (ck V).1)
    (hLv : ∀ i, i < nl → (∀ t j, VA x.1 t j → t ≠ 0 → A t j < L i) ∧ q + 3 < L i ∧ L i + 2 < (ck V).1) (hLd : ∀ i j, i < j → j < nl → L i + 2 < L j) (hXo : ∀ a, X a → ∀ p, p < n → a ≠ A 7 (x.2.1 p)) (hYo : ∀ a, Y a → a ≠ q ∧ ∀ p, p < n → x.2.2 p ≠ 0 → a ≠ A 1 (x.2.2 p - 1)) (hl : lsp m ad' V) (hro : RO (ad' 0) B Z A V) :
    ∃ A' V', JJ G E B bx m ad' Z A' V' (tOf Z) ∧ Pd X Y (rgC C q (x.1.1 16 0) (A 3 1) bx) V' ∧ (∀ t i, VA x.1 t i → t ≠ 0 → A' t i = A t i) ∧ A' 1 (x.1.1 16 0) = q ∧ (∀ t i, VA Z t i → t ≠ 0 → VA x.1 t i ∨ q ≤ A' t i) ∧ ∀ u w, RQ u w Z A V → RQ u w Z A' V' := by
  classical
  obtain ⟨A1, J1, e1, f0, f1, f2⟩ := jj_far J
  have hb := jj_b J
  have hwV := J.1.1
  have hRC := J.2.1
  have hWx := J.2.2.2.1
  have F44 : Z.1 44 0 = x.1.1 44 0 := hF.2.2.2.1 44 0 (by decide)
  obtain ⟨⟨a1, a2, a3, a4, a5, a6, a7⟩, b1, b2, b3, b4, b5, b6, b7, b8, b9, b10, b11, b12⟩ := id hF
  rw [hn] at a3 a7 b2 b4 b5
  rw [hnl] at a5 b1
  obtain ⟨m1, m2, m3, m4, m5⟩ := hM
  obtain ⟨o1, o2, o3, o4⟩ := hO
  have vas : ∀ p, p < n → VA x.1 7 (x.2.1 p) := fun p hp => (m2 p hp).1.2
  have vai : ∀ p, p < n → x.2.2 p ≠ 0 → VA x.1 1 (x.2.2 p - 1) := fun p hp h0 => by
    rcases m4 p hp with z | ⟨d, d', z1, z2, z3, z4⟩
    · exact absurd z.2 h0
    · show x.2.2 p - 1 < x.1.1 16 0
      have := z4.1.1
      omega
  have tq : V.1 q = 2 := by rw [← P.1.1]; exact o1.1
  have nXq : ¬ X q := fun z => by have := (P.2.2.2.1 q (Or.inl z)).1; rw [tq] at this; exact absurd this (by decide)
  have nYq : ¬ Y q := fun z => (hYo q z).1 rfl
  have t31 : V.1 (A 3 1) = 31 := hb.2.2.2.2.1.1
  have tbx : V.1 bx = 1 := hb.1.1
  -- the heap that is registered
  have c0 : ∀ k a j, a ≠ q → a ≠ bx → (rgC C q (x.1.1 16 0) (A 3 1) bx).2.2.1 k a j = C.2.2.1 k a j := fun k a j h1 h2 => by simp [rgC, csI, csA, up3, h1, h2]
  have c1 : ∀ k a j, a ≠ A 3 1 → (rgC C q (x.1.1 16 0) (A 3 1) bx).2.2.2.2.1 k a j = C.2.2.2.2.1 k a j := fun k a j h1 => by simp [rgC, csI, csA, up3, h1]
  have c2 : ∀ k j, k ≠ 16 → (rgC C q (x.1.1 16 0) (A 3 1) bx).2.2.1 k q j = C.2.2.1 k q j := fun k j h1 => by
    have hne : q ≠ bx := by omega
    simp [rgC, csI, csA, up3, h1, hne]
  have c3 : (rgC C q (x.1.1 16 0) (A 3 1) bx).2.2.1 16 q 0 = i32 (x.1.1 16 0) := by
    have hne : q ≠ bx := by omega
    simp [rgC, csI, csA, up3]
  have c4 : ∀ k j, k ≠ 6 → (rgC C q (x.1.1 16 0) (A 3 1) bx).2.2.1 k bx j = C.2.2.1 k bx j := fun k j h1 => by
    have hne : bx ≠ q := by omega
    simp [rgC, csI, csA, up3, h1, hne]
  have c5 : (rgC C q (x.1.1 16 0) (A 3 1) bx).2.2.1 6 bx 0 = i32 (x.1.1 16 0) + 1 := by simp [rgC, csI, csA, up3]
  have c6 : ∀ j, (rgC C q (x.1.1 16 0) (A 3 1) bx).2.2.2.2.1 900 (A 3 1) j = if j = x.1.1 16 0 then some q else C.2.2.2.2.1 900 (A 3 1) j := fun j => by
    by_cases h : j = x.1.1 16 0 <;> simp [rgC, csI, csA, up3, h]
  have c7 : (rgC C q (x.1.1 16 0) (A 3 1) bx).1 = C.1 ∧ (rgC C q (x.1.1 16 0) (A 3 1) bx).2.1 = C.2.1 ∧ (rgC C q (x.1.1 16 0) (A 3 1) bx).2.2.2.1 = C.2.2.2.1 ∧ (rgC C q (x.1.1 16 0) (A 3 1) bx).2.2.2.2.2 = C.2.2.2.2.2 := ⟨rfl, rfl, rfl, rfl⟩
  generalize hC' : rgC C q (x.1.1 16 0) (A 3 1) bx = C' at *
  let V' : CT := (C'.1, C'.2.1, fun k a j => if k = 125 ∧ X a then V.2.2.1 k a j else C'.2.2.1 k a j, C'.2.2.2.1, fun k a j => if ((k = 124 ∨ k = 126) ∧ X a) ∨ (k = 25 ∧ Y a) then V.2.2.2.2.1 k a j else C'.2.2.2.2.1 k a j, C'.2.2.2.2.2)
  have vI : ∀ k a j, ¬ (k = 125 ∧ X a) → V'.2.2.1 k a j = C'.2.2.1 k a j := fun k a j h => if_neg h
  have vI' : ∀ k a j, (k = 125 ∧ X a) → V'.2.2.1 k a j = V.2.2.1 k a j := fun k a j h => if_pos h
  have vA : ∀ k a j, ¬ (((k = 124 ∨ k = 126) ∧ X a) ∨ (k = 25 ∧ Y a)) → V'.2.2.2.2.1 k a j = C'.2.2.2.2.1 k a j := fun k a j h => if_neg h
  have vA' : ∀ k a j, (((k = 124 ∨ k = 126) ∧ X a) ∨ (k = 25 ∧ Y a)) → V'.2.2.2.2.1 k a j = V.2.2.2.2.1 k a j := fun k a j h => if_pos h
  have v1 : V'.1 = V.1 := c7.1.trans P.1.1
  have v2 : V'.2.1 = V.2.1 := c7.2.1.trans P.1.2.1
  have v3 : V'.2.2.2.1 = V.2.2.2.1 := c7.2.2.1.trans P.1.2.2.1
  have v4 : V'.2.2.2.2.2 = V.2.2.2.2.2 := c7.2.2.2.trans P.1.2.2.2
  have vck : ck V' = ck V := congrArg (fun x : (Nat → Bool) × (Nat × Nat) => x.2) v4
  clear_value V'
  have hP' : Pd X Y C' V' := ⟨⟨c7.1.trans (P.1.1.trans v1.symm), c7.2.1.trans (P.1.2.1.trans v2.symm), c7.2.2.1.trans (P.1.2.2.1.trans v3.symm), c7.2.2.2.trans (P.1.2.2.2.trans v4.symm)⟩, fun k a j h => (vI k a j h).symm, fun k a j h h' => (vA k a j (fun z => by rcases z with z | z; exact h z; exact h' z)).symm, fun a ha => by rw [v1, vck]; exact P.2.2.2.1 a (Or.inl ha), fun a ha => by rw [v1, vck]; exact P.2.2.2.2 a (Or.inl ha)⟩
  have hAgV : ∀ a, a ≠ q → a ≠ bx → a ≠ A 3 1 → (∀ p, p < n → a ≠ A 7 (x.2.1 p)) → (∀ p, p < n → x.2.2 p ≠ 0 → a ≠ A 1 (x.2.2 p - 1)) → Ag V V' a := fun a h1 h2 h3 h4 h5 => by
    refine ⟨by rw [v1], by rw [v2], fun k => funext fun j => ?_, fun k => by rw [v3], fun k => funext fun j => ?_, by rw [v4]⟩
    · by_cases z : k = 125 ∧ X a
      · exact vI' k a j z
      · rw [vI k a j z, c0 k a j h1 h2]
        refine P.2.1 k a j (fun w => ?_)
        rcases w.2 with w2 | ⟨p, hp, w2⟩
        · exact z ⟨w.1, w2⟩
        · exact h4 p hp w2
    · by_cases z : ((k = 124 ∨ k = 126) ∧ X a) ∨ (k = 25 ∧ Y a)
      · exact vA' k a j z
      · rw [vA k a j z, c1 k a j h3]
        refine P.2.2.1 k a j (fun w => ?_) (fun w => ?_)
        · rcases w.2 with w2 | ⟨p, hp, w2⟩
          · exact z (Or.inl ⟨w.1, w2⟩)
          · exact h4 p hp w2
        · rcases w.2 with w2 | ⟨p, hp, hp0, w2⟩
          · exact z (Or.inr ⟨w.1, w2⟩)
          · exact h5 p hp hp0 w2
  have hAgA : ∀ t i, VA x.1 t i → t ≠ 0 → (t = 7 → ∀ p, p < n → i ≠ x.2.1 p) → (t = 1 → ∀ p, p < n → x.2.2 p ≠ 0 → i ≠ x.2.2 p - 1) → ¬ (t = 3 ∧ i = 1) → Ag V V' (A t i) := fun t i h h0 h7 h1 h3 => by
    refine hAgV _ (fun z => by have := hU t i h h0; omega) (fun z => va_bx J h h0 (by rw [z]; exact tbx)) (fun z => h3 ?_) (fun p hp z => ?_) (fun p hp hp0 z => ?_)
    · exact hRC.2.2.2 t i 3 1 h (show (1 : Nat) < 4 by decide) z
    · obtain ⟨z1, z2⟩ := hRC.2.2.2 t i 7 _ h (vas p hp) z
      exact h7 z1 p hp z2
    · obtain ⟨z1, z2⟩ := hRC.2.2.2 t i 1 _ h (vai p hp hp0) z
      exact h1 z1 p hp hp0 z2
  -- the members
  have mI : ∀ p, p < n → ∀ k j, V'.2.2.1 k (A 7 (x.2.1 p)) j = C.2.2.1 k (A 7 (x.2.1 p)) j ∧ (k ≠ 125 → C.2.2.1 k (A 7 (x.2.1 p)) j = V.2.2.1 k (A 7 (x.2.1 p)) j) := fun p hp k j => by
    have hq7 : A 7 (x.2.1 p) ≠ q := by have := hU 7 _ (vas p hp) (by decide); omega
    have hb7 : A 7 (x.2.1 p) ≠ bx := fun z => va_bx J (vas p hp) (by decide) (by rw [z]; exact tbx)
    rw [vI k _ j (fun z => hXo _ z.2 p hp rfl), c0 k _ j hq7 hb7]
    exact ⟨rfl, fun hk => P.2.1 k _ j (fun z => hk z.1)⟩
  have t7 : ∀ p, p < n → V.1 (A 7 (x.2.1 p)) = 8 := fun p hp => rs_tag (jj_s J (m2 p hp).1.2)
  have mA : ∀ p, p < n → ∀ k j, V'.2.2.2.2.1 k (A 7 (x.2.1 p)) j = C.2.2.2.2.1 k (A 7 (x.2.1 p)) j ∧ (k ≠ 124 → k ≠ 126 → C.2.2.2.2.1 k (A 7 (x.2.1 p)) j = V.2.2.2.2.1 k (A 7 (x.2.1 p)) j) := fun p hp k j => by
    have nY : ∀ Q : Prop, (Y (A 7 (x.2.1 p)) ∨ ∃ r, r < n ∧ x.2.2 r ≠ 0 ∧ A 7 (x.2.1 p) = A 1 (x.2.2 r - 1)) → Q := fun Q z => by
      have := (P.2.2.2.2 _ z).1
      rw [t7 p hp] at this
      exact absurd this (by decide)
    have h31 : A 7 (x.2.1 p) ≠ A 3 1 := fun z => by have := t7 p hp; rw [z, t31] at this; exact absurd this (by decide)
    rw [vA k _ j (fun z => by
      rcases z with z | z
      · exact hXo _ z.2 p hp rfl
      · exact nY _ (Or.inl z.2)), c1 k _ j h31]
    exact ⟨rfl, fun h1 h2 => P.2.2.1 k _ j (fun z => by rcases z.1 with z | z; exact h1 z; exact h2 z) (fun z => nY _ z.2)⟩
  -- the chains within
  have t1 : ∀ p, p < n → x.2.2 p ≠ 0 → V.1 (A 1 (x.2.2 p - 1)) = 2 := fun p hp h0 => rc_tag (jj_c J (vai p hp h0))
  have iI : ∀ p, p < n → x.2.2 p ≠ 0 → ∀ k j, V'.2.2.1 k (A 1 (x.2.2 p - 1)) j = V.2.2.1 k (A 1 (x.2.2 p - 1)) j := fun p hp h0 k j => by
    have nX : ∀ Q : Prop, (X (A 1 (x.2.2 p - 1)) ∨ ∃ r, r < n ∧ A 1 (x.2.2 p - 1) = A 7 (x.2.1 r)) → Q := fun Q z => by
      have := (P.2.2.2.1 _ z).1
      rw [t1 p hp h0] at this
      exact absurd this (by decide)
    have hq1 : A 1 (x.2.2 p - 1) ≠ q := by have := hU 1 _ (vai p hp h0) (by decide); omega
    have hb1 : A 1 (x.2.2 p - 1) ≠ bx := fun z => va_bx J (vai p hp h0) (by decide) (by rw [z]; exact tbx)
    rw [vI k _ j (fun z => nX _ (Or.inl z.2)), c0 k _ j hq1 hb1]
    exact P.2.1 k _ j (fun z => nX _ z.2)
  have iA : ∀ p, p < n → x.2.2 p ≠ 0 → ∀ k j, V'.2.2.2.2.1 k (A 1 (x.2.2 p - 1)) j = C.2.2.2.2.1 k (A 1 (x.2.2 p - 1)) j ∧ (k ≠ 25 → C.2.2.2.2.1 k (A 1 (x.2.2 p - 1)) j = V.2.2.2.2.1 k (A 1 (x.2.2 p - 1)) j) := fun p hp h0 k j => by
    have nX : ∀ Q : Prop, (X (A 1 (x.2.2 p - 1)) ∨ ∃ r, r < n ∧ A 1 (x.2.2 p - 1) = A 7 (x.2.1 r)) → Q := fun Q z => by
      have := (P.2.2.2.1 _ z).1
      rw [t1 p hp h0] at this
      exact absurd this (by decide)
    have h31 : A 1 (x.2.2 p - 1) ≠ A 3 1 := fun z => by have := t1 p hp h0; rw [z, t31] at this; exact absurd this (by decide)
    rw [vA k _ j (fun z => by
      rcases z with z | z
      · exact nX _ (Or.inl z.2)
      · exact (hYo _ z.2).2 p hp h0 rfl), c1 k _ j h31]
    exact ⟨rfl, fun h1 => P.2.2.1 k _ j (fun z => nX _ z.2) (fun z => h1 z.1)⟩
  -- the chain's own
  have qn : ∀ a, V.1 a ≠ 8 → V.1 a ≠ 2 → a ≠ bx → a ≠ A 3 1 → (∀ k j, V'.2.2.1 k a j = C.2.2.1 k a j) ∧ (∀ k j, V'.2.2.2.2.1 k a j = C.2.2.2.2.1 k a j) := fun a h8 h2 h3 h4 => by
    have nX : ¬ X a := fun z => h8 (P.2.2.2.1 a (Or.inl z)).1
    have nY : ¬ Y a := fun z => h2 (P.2.2.2.2 a (Or.inl z)).1
    have haq : a ≠ q := fun z => h2 (by rw [z]; exact tq)
    exact ⟨fun k j => by rw [vI k a j (fun z => nX z.2), c0 k a j haq h3], fun k j => by rw [vA k a j (fun z => by rcases z with z | z; exact nX z.2; exact nY z.2), c1 k a j h4]⟩
  have qI : ∀ k, k ≠ 16 → V'.2.2.1 k q 0 = C.2.2.1 k q 0 := fun k hk => by rw [vI k q 0 (fun z => nXq z.2), c2 k 0 hk]
  have q16 : V'.2.2.1 16 q 0 = i32 (x.1.1 16 0) := by rw [vI 16 q 0 (fun z => nXq z.2), c3]
  have q31 : q ≠ A 3 1 := fun z => by have := tq; rw [z, t31] at this; exact absurd this (by decide)
  have qA : ∀ k, V'.2.2.2.2.1 k q 0 = C.2.2.2.2.1 k q 0 := fun k => by rw [vA k q 0 (fun z => by rcases z with z | z; exact nXq z.2; exact nYq z.2), c1 k q 0 q31]
  have hA3 : ∀ i, i < 4 → i ≠ 1 → Ag V V' (A 3 i) := fun i hi h1 => hAgA 3 i hi (by decide) (fun z => absurd z (by decide)) (fun z => absurd z (by decide)) (fun z => h1 z.2)
  have hA5 : ∀ i, i < 3 → Ag V V' (A 5 i) := fun i hi => hAgA 5 i hi (by decide) (fun z => absurd z (by decide)) (fun z => absurd z (by decide)) (fun z => absurd z.1 (by decide))
  have hA2 : Ag V V' (A 2 0) := hAgA 2 0 rfl (by decide) (fun z => absurd z (by decide)) (fun z => absurd z (by decide)) (fun z => absurd z.1 (by decide))
  have lt7 : ∀ t i, VA x.1 t i → t ≠ 0 → A t i < (ck V).1 := fun t i h h0 => (hwV.2.1 _ (va_tag J h h0)).2
  have hbxI : ∀ k j, k ≠ 6 → V'.2.2.1 k bx j = V.2.2.1 k bx j := fun k j hk => by
    have nX : ¬ (X bx ∨ ∃ p, p < n ∧ bx = A 7 (x.2.1 p)) := fun z => by have := (P.2.2.2.1 bx z).1; rw [tbx] at this; exact absurd this (by decide)
    rw [vI k bx j (fun z => nX (Or.inl z.2)), c4 k j hk]
    exact P.2.1 k bx j (fun z => nX z.2)
  have hbx6 : V'.2.2.1 6 bx 0 = i32 (x.1.1 16 0) + 1 := by
    rw [vI 6 bx 0 (fun z => absurd z.1 (by decide)), c5]
  have nXb : ¬ (X bx ∨ ∃ p, p < n ∧ bx = A 7 (x.2.1 p)) := fun z => by have := (P.2.2.2.1 bx z).1; rw [tbx] at this; exact absurd this (by decide)
  have nYb : ¬ (Y bx ∨ ∃ p, p < n ∧ x.2.2 p ≠ 0 ∧ bx = A 1 (x.2.2 p - 1)) := fun z => by have := (P.2.2.2.2 bx z).1; rw [tbx] at this; exact absurd this (by decide)
  have hb31 : bx ≠ A 3 1 := fun z => by have := tbx; rw [z, t31] at this; exact absurd this (by decide)
  have hbxA : ∀ k j, V'.2.2.2.2.1 k bx j = V.2.2.2.2.1 k bx j := fun k j => by
    rw [vA k bx j (fun z => by rcases z with z | z; exact nXb (Or.inl z.2); exact nYb (Or.inl z.2)), c1 k bx j hb31]
    exact P.2.2.1 k bx j (fun z => nXb z.2) (fun z => nYb z.2)
  have r31 : ∀ d, d < 20 → V'.2.2.2.2.1 900 (A 3 1) d = if d = x.1.1 16 0 then some q else V.2.2.2.2.1 900 (A 3 1) d := fun d hd => by
    have nX : ¬ (X (A 3 1) ∨ ∃ p, p < n ∧ A 3 1 = A 7 (x.2.1 p)) := fun z => by have := (P.2.2.2.1 _ z).1; rw [t31] at this; exact absurd this (by decide)
    have nY : ¬ (Y (A 3 1) ∨ ∃ p, p < n ∧ x.2.2 p ≠ 0 ∧ A 3 1 = A 1 (x.2.2 p - 1)) := fun z => by have := (P.2.2.2.2 _ z).1; rw [t31] at this; exact absurd this (by decide)
    rw [vA 900 _ d (fun z => by rcases z with z | z; exact nX (Or.inl z.2); exact nY (Or.inl z.2)), c6 d]
    by_cases h : d = x.1.1 16 0
    · rw [if_pos h, if_pos h]
    · rw [if_neg h, if_neg h]
      exact P.2.2.1 900 _ d (fun z => nX z.2) (fun z => nY z.2)
  have e1' : ∀ t i, t ≠ 0 → adA A1 q (x.1.1 16 0) L t i = adA A q (x.1.1 16 0) L t i := fun t i h0 => by unfold adA; rw [e1 t i h0]
  have av : ∀ t i, VA x.1 t i → t ≠ 0 → adA A1 q (x.1.1 16 0) L t i = A t i := fun t i h h0 => by rw [adA_va h, e1 t i h0]
  have at0 : ∀ t i, t ∉ [1, 17, 19, 21, 4, 67, 68] → t ≠ 0 → adA A1 q (x.1.1 16 0) L t i = A t i := fun t i h h0 => by
    rw [adA_off (fun z => absurd ((by decide : ∀ t, t ∈ [1, 17, 19, 21] → t ∈ [1, 17, 19, 21, 4, 67, 68]) t z) h) (fun z => absurd ((by decide : ∀ t, t ∈ [4, 67, 68] → t ∈ [1, 17, 19, 21, 4, 67, 68]) t z) h), e1 t i h0]
  have a00 : ∀ i, adA A1 q (x.1.1 16 0) L 0 i = A1 0 i := fun i => adA_off (fun z => absurd z (by decide)) (fun z => absurd z (by decide))
  have o1c : ∀ d, d ≤ x.1.1 16 0 → oA (adA A1 q (x.1.1 16 0) L) 1 d = oA A 1 d := fun d hd => by
    cases d with
    | zero => rfl
    | succ d => exact congrArg some (av 1 d (show d < x.1.1 16 0 by omega) (by decide))
  have o7 : ∀ d, oA (adA A1 q (x.1.1 16 0) L) 7 d = oA A 7 d := fun d => by
    cases d with
    | zero => rfl
    | succ d => exact congrArg some (at0 7 d (by decide) (by decide))
  have hck : bx < (ck V).1 := by omega
  have hCWV : CW B V' := by
    refine pd_CW (pd_symm hP') ?_
    rw [← hC']
    unfold rgC
    have hw := pd_CW P hwV
    exact cw_csI (cw_csA (cw_csI hw (by rw [o1.1]; decide)) (by show C.1 (A 3 1) ≠ 0; rw [P.1.1, t31]; decide)) (by show C.1 bx ≠ 0; rw [P.1.1, tbx]; decide)
  have hROs : ∀ u w, RQ u w Z A V → RQ u w Z (adA A1 q (x.1.1 16 0) L) V' := fun u w h => ro_same h rfl rfl rfl (fun _ _ => rfl) (at0 2 0 (by decide) (by decide)) (by rw [hA2.2.2.2.2.1]) vck
  have dead : V.2.2.2.2.1 37 (A 2 0) 0 ≠ none → A1 0 1 < q ∧ A1 0 2 < q := fun h => by
    obtain ⟨z1, z2⟩ := f2 h
    rw [z1, z2]; exact hD h
  have far0 : ∀ i, i < 3 → A1 0 i < q ∨ (ck V).1 ≤ A1 0 i := fun i hi => by
    by_cases h : V.2.2.2.2.1 37 (A 2 0) 0 = none
    · exact Or.inr (f1 h i)
    · by_cases h0 : i = 0
      · subst h0; exact Or.inr f0
      · have e : i = 1 ∨ i = 2 := by omega
        rcases e with rfl | rfl
        · exact Or.inl (dead h).1
        · exact Or.inl (dead h).2
  refine ⟨adA A1 q (x.1.1 16 0) L, V', ⟨⟨hCWV, lsp_eq hl v1 vck, hROs _ _ hro⟩, ⟨?_, fun s h => ?_, fun d h => ?_, ?_⟩, rt_tOf Z, hW, ?_, ?_⟩, hP', av, adA_1, fun t i h h0 => ?_, hROs⟩
  · -- the bench's own
    refine RCb_of hb (by rw [v1]) (fun k _ => hbxA k 0) ?_ ?_ ?_ (fun i => at0 5 i (by decide) (by decide)) (fun i => at0 3 i (by decide) (by decide)) (at0 2 0 (by decide) (by decide)) hA5 (fun i _ => ⟨by rw [v1], by rw [v2]⟩) (by rw [v1]) (fun s hs => ?_) (fun d hd => ?_) (fun k hk => ?_)
    · rw [hbxI 4 0 (by decide), a1]; exact hb.2.1.1
    · rw [hbx6, a2]; exact i32_add _ 1
    · rw [hbxI 8 0 (by decide), F44]; exact hb.2.1.2.2
    · rw [(hA3 0 (by decide) (by decide)).2.2.2.2.1, a1, at0 7 s (by decide) (by decide)]; exact hb.2.2.2.1.2.2 s hs
    · rw [r31 d hd, a2]
      by_cases e : d = x.1.1 16 0
      · subst e; rw [if_pos rfl, if_pos (by omega), adA_1]
      · rw [if_neg e, hb.2.2.2.2.1.2.2 d hd]
        by_cases g : d < x.1.1 16 0
        · rw [if_pos g, if_pos (by omega), av 1 d g (by decide)]
        · rw [if_neg g, if_neg (by omega)]
    · rw [(hA3 2 (by decide) (by decide)).2.2.2.2.1, F44, at0 48 k (by decide) (by decide)]; exact hb.2.2.2.2.2.1.2.2 k hk
  · -- the sections
    rw [a1] at h
    have hsr := jj_s J h
    have A5e := at0 5 (x.1.1 3 s) (by decide) (by decide)
    by_cases e : ∃ p, p < n ∧ s = x.2.1 p
    · obtain ⟨p, hp, rfl⟩ := e
      obtain ⟨p1, p2, p3, p4⟩ := hpf p hp
      obtain ⟨u1, u2, u3, u4⟩ := b2 p hp
      obtain ⟨⟨g1, g2, g3, g4, g5, g6, g7, g8⟩, ⟨h1, h2, h3, h4, h5, h6, h7, h8⟩, g117, g118⟩ := hsr
      have ag117 := hAgA 117 (x.2.1 p) (show x.2.1 p < x.1.1 1 0 from h) (by decide) (fun z => absurd z (by decide)) (fun z => absurd z (by decide)) (fun z => absurd z.1 (by decide))
      have ag118 := hAgA 118 (x.2.1 p) (show x.2.1 p < x.1.1 1 0 from h) (by decide) (fun z => absurd z (by decide)) (fun z => absurd z (by decide)) (fun z => absurd z.1 (by decide))
      have ag96 := hAgA 96 (x.2.1 p) (show x.2.1 p < x.1.1 1 0 from h) (by decide) (fun z => absurd z (by decide)) (fun z => absurd z (by decide)) (fun z => absurd z.1 (by decide))
      have ag121 := hAgA 121 (x.2.1 p) (show x.2.1 p < x.1.1 1 0 from h) (by decide) (fun z => absurd z (by decide)) (fun z => absurd z (by decide)) (fun z => absurd z.1 (by decide))
      have ag98 := hAgA 98 (x.2.1 p) (show x.2.1 p < x.1.1 1 0 from h) (by decide) (fun z => absurd z (by decide)) (fun z => absurd z (by decide)) (fun z => absurd z.1 (by decide))
      have I := fun k (hk : k ≠ 125) => ((mI p hp k 0).1.trans ((mI p hp k 0).2 hk))
      have Rr := fun k (hk : k ≠ 124) (hk' : k ≠ 126) => ((mA p hp k 0).1.trans ((mA p hp k 0).2 hk hk'))
      have A7 := at0 7 (x.2.1 p) (by decide) (by decide)
      have A117 := at0 117 (x.2.1 p) (by decide) (by decide)
      have A118 := at0 118 (x.2.1 p) (by decide) (by decide)
      have A96 := at0 96 (x.2.1 p) (by decide) (by decide)
      have A121 := at0 121 (x.2.1 p) (by decide) (by decide)
      have A98 := at0 98 (x.2.1 p) (by decide) (by decide)
      have z2 := b3 2 (x.2.1 p) (by decide)
      have z3 := b3 3 (x.2.1 p) (by decide)
      have z5 := b3 5 (x.2.1 p) (by decide)
      have z6 := b3 6 (x.2.1 p) (by decide)
      have z14 := b3 14 (x.2.1 p) (by decide)
      have z70 := b3 70 (x.2.1 p) (by decide)
      have zr : rln Z (x.2.1 p) = rln x.1 (x.2.1 p) := by unfold rln; rw [z2, b12]
      have bp : x.2.2 p ≤ x.1.1 16 0 := by
        by_cases h0 : x.2.2 p = 0
        · omega
        · have : x.2.2 p - 1 < x.1.1 16 0 := vai p hp h0
          omega
      refine ⟨⟨?_, ?_, ?_, ?_, ?_, ?_, ?_, ?_⟩, ⟨?_, ?_, ?_, ?_, ?_, ?_, ?_, ?_⟩, ⟨?_, ?_, fun k hk => ?_⟩, ?_, ?_, ?_, ?_⟩
      · rw [A7, v1]; exact g1
      · rw [A7, I 112 (by decide)]; exact g2
      · rw [A7, I 113 (by decide), z2]; exact g3
      · rw [A7, I 114 (by decide), z3]; exact g4
      · rw [A7, I 115 (by decide), b12]; exact g5
      · rw [A7, Rr 116 (by decide) (by decide), z3, A5e]; exact g6
      · rw [A7, Rr 117 (by decide) (by decide), A117]; exact g7
      · rw [A7, Rr 118 (by decide) (by decide), A118]; exact g8
      · rw [A7, I 119 (by decide), z5]; exact h1
      · rw [A7, I 120 (by decide), z6]; exact h2
      · refine ⟨?_, ?_, ?_, ?_, ?_, ?_, ?_⟩
        · rw [A7, Rr 121 (by decide) (by decide), A121]; exact h3.1
        · rw [A121, v1]; exact h3.2.1
        · rw [A121, ag121.2.2.2.2.1, A98]; exact h3.2.2.1
        · rw [A121, ag121.2.2.1]; exact h3.2.2.2.1
        · rw [A98, v1]; exact h3.2.2.2.2.1
        · rw [A98, v2]; exact h3.2.2.2.2.2.1
        · rw [A98, v3, b9 15 (by decide) (by decide)]; exact h3.2.2.2.2.2.2
      · rw [A7, I 122 (by decide), b12]; exact h4
      · rw [A7, I 123 (by decide), b12]; exact h5
      · rw [A7, (mA p hp 124 0).1, p1, u1]
        exact (congrArg some adA_1).symm
      · rw [A7, (mI p hp 125 0).1, p2, u2, im_succ]
      · rw [A7, (mA p hp 126 0).1, p3, u3, o1c _ bp]
      · rw [A117, v1]; exact g117.1
      · rw [A117, v2, z2]; exact g117.2.1
      · rw [z2] at hk
        rw [A117, v3, b9 7 (by decide) (by decide)]; exact g117.2.2 k hk
      · rw [A118, v1]; exact g118.1
      · rw [A118, ag118.2.2.2.2.1, A96]; exact g118.2.1
      · rw [A118, ag118.2.2.1, z70]; exact g118.2.2.1
      · rw [A96, zr, z70, z14, b9 13 (by decide) (by decide)]
        obtain ⟨w1, w2, w3, w4, w5⟩ := g118.2.2.2
        exact ⟨by rw [v1]; exact w1, by rw [v2]; exact w2, w3, w4, fun k hk => by rw [v3]; exact w5 k hk⟩
    · have hne : ∀ p, p < n → s ≠ x.2.1 p := fun p hp z => e ⟨p, hp, z⟩
      have w8 : x.1.1 8 s ≤ x.1.1 16 0 := by
        cases h8 : x.1.1 8 s with
        | zero => exact Nat.zero_le _
        | succ d => exact ((jj_ws J h).2.2.2.2.1 d h8).1
      have w10 := inner_le J h
      have ss : Ss x.1 Z s := ⟨fun k hk => by
        simp only [List.mem_cons, List.not_mem_nil, or_false] at hk
        rcases hk with rfl | rfl | rfl | rfl | rfl | rfl | rfl | rfl | rfl <;> first | exact b3 _ _ (by decide) | exact b4 _ _ (by decide) hne, fun k _ => by rw [b12], by rw [b9 15 (by decide) (by decide)], b9 7 (by decide) (by decide), b9 13 (by decide) (by decide)⟩
      refine RCs_ag (A := A) (C := V) ss (fun t ht => ⟨?_, ?_⟩) A5e (o1c _ w8) (o1c _ w10) hsr
      · simp only [List.mem_cons, List.not_mem_nil, or_false] at ht
        rcases ht with rfl | rfl | rfl | rfl | rfl | rfl <;> exact at0 _ _ (by decide) (by decide)
      · simp only [List.mem_cons, List.not_mem_nil, or_false] at ht
        rcases ht with rfl | rfl | rfl | rfl | rfl | rfl <;> exact hAgA _ s h (by decide) (fun _ p hp => hne p hp) (fun z => absurd z (by decide)) (fun z => absurd z.1 (by decide))
  · -- the chains
    rw [a2] at h
    by_cases e : d = x.1.1 16 0
    · subst e
      obtain ⟨⟨y1, y2, y3, y4, y5, y6, y7, y8, y9, y10⟩, y17, y19, y21⟩ := (show OM C q n (fun p => A 7 (x.2.1 p)) nl L from ⟨o1, o2, o3, o4⟩)
      have tq1 : V.1 (q + 1) = 37 := by rw [← P.1.1]; exact y17.1
      have tq2 : V.1 (q + 2) = 34 := by rw [← P.1.1]; exact y19.1
      have tq3 : V.1 (q + 3) = 21 := by rw [← P.1.1]; exact y21.1
      have q1 := qn (q + 1) (by rw [tq1]; decide) (by rw [tq1]; decide) (by omega) (fun z => by have := tq1; rw [z, t31] at this; exact absurd this (by decide))
      have q2 := qn (q + 2) (by rw [tq2]; decide) (by rw [tq2]; decide) (by omega) (fun z => by have := tq2; rw [z, t31] at this; exact absurd this (by decide))
      have hz := hWx.2.2.2.2.1 (x.1.1 16 0) (Nat.le_refl _) h20
      refine ⟨⟨?_, ?_, ?_, ?_, ?_, ?_, ?_, ?_, ?_, ?_, ?_⟩, ⟨?_, ?_, fun p hp => ?_⟩, ⟨?_, ?_, fun i hi => ?_⟩, ⟨?_, ?_, fun j hj => ?_⟩, fun i hi => ?_⟩
      · rw [adA_1, v1]; exact tq
      · rw [adA_1]; exact q16
      · rw [adA_1, qA, adA_17]; exact y2
      · rw [adA_1, qI 18 (by decide), a3]; exact y3
      · rw [adA_1, qA, adA_19]; exact y4
      · rw [adA_1, qI 20 (by decide), a5]; exact y5
      · rw [adA_1, qA, adA_21]; exact y6
      · rw [adA_1, qI 22 (by decide), a6]; exact y7
      · rw [adA_1, qI 23 (by decide), a6]; exact y8
      · rw [adA_1, qI 24 (by decide), a6]; exact y9
      · rw [adA_1, qA, a4]; exact y10
      · rw [adA_17, v1]; exact tq1
      · rw [adA_17, v2, ← P.1.2.1]; exact y17.2.1
      · rw [adA_17, q1.2, y17.2.2 p hp, a3]
        by_cases g : p < n
        · rw [if_pos g, if_pos g, a7 p g, at0 7 _ (by decide) (by decide)]
        · rw [if_neg g, if_neg g]
      · rw [adA_19, v1]; exact tq2
      · rw [adA_19, v2, ← P.1.2.1]; exact y19.2.1
      · rw [adA_19, q2.2, y19.2.2 i hi, a5]
        by_cases g : i < nl
        · rw [if_pos g, if_pos g, (adA_l hi).1]
        · rw [if_neg g, if_neg g]
      · rw [adA_21, v1]; exact tq3
      · rw [adA_21, v2, ← P.1.2.1]; exact y21.2.1
      · rw [adA_21, v3, ← P.1.2.2.1, y21.2.2, b9 27 (by decide) (by decide), hz.2.2.2.2.1 j hj]
      · rw [a5] at hi
        obtain ⟨⟨l1, l2, l3, l4, l5⟩, l6, l7, l8, l9, l10, l11⟩ := hL i hi
        obtain ⟨⟨w21, w22, w23, w26, w71⟩, w24, w25⟩ := b1 i hi
        have tl0 : V.1 (L i) = 5 := by rw [← P.1.1]; exact l1
        have tl1 : V.1 (L i + 1) = 7 := by rw [← P.1.1]; exact l6
        have lv := hLv i hi
        have k0 := qn (L i) (by rw [tl0]; decide) (by rw [tl0]; decide) (by omega) (fun z => by have := tl0; rw [z, t31] at this; exact absurd this (by decide))
        have k1 := qn (L i + 1) (by rw [tl1]; decide) (by rw [tl1]; decide) (by omega) (fun z => by have := tl1; rw [z, t31] at this; exact absurd this (by decide))
        obtain ⟨j4, j67, j68⟩ := adA_l (A := A1) (q := q) (n := x.1.1 16 0) (L := L) (i := i) (by omega)
        have hl64 := hln i hi
        refine ⟨⟨?_, ?_, ?_, ?_, ?_⟩, ?_, ?_, ?_, ?_, ?_, Or.inl ?_, Or.inl ?_, fun k hk => ?_⟩
        · rw [j4, v1]; exact tl0
        · rw [j4, k0.1, w22]; exact l2
        · rw [j4, k0.1, w21]; exact l3
        · rw [j4, v3, ← P.1.2.2.1, w24]; exact l4
        · rw [j4, k0.2, j67]; exact l5
        · rw [j67, v1]; exact tl1
        · rw [j67, k1.2, j68]; exact l7
        · rw [j67, k1.1, w71]; exact l8
        · rw [j68, v1, ← P.1.1]; exact l9
        · rw [j68, v2, ← P.1.2.1, w23]; exact l10
        · exact w71
        · exact w26
        · rw [w23] at hk
          rw [j68, v3, ← P.1.2.2.1, l11, w23, w26]
          have := Nat.mod_lt (0 + k) (show 0 < S0.1 23 (3 * c + i) by omega)
          exact (w25 _ (by omega)).symm
    · have hd : d < x.1.1 16 0 := by omega
      have hcr := jj_c J hd
      have wc := jj_wc J hd
      have A1d := av 1 d hd (by decide)
      have hl' : ∀ i, i < x.1.1 20 d → RCl Z (adA A1 q (x.1.1 16 0) L) V' (3 * d + i) := fun i hi => by
        have hi3 : i < 3 := by have := wc.1.2.1; omega
        have hvq : (3 * d + i) / 3 < x.1.1 16 0 ∧ (3 * d + i) % 3 < x.1.1 20 ((3 * d + i) / 3) := by
          rw [show (3 * d + i) / 3 = d by omega, show (3 * d + i) % 3 = i by omega]; exact ⟨hd, hi⟩
        refine RCl_agr (S := x.1) (A := A) (C := V) (fun k hk => b8 k _ hk (by omega)) (b10 _ (by omega)) (fun j hj => b11 _ (by omega)) (wc.2.2.2.2.1 i hi).2.2.2.1 (fun t ht => ⟨?_, ?_⟩) (hcr.2.2.2.2 i hi)
        · simp only [List.mem_cons, List.not_mem_nil, or_false] at ht
          rcases ht with rfl | rfl | rfl <;> exact av _ _ hvq (by decide)
        · simp only [List.mem_cons, List.not_mem_nil, or_false] at ht
          rcases ht with rfl | rfl | rfl <;> exact hAgA _ _ hvq (by decide) (fun z => absurd z (by decide)) (fun z => absurd z (by decide)) (fun z => absurd z.1 (by decide))
      have z17 := b6 17 d (by decide) e
      have z20 := b6 20 d (by decide) e
      have z28 := b6 28 d (by decide) e
      have z18 : ∀ p, p < x.1.1 17 d → Z.1 18 (10 * d + p) = x.1.1 18 (10 * d + p) := fun p hp => b7 _ (by have := wc.1.1; omega)
      by_cases ei : ∃ p, p < n ∧ x.2.2 p ≠ 0 ∧ d = x.2.2 p - 1
      · obtain ⟨p, hp, hp0, rfl⟩ := ei
        obtain ⟨u1, u2, u3, u4⟩ := b2 p hp
        obtain ⟨p1, p2, p3, p4⟩ := hpf p hp
        obtain ⟨⟨g1, g2, g3, g4, g5, g6, g7, g8, g9, gX, gY⟩, gm, gl, gt, -⟩ := hcr
        have a17 := hAgA 17 (x.2.2 p - 1) hd (by decide) (fun z => absurd z (by decide)) (fun z => absurd z (by decide)) (fun z => absurd z.1 (by decide))
        have a19 := hAgA 19 (x.2.2 p - 1) hd (by decide) (fun z => absurd z (by decide)) (fun z => absurd z (by decide)) (fun z => absurd z.1 (by decide))
        have I := iI p hp hp0
        have Rr := fun k (hk : k ≠ 25) => (iA p hp hp0 k 0).1.trans ((iA p hp hp0 k 0).2 hk)
        have A17 := av 17 _ hd (by decide)
        have A19 := av 19 _ hd (by decide)
        have A21 := av 21 _ hd (by decide)
        refine ⟨⟨?_, ?_, ?_, ?_, ?_, ?_, ?_, ?_, ?_, ?_, ?_⟩, ⟨?_, ?_, fun r hr => ?_⟩, ⟨?_, ?_, fun i hi => ?_⟩, ⟨?_, ?_, fun j hj => ?_⟩, fun i hi => hl' i (by rw [← z20]; exact hi)⟩
        · rw [A1d, v1]; exact g1
        · rw [A1d, I]; exact g2
        · rw [A1d, Rr 17 (by decide), A17]; exact g3
        · rw [A1d, I, z17]; exact g4
        · rw [A1d, Rr 19 (by decide), A19]; exact g5
        · rw [A1d, I, z20]; exact g6
        · rw [A1d, Rr 21 (by decide), A21]; exact g7
        · rw [A1d, I, z28]; exact g8
        · rw [A1d, I, z28]; exact g9
        · rw [A1d, I, z28]; exact gX
        · rw [A1d, (iA p hp hp0 25 0).1, p4 hp0, u4 hp0]
          exact (congrArg some (at0 7 _ (by decide) (by decide))).symm
        · rw [A17, v1]; exact gm.1
        · rw [A17, v2]; exact gm.2.1
        · rw [A17, a17.2.2.2.2.1, gm.2.2 r hr, z17]
          by_cases g : r < x.1.1 17 (x.2.2 p - 1)
          · rw [if_pos g, if_pos g, z18 r g, at0 7 _ (by decide) (by decide)]
          · rw [if_neg g, if_neg g]
        · rw [A19, v1]; exact gl.1
        · rw [A19, v2]; exact gl.2.1
        · rw [A19, a19.2.2.2.2.1, gl.2.2 i hi, z20]
          by_cases g : i < x.1.1 20 (x.2.2 p - 1)
          · have hvq : (3 * (x.2.2 p - 1) + i) / 3 < x.1.1 16 0 ∧ (3 * (x.2.2 p - 1) + i) % 3 < x.1.1 20 ((3 * (x.2.2 p - 1) + i) / 3) := by
              rw [show (3 * (x.2.2 p - 1) + i) / 3 = x.2.2 p - 1 by omega, show (3 * (x.2.2 p - 1) + i) % 3 = i by omega]; exact ⟨hd, g⟩
            rw [if_pos g, if_pos g, av 4 _ hvq (by decide)]
          · rw [if_neg g, if_neg g]
        · rw [A21, v1]; exact gt.1
        · rw [A21, v2]; exact gt.2.1
        · rw [A21, v3, b9 27 (by decide) (by decide)]; exact gt.2.2 j hj
      · have hne : ∀ p, p < n → x.2.2 p ≠ 0 → d ≠ x.2.2 p - 1 := fun p hp h0 z => ei ⟨p, hp, h0, z⟩
        refine RCc_ag (S := x.1) (A := A) (C := V) (fun k hk => ?_) (fun p hp => ⟨z18 p hp, at0 7 _ (by decide) (by decide)⟩) (b9 27 (by decide) (by decide)) (fun t ht => ⟨?_, ?_⟩) (o7 _) (fun i hi => ?_) hl' hcr
        · simp only [List.mem_cons, List.not_mem_nil, or_false] at hk
          rcases hk with rfl | rfl | rfl | rfl
          · exact z17
          · exact b5 d e hne
          · exact z20
          · exact z28
        · simp only [List.mem_cons, List.not_mem_nil, or_false] at ht
          rcases ht with rfl | rfl | rfl | rfl <;> exact av _ d hd (by decide)
        · simp only [List.mem_cons, List.not_mem_nil, or_false] at ht
          rcases ht with rfl | rfl | rfl | rfl <;> exact hAgA _ d hd (by decide) (fun z => absurd z (by decide)) (fun _ p hp h0 => hne p hp h0) (fun z => absurd z.1 (by decide))
        · have hi3 : i < 3 := by have := wc.1.2.1; omega
          have hvq : (3 * d + i) / 3 < x.1.1 16 0 ∧ (3 * d + i) % 3 < x.1.1 20 ((3 * d + i) / 3) := by
            rw [show (3 * d + i) / 3 = d by omega, show (3 * d + i) % 3 = i by omega]; exact ⟨hd, hi⟩
          exact av 4 _ hvq (by decide)
  · -- no two are one
    have cls : ∀ t i, VA Z t i → (t ≠ 0 ∧ VA x.1 t i ∧ adA A1 q (x.1.1 16 0) L t i = A t i) ∨ (t = 0 ∧ i < 3 ∧ adA A1 q (x.1.1 16 0) L t i = A1 0 i) ∨ (∃ o, o < 4 ∧ adA A1 q (x.1.1 16 0) L t i = q + o ∧ i = x.1.1 16 0 ∧ ((t = 1 ∧ o = 0) ∨ (t = 17 ∧ o = 1) ∨ (t = 19 ∧ o = 2) ∨ (t = 21 ∧ o = 3))) ∨
        ∃ k o, k < nl ∧ o < 3 ∧ adA A1 q (x.1.1 16 0) L t i = L k + o ∧ i = 3 * x.1.1 16 0 + k ∧ ((t = 4 ∧ o = 0) ∨ (t = 67 ∧ o = 1) ∨ (t = 68 ∧ o = 2)) := fun t i h => by
      by_cases h0 : t = 0
      · subst h0
        exact Or.inr (Or.inl ⟨rfl, h, a00 i⟩)
      · rcases va_FX hF F44 h with z | ⟨z1, z2⟩ | ⟨z1, z2, z3⟩
        · exact Or.inl ⟨h0, z, av t i z h0⟩
        · refine Or.inr (Or.inr (Or.inl ?_))
          subst z2
          simp only [List.mem_cons, List.not_mem_nil, or_false] at z1
          rcases z1 with rfl | rfl | rfl | rfl
          · exact ⟨0, by decide, adA_1, rfl, Or.inl ⟨rfl, rfl⟩⟩
          · exact ⟨1, by decide, adA_17, rfl, Or.inr (Or.inl ⟨rfl, rfl⟩)⟩
          · exact ⟨2, by decide, adA_19, rfl, Or.inr (Or.inr (Or.inl ⟨rfl, rfl⟩))⟩
          · exact ⟨3, by decide, adA_21, rfl, Or.inr (Or.inr (Or.inr ⟨rfl, rfl⟩))⟩
        · refine Or.inr (Or.inr (Or.inr ?_))
          rw [hnl] at z3
          have ei : i = 3 * x.1.1 16 0 + i % 3 := by omega
          have k3 := adA_l (A := A1) (q := q) (n := x.1.1 16 0) (L := L) (i := i % 3) (by omega)
          rw [← ei] at k3
          simp only [List.mem_cons, List.not_mem_nil, or_false] at z1
          rcases z1 with rfl | rfl | rfl
          · exact ⟨i % 3, 0, z3, by decide, k3.1, ei, Or.inl ⟨rfl, rfl⟩⟩
          · exact ⟨i % 3, 1, z3, by decide, k3.2.1, ei, Or.inr (Or.inl ⟨rfl, rfl⟩)⟩
          · exact ⟨i % 3, 2, z3, by decide, k3.2.2, ei, Or.inr (Or.inr ⟨rfl, rfl⟩)⟩
    intro t i t' i' h h' heq
    rcases cls t i h with ⟨g0, g1, g2⟩ | ⟨g0, g1, g2⟩ | ⟨o, g1, g2, g3, g4⟩ | ⟨k, o, g0, g1, g2, g3, g4⟩ <;> rcases cls t' i' h' with ⟨y0, y1, y2⟩ | ⟨y0, y1, y2⟩ | ⟨o', y1, y2, y3, y4⟩ | ⟨k', o', y0, y1, y2, y3, y4⟩ <;> rw [g2, y2] at heq
    · exact hRC.2.2.2 t i t' i' g1 y1 heq
    · subst y0
      rw [← e1 t i g0] at heq
      exact J1.2.1.2.2.2 t i 0 i' g1 y1 heq
    · have := hU t i g1 g0; omega
    · have := (hLv k' y0).1 t i g1 g0; omega
    · subst g0
      rw [← e1 t' i' y0] at heq
      exact J1.2.1.2.2.2 0 i t' i' g1 y1 heq
    · subst g0; subst y0
      exact J1.2.1.2.2.2 0 i 0 i' g1 y1 heq
    · have := far0 i g1; omega
    · have := far0 i g1; have := (hLv k' y0).2; omega
    · have := hU t' i' y1 y0; omega
    · have := far0 i' y1; omega
    · omega
    · have := (hLv k' y0).2; omega
    · have := (hLv k g0).1 t' i' y1 y0; omega
    · have := far0 i' y1; have := (hLv k g0).2; omega
    · have := (hLv k g0).2; omega
    · rcases Nat.lt_trichotomy k k' with z | z | z
      · have := hLd k k' z y0; omega
      · subst z; omega
      · have := hLd k' k z g0; omega
  · -- what is kept
    refine RK_ag (S := x.1) (A := A) (C := V) ⟨fun k hk => funext fun j => b3 k j ?_, fun k hk => b9 k ?_ ?_, by rw [a2]; omega, fun d hd => ⟨?_, ?_, fun p hp => ⟨b7 _ (by have := (jj_wc J hd).1.1; omega), ⟨b3 2 _ (by decide), b3 3 _ (by decide), by rw [b12]⟩, ?_⟩, fun i hi => b8 23 _ (by decide) (by have := (jj_wc J hd).1.2.1; omega)⟩⟩ (fun t ht k hk => ⟨?_, ?_⟩) (fun d hd => av 1 d hd (by decide)) J.2.2.2.2.1
    · exact (by decide : ∀ k, k ∈ [44, 45, 47, 50, 51, 52, 53, 72, 73] → k ∉ [8, 9, 10, 16, 17, 18, 19, 20, 21, 22, 23, 26, 28, 71]) k hk
    · exact (by decide : ∀ k, k ∈ [46, 48, 49] → k ≠ 24) k hk
    · exact (by decide : ∀ k, k ∈ [46, 48, 49] → k ≠ 25) k hk
    · rw [b6 17 d (by decide) (by omega)]; exact Nat.le_refl _
    · rw [b6 20 d (by decide) (by omega)]; exact Nat.le_refl _
    · by_cases z : ∃ r, r < n ∧ x.1.1 18 (10 * d + p) = x.2.1 r
      · obtain ⟨r, hr, z⟩ := z
        exact Or.inl (by rw [z]; exact (m2 r hr).2.2.2.2)
      · exact Or.inr (b4 10 _ (by decide) (fun r hr w => z ⟨r, hr, w⟩))
    · simp only [List.mem_cons, List.not_mem_nil, or_false] at ht
      rcases ht with rfl | rfl | rfl <;> exact at0 _ _ (by decide) (by decide)
    · simp only [List.mem_cons, List.not_mem_nil, or_false] at ht
      rcases ht with rfl | rfl | rfl <;> exact hAgA _ k hk (by decide) (fun z => absurd z (by decide)) (fun z => absurd z (by decide)) (fun z => absurd z.1 (by decide))
  · -- the tables of dead cycles
    have hRD := J1.2.2.2.2.2
    have e20 := e1 2 0 (by decide)
    refine RD_ag (A := A1) (C := V) ⟨(at0 2 0 (by decide) (by decide)).trans e20.symm, by rw [e20]; exact hA2⟩ (fun hnn i hi => ⟨a00 i, ?_⟩) hRD
    rw [e20] at hnn
    have hlt : A1 0 i < q := by
      have e : i = 1 ∨ i = 2 := by simpa using hi
      rcases e with rfl | rfl
      · exact (dead hnn).1
      · exact (dead hnn).2
    have htg : V.1 (A1 0 i) = 20 ∨ V.1 (A1 0 i) = 21 := by
      rcases hRD with z | ⟨g1, g2, g3, g4, g5, g6, g7⟩
      · rw [e20] at z; exact absurd z.1 hnn
      · have e : i = 1 ∨ i = 2 := by simpa using hi
        rcases e with rfl | rfl
        · exact Or.inl g3
        · exact Or.inr g5
    refine hAgV _ (by omega) (fun z => ?_) (fun z => ?_) (fun p hp z => ?_) (fun p hp h0 z => ?_)
    · rw [z, tbx] at htg; rcases htg with w | w <;> exact absurd w (by decide)
    · rw [z, t31] at htg; rcases htg with w | w <;> exact absurd w (by decide)
    · rw [z, t7 p hp] at htg; rcases htg with w | w <;> exact absurd w (by decide)
    · rw [z, t1 p hp h0] at htg; rcases htg with w | w <;> exact absurd w (by decide)
  · rcases va_FX hF F44 h with z | ⟨z1, z2⟩ | ⟨z1, z2, z3⟩
    · exact Or.inl z
    · refine Or.inr ?_
      subst z2
      simp only [List.mem_cons, List.not_mem_nil, or_false] at z1
      rcases z1 with rfl | rfl | rfl | rfl
      · rw [adA_1]; exact Nat.le_refl _
      · rw [adA_17]; omega
      · rw [adA_19]; omega
      · rw [adA_21]; omega
    · refine Or.inr ?_
      rw [hnl] at z3
      have ei : i = 3 * x.1.1 16 0 + i % 3 := by omega
      have k3 := adA_l (A := A1) (q := q) (n := x.1.1 16 0) (L := L) (i := i % 3) (by omega)
      rw [← ei] at k3
      have := (hLv (i % 3) z3).2.1
      simp only [List.mem_cons, List.not_mem_nil, or_false] at z1
      rcases z1 with rfl | rfl | rfl
      · rw [k3.1]; omega
      · rw [k3.2.1]; omega
      · rw [k3.2.2]; omega
end TAKEN
