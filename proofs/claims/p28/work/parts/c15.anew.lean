/-! made anew as doubles, and that as shorts: the law's last part -/
section ANEW
variable {G : GT} {N M B bx k f j n t c st : Nat} {SA : Nat → Nat} {la : Nat → Nat} {S S0 S3 : ST} {C : CT} {V : LV} {h0 : Nat → Option JCell}
  {v3 v11 v12 v24 v25 v27 : Int32} {v13 v15 v28 v30 x : Int64} {μ : JMem} {P : PA} {X : CY} {q0 q1 : LY} {φ : Nat → Nat} {xs : Nat → Int32}
theorem mu_convert (h : LX G B bx la 15 S C) (hs : CS B SA h0) (hN : 1000 ≤ N) (hM : 20 ≤ M) (hc : c < S.1 16 0) (h17 : S.1 17 c ≠ 0) (h19 : S.1 19 c = 0) (s3 : st < 3) (ha : ∀ q, q < S.1 17 c → S.1 10 (S.1 18 (10 * c + q)) = 0) (hne : ¬ (cso S c = 2 ∧ st = 2)) (hok : okc S st c = true) (h60 : S.1 1 0 + S.1 17 c ≤ 60) (h20 : S.1 16 0 + 1 ≤ 20) :
    ∃ S' C', g_B_convert N M B SA bx (i32 c) (i32 st) (mu C la h0 V) = some (i32 (S.1 16 0), mu C' la h0 V) ∧ LX G B bx la 15 S' C' ∧ Ex S S' ∧ CVF S c st S' := by
  have hw := lx_cw h
  have hcs := lx_CS (V := V) h hs
  obtain ⟨⟨D, hD, A, J⟩, h2⟩ := h
  obtain ⟨S', C', u1, u2, u3⟩ := o_convert hN hM J hc h17 h19 s3 ha hne hok h60 h20
  exact ⟨S', C', (t_B_convert hcs _ _ _ _ _ _ hw u1).1, ⟨⟨D, hD, u2⟩, h2⟩, u3⟩
theorem mu_rule {s r l : Nat} (h : LX G B bx la 15 S C) (hs : CS B SA h0) (h1 : s < S.1 1 0) (hf : S.1 3 s = 2) (hr : r ≤ 2) (hl : l ≤ 1) : ∃ C', g_B_rule B bx (i32 s) (i32 r) (i32 l) (mu C la h0 V) = some (true, mu C' la h0 V) ∧ LX G B bx la 15 (uN (uN S 5 s r) 6 s l) C' := by
  have hw := lx_cw h
  have hcs := lx_CS (V := V) h hs
  obtain ⟨⟨D, hD, J⟩, h2⟩ := h
  obtain ⟨C', u1, u2⟩ := o_rule J h1 hf hr hl
  exact ⟨C', (t_B_rule hcs _ _ _ _ _ _ _ hw u1).1, ⟨⟨D, hD, u2⟩, h2⟩⟩
theorem okc_0 : okc S 0 c = true := by
  unfold okc
  rw [Bool.and_eq_true]
  refine ⟨allR_iff.mpr fun p _ _ => allR_iff.mpr fun j _ _ => ?_, allR_iff.mpr fun i _ _ => ?_⟩
  · unfold okf okB; rw [if_pos (by decide)]
  · unfold okl okB; rw [if_pos (by decide)]
/-- the third chain as it is made: like the first one, with roundings of 0 -/
def TC (P : PA) (S S3 : ST) : Prop :=
  (S3.1 1 0 = 3 * P.1.1 ∧ S3.1 16 0 = 3 ∧ KF P.1.1 S3 ∧ cso S3 1 = 0 ∧ S3.1 17 1 = P.1.1 ∧ S3.1 17 2 = P.1.1 ∧ S3.1 20 2 = 2 ∧ S3.1 19 2 = 0 ∧ S3.1 28 2 = 0 ∧ ∀ q, q < P.1.1 → S3.1 18 (20 + q) = 2 * P.1.1 + q) ∧
  (∀ i, i < 2 → (S3.1 21 (6 + i) = S.1 21 i ∧ S3.1 22 (6 + i) = S.1 22 i ∧ S3.1 23 (6 + i) = S.1 23 i ∧ S3.1 26 (6 + i) = 0) ∧ S3.2.1 24 (6 + i) = S.2.1 24 i ∧ ∀ j, j < 64 → S3.2.1 25 (64 * (6 + i) + j) = 0) ∧
  (∀ q, q < P.1.1 → (S3.1 2 (2 * P.1.1 + q) = S.1 2 q ∧ S3.1 3 (2 * P.1.1 + q) = 2 ∧ S3.1 5 (2 * P.1.1 + q) = 0 ∧ S3.1 10 (2 * P.1.1 + q) = 0 ∧ S3.1 14 (2 * P.1.1 + q) = 0 ∧ S3.2.2 4 (2 * P.1.1 + q) = S.2.2 4 q ∧ S3.2.2 11 (2 * P.1.1 + q) = 0 ∧ S3.2.2 12 (2 * P.1.1 + q) = 0 ∧ S3.2.1 15 (2 * P.1.1 + q) = 0) ∧
    (∀ j, j < 5 → S3.2.1 7 (5 * (2 * P.1.1 + q) + j) = S.2.1 7 (5 * q + j) ∧ S3.2.1 7 (5 * q + j) = S.2.1 7 (5 * q + j)) ∧ ∀ j, j < 64 → S3.2.1 13 (64 * (2 * P.1.1 + q) + j) = 0)
theorem tc_of (h : LX G B bx la 15 S C) (hs : CS B SA h0) (hN : 1000 ≤ N) (hM : 20 ≤ M) (hP : PC S 0 P) (h18 : ∀ k, k < P.1.1 → S.1 18 k = k) (n4 : P.1.1 ≤ 4) (h1 : S.1 1 0 = P.1.1) (h16 : S.1 16 0 = 1) (hK : KF P.1.1 S) :
    ∃ C2 S3 C3, g_B_convert N M B SA bx (0 : Int32) (0 : Int32) (mu C la h0 V) = some (1, mu C2 la h0 V) ∧ g_B_convert N M B SA bx (1 : Int32) (2 : Int32) (mu C2 la h0 V) = some (2, mu C3 la h0 V) ∧ cob C2 bx 0 = true ∧ LX G B bx la 15 S3 C3 ∧ TC P S S3 := by
  obtain ⟨⟨hc, h17, h0n, h20, h19⟩, hm, -, -⟩ := id hP
  have so0 : ∀ q, q < P.1.1 → S.1 3 q = 2 := fun q hq => by
    have := (hm q hq).1
    rw [Nat.mul_zero, Nat.zero_add, h18 q hq] at this; exact this
  have i0 : ∀ q, q < P.1.1 → S.1 10 q = 0 := fun q hq => by
    have := (hm q hq).2.2.2.2.2.2.2.2
    rw [Nat.mul_zero, Nat.zero_add, h18 q hq] at this; exact this
  have ecs : cso S 0 = 2 := by
    show S.1 3 (S.1 18 (10 * 0)) = 2
    rw [Nat.mul_zero, h18 0 h0n]; exact so0 0 h0n
  obtain ⟨S2, C2, u1, u2, u3, u4⟩ := mu_convert (N := N) (M := M) (V := V) (c := 0) (st := 0) h hs hN hM hc (by omega) h19 (by decide) (fun q hq => by
    rw [h17] at hq
    rw [Nat.mul_zero, Nat.zero_add, h18 q hq]; exact i0 q hq) (fun z => absurd z.2 (by decide)) okc_0 (by omega) (by omega)
  obtain ⟨⟨a1, a2, a3, a4, a5, a6, a7⟩, b, d, e⟩ := u4
  rw [h16] at u1 a2 a3 a4 a5 a6 a7 b
  rw [h17] at a1 a3 a7 d
  rw [h1] at a1 a7 d
  rw [h20] at a5 b
  -- the values as they are
  have hvb : ∀ q j, q < P.1.1 → j < 5 → vb 2 (S.2.1 7 (5 * q + j)) := fun q j hq hj => lx_ask h fun _ ⟨A, J⟩ => by
    have := (jj_ws J (s := q) (by omega)).2.2.2.2.2.2.2.2.1 j hj
    rw [so0 q hq] at this; exact this
  have hvz : ∀ q j, q < P.1.1 → j < 5 → nfac (S.1 2 q) ≤ j → S.2.1 7 (5 * q + j) = 0 := fun q j hq hj hn => lx_ask h fun _ ⟨A, J⟩ => (jj_ws J (s := q) (by omega)).2.2.2.2.2.2.2.2.2.2.2.1 j hj hn
  have hlv : ∀ i, i < 2 → vb 2 (S.2.1 24 i) := fun i hi => lx_ask h fun _ ⟨A, J⟩ => by
    have := ((jj_wc J (c := 0) hc).2.2.2.2.1 i (by omega)).2.2.2.2.2.1
    rw [Nat.mul_zero, Nat.zero_add, ecs] at this; exact this
  have d2 : ∀ q, q < P.1.1 → S2.1 2 (P.1.1 + q) = S.1 2 q := fun q hq => by
    have := (d q hq).1.1
    rw [Nat.mul_zero, Nat.zero_add, h18 q hq] at this; exact this
  have d7 : ∀ q j, q < P.1.1 → j < nfac (S.1 2 q) → S2.2.1 7 (5 * (P.1.1 + q) + j) = trB 2 0 (g_R_isPlain (i32 (S.1 2 q))) (S.2.1 7 (5 * q + j)) := fun q j hq hj => by
    have h5 := nfac_5 (S.1 2 q)
    have := (d q hq).2.1 j (by omega)
    rw [Nat.mul_zero, Nat.zero_add, h18 q hq, if_pos hj, so0 q hq] at this; exact this
  have bl : ∀ i, i < 2 → S2.2.1 24 (3 + i) = trB 2 0 false (S.2.1 24 i) := fun i hi => by
    have := (b i hi).2.1
    rw [Nat.mul_one, Nat.mul_zero, Nat.zero_add, ecs] at this; exact this
  have e18 : ∀ q, q < P.1.1 → S2.1 18 (10 + q) = P.1.1 + q := fun q hq => by
    have := a7 q hq
    rw [Nat.mul_one] at this; exact this
  have ecs2 : cso S2 1 = 0 := by
    show S2.1 3 (S2.1 18 (10 * 1)) = 0
    have := e18 0 h0n
    rw [Nat.add_zero] at this
    rw [Nat.mul_one, this]
    exact (d 0 h0n).1.2.1
  have hok2 : okc S2 2 1 = true := by
    unfold okc
    rw [Bool.and_eq_true, a3, a5]
    refine ⟨allR_iff.mpr fun p _ hp => allR_iff.mpr fun j _ hj => ?_, allR_iff.mpr fun i _ hi => ?_⟩
    · rw [Nat.zero_add] at hp
      rw [Nat.mul_one, e18 p hp, d2 p hp] at hj
      rw [Nat.zero_add] at hj
      have h5 := nfac_5 (S.1 2 p)
      unfold okf
      rw [Nat.mul_one, e18 p hp, d2 p hp, (d p hp).1.2.1, d7 p j hp hj]
      exact ok_back (hvb p j hp (by omega)) _
    · rw [Nat.zero_add] at hi
      unfold okl
      rw [ecs2, Nat.mul_one, bl i hi]
      exact ok_back (hlv i hi) _
  obtain ⟨S3, C3, w1, w2, w3, w4⟩ := mu_convert (N := N) (M := M) (V := V) (c := 1) (st := 2) u2 hs hN hM (by omega) (by omega) a4 (by decide) (fun q hq => by
    rw [a3] at hq
    rw [Nat.mul_one, e18 q hq]; exact (d q hq).1.2.2.2.2.1) (fun z => absurd (ecs2.symm.trans z.1) (by decide)) hok2 (by omega) (by omega)
  obtain ⟨⟨A1, A2, A3, A4, A5, A6, A7⟩, B', D', E'⟩ := w4
  rw [a2] at w1 A2 A3 A4 A5 A6 A7 B'
  rw [a3] at A1 A3 A7 D'
  rw [a1] at A1 A7 D'
  rw [a5] at A5 B'
  obtain ⟨⟨x1, x2⟩, x3, x4⟩ := w3
  obtain ⟨⟨y1, y2⟩, y3, y4⟩ := u3
  have n2 : ∀ q, P.1.1 + P.1.1 + q = 2 * P.1.1 + q := fun q => by omega
  simp only [n2] at D'
  refine ⟨C2, S3, C3, u1, w1, lx_ob u2, w2, ⟨by omega, A2, ⟨⟨?_, ?_, ?_, ?_, ?_, ?_⟩, ?_, ?_, fun k hk => ⟨?_, ?_⟩⟩, ?_, ?_, A3, A5, A4, A6, fun q hq => ?_⟩, fun i hi => ⟨?_, ?_, ?_⟩, fun q hq => ⟨?_, fun j hj => ⟨?_, ?_⟩, (D' q hq).2.2⟩⟩
  · rw [E' 44 (by decide), e 44 (by decide)]; exact hK.1.1
  · rw [E' 45 (by decide), e 45 (by decide)]; exact hK.1.2.1
  · rw [E' 72 (by decide), e 72 (by decide)]; exact hK.1.2.2.1
  · rw [E' 73 (by decide), e 73 (by decide)]; exact hK.1.2.2.2.1
  · rw [E' 51 (by decide), e 51 (by decide)]; exact hK.1.2.2.2.2.1
  · rw [E' 52 (by decide), e 52 (by decide)]; exact hK.1.2.2.2.2.2
  · rw [(x4 0 (by omega)).1 17 (by decide), (y4 0 (by omega)).1 17 (by decide)]; exact h17
  · rw [(x4 0 (by omega)).1 20 (by decide), (y4 0 (by omega)).1 20 (by decide)]; exact h20
  · have p1 := (x4 0 (by omega)).2.1 k (by omega)
    have p2 := (y4 0 (by omega)).2.1 k (by omega)
    rw [Nat.mul_zero, Nat.zero_add] at p1 p2
    rw [p1, p2]; exact h18 k hk
  · rw [(x3 k (by omega)).1 10 (by decide), (y3 k (by omega)).1 10 (by decide)]; exact i0 k hk
  · have p1 := (x4 1 (by omega)).2.1 0 (by decide)
    rw [Nat.add_zero] at p1
    show S3.1 3 (S3.1 18 (10 * 1)) = 0
    have hs2 : S2.1 18 (10 * 1) = P.1.1 := by
      have := e18 0 h0n
      rw [Nat.add_zero] at this; exact this
    rw [p1, hs2, (x3 P.1.1 (by omega)).1 3 (by decide)]
    have := (d 0 h0n).1.2.1
    rw [Nat.add_zero] at this; exact this
  · rw [(x4 1 (by omega)).1 17 (by decide)]; exact a3
  · rw [show 20 + q = 10 * 2 + q from rfl, A7 q hq]; omega
  · obtain ⟨⟨b1, b2, b3, b4⟩, -⟩ := b i hi
    obtain ⟨⟨B1, B2, B3, B4⟩, -⟩ := B' i hi
    exact ⟨B1.trans (b1.trans (by rw [Nat.mul_zero, Nat.zero_add])), B2.trans (b2.trans (by rw [Nat.mul_zero, Nat.zero_add])), B3.trans (b3.trans (by rw [Nat.mul_zero, Nat.zero_add])), B4⟩
  · have p := (B' i hi).2.1
    rw [ecs2, Nat.mul_one, bl i hi, tr_back (hlv i hi)] at p
    exact p
  · exact (B' i hi).2.2
  · obtain ⟨c1, c2, c3, c4, c5, c6, c7, c8, c9, cA⟩ := (D' q hq).1
    rw [Nat.mul_one, e18 q hq] at c1 c7
    have f4 := (d q hq).1.2.2.2.2.2.2.1
    rw [Nat.mul_zero, Nat.zero_add, h18 q hq] at f4
    exact ⟨c1.trans (d2 q hq), c2, c3, c5, c6, c7.trans f4, c8, c9, cA⟩
  · have p := (D' q hq).2.1 j hj
    rw [Nat.mul_one, e18 q hq, d2 q hq, (d q hq).1.2.1] at p
    rw [p]
    by_cases hjn : j < nfac (S.1 2 q)
    · rw [if_pos hjn, d7 q j hq hjn, tr_back (hvb q j hq hj)]
    · rw [if_neg hjn, hvz q j hq hj (by omega)]
  · rw [(x3 q (by omega)).2.2 j hj, (y3 q (by omega)).2.2 j hj]
/-- the third chain's rules are the first one's again -/
theorem rules_law (hs : CS B SA h0) (hc : LC P φ V) (hT : TC P S S3) (hkd : ∀ q, q < P.1.1 → S.1 2 q = P.1.2.1 q) : ∀ (q k f : Nat) (S' : ST) (C : CT), k + q = P.1.1 → LX G B bx la 15 S' C → (∀ x, x ≠ 5 → x ≠ 6 → S'.1 x = S3.1 x) → S'.2 = S3.2 → (∀ j, j < k → S'.1 5 (2 * P.1.1 + j) = P.1.2.2.1 j ∧ S'.1 6 (2 * P.1.1 + j) = P.1.2.2.2.1 j) → (∀ j, k ≤ j → j < P.1.1 → S'.1 5 (2 * P.1.1 + j) = 0) →
    ∃ S4 C', g_L_law_1638 N M B SA (f + 1 + q) (la 0) bx (i32 P.1.1) (la 1) (la 2) (la 3) true (la 14) (i32 k) (mu C la h0 V) = g_L_law_1763 N M B SA (la 0) bx true (la 14) (mu C' la h0 V) ∧ LX G B bx la 15 S4 C' ∧ (∀ x, x ≠ 5 → x ≠ 6 → S4.1 x = S3.1 x) ∧ S4.2 = S3.2 ∧ ∀ j, j < P.1.1 → S4.1 5 (2 * P.1.1 + j) = P.1.2.2.1 j ∧ S4.1 6 (2 * P.1.1 + j) = P.1.2.2.2.1 j
  | 0, k, f, S', C, hk, h, e1, e2, e3, e4 => by
    have := hc.1
    refine ⟨S', C, ?_, h, e1, e2, fun j hj => e3 j (by omega)⟩
    rw [Nat.add_zero, g_L_law_1638, if_pos (by rw [i32_le (by omega) (by omega)]; omega)]
  | q + 1, k, f, S', C, hk, h, e1, e2, e3, e4 => by
    obtain ⟨⟨n0, n4, -⟩, hcs⟩ := id hc
    obtain ⟨⟨t1, -⟩, -, t3⟩ := id hT
    obtain ⟨⟨c1, c2, c3, c4, c5, c6, c7, c8, c9, cA, cB⟩, ka, kf⟩ := hcs k (by omega)
    obtain ⟨⟨d1, d2, d3, -⟩, d4, -⟩ := t3 k (by omega)
    have k4 : k < 4 := by omega
    have hl1 : S'.1 1 0 = 3 * P.1.1 := by rw [e1 1 (by decide) (by decide)]; exact t1
    have ei : (2 : Int32) * i32 P.1.1 + i32 k = i32 (2 * P.1.1 + k) := by rw [show (2 : Int32) = i32 2 from rfl, i32_mul, i32_add]
    have a0 := mu_told (V := V) (h0 := h0) (k := 2 * P.1.1 + k) (j := 0) h hs (by omega) (by decide)
    have a1 := mu_told (V := V) (h0 := h0) (k := 2 * P.1.1 + k) (j := 1) h hs (by omega) (by decide)
    have b0 := mu_told (V := V) (h0 := h0) (k := k) (j := 0) h hs (by omega) (by decide)
    have b1 := mu_told (V := V) (h0 := h0) (k := k) (j := 1) h hs (by omega) (by decide)
    rw [e2, (d4 0 (by decide)).1] at a0
    rw [e2, (d4 1 (by decide)).1] at a1
    rw [e2, (d4 0 (by decide)).2] at b0
    rw [e2, (d4 1 (by decide)).2] at b1
    have m0 := mu_about0 (V := V) (h0 := h0) (k := 2 * P.1.1 + k) h hs (by omega)
    have m8 := mu_about8 (V := V) (h0 := h0) (k := 2 * P.1.1 + k) h hs (by omega)
    rw [e1 2 (by decide) (by decide), d1, hkd k (by omega)] at m0
    rw [e4 k (Nat.le_refl _) (by omega)] at m8
    obtain ⟨C1, u1, u2⟩ := mu_rule (V := V) (s := 2 * P.1.1 + k) (r := P.1.2.2.1 k) (l := P.1.2.2.2.1 k) h hs (by omega) (by rw [e1 3 (by decide) (by decide)]; exact d2) c7 c8
    have un : ∀ x y, (uN (uN S' 5 (2 * P.1.1 + k) (P.1.2.2.1 k)) 6 (2 * P.1.1 + k) (P.1.2.2.2.1 k)).1 x y = if x = 6 ∧ y = 2 * P.1.1 + k then P.1.2.2.2.1 k else if x = 5 ∧ y = 2 * P.1.1 + k then P.1.2.2.1 k else S'.1 x y := fun x y => rfl
    obtain ⟨S4, C', z1, z2⟩ := rules_law hs hc hT hkd q (k + 1) f _ C1 (by omega) u2 (fun x h5 h6 => funext fun y => by rw [un, if_neg (fun z => h6 z.1), if_neg (fun z => h5 z.1), e1 x h5 h6]) e2 (fun j hj => by
      rw [un, un]
      by_cases e : j = k
      · subst e
        rw [if_neg (fun z => absurd z.1 (by decide)), if_pos ⟨rfl, rfl⟩, if_pos ⟨rfl, rfl⟩]
        exact ⟨rfl, rfl⟩
      · rw [if_neg (fun z => absurd z.1 (by decide)), if_neg (fun z => e (by omega)), if_neg (fun z => e (by omega)), if_neg (fun z => absurd z.1 (by decide))]
        exact e3 j (by omega)) (fun j hj hjn => by
      rw [un, if_neg (fun z => absurd z.1 (by decide)), if_neg (by omega)]
      exact e4 j (by omega) hjn)
    refine ⟨S4, C', ?_, z2⟩
    have hj := mu_job (V := V) (h0 := h0) h
    have a0 : g_B_told bx (i32 (2 * P.1.1 + k)) (0 : Int32) (mu C la h0 V).1 = _ := a0
    have a1 : g_B_told bx (i32 (2 * P.1.1 + k)) (1 : Int32) (mu C la h0 V).1 = _ := a1
    have b0 : g_B_told bx (i32 k) (0 : Int32) (mu C la h0 V).1 = _ := b0
    have b1 : g_B_told bx (i32 k) (1 : Int32) (mu C la h0 V).1 = _ := b1
    rw [show f + 1 + (q + 1) = (f + 1 + q) + 1 by omega, g_L_law_1638, if_neg (by rw [i32_le (by omega) (by omega)]; omega), if_pos rfl, hj, jgd_true, ei, a0, obd_some, jgd_true, b0, obd_some, if_pos rfl, jgd_true, a1, obd_some, jgd_true, b1, obd_some, if_pos rfl, jgd_true, m0, obd_some, lrI (q := 1) h (by decide) rfl (jr4 k4 (by decide)), obd_some, c1, if_pos rfl, jgd_true, m8, obd_some, if_pos (by rfl), lrI (q := 2) h (by decide) rfl (jr4 k4 (by decide)), obd_some, lrI (q := 3) h (by decide) rfl (jr4 k4 (by decide)), obd_some, jgd_true, c2, c3, u1, jbd2_some, if_pos rfl]
    unfold g_L_law_1755
    rw [show i32 k + 1 = i32 (k + 1) from i32_add k 1]
    exact z1
/-- from the end of the samples to the end of the law -/
theorem last_law (h : LX G B bx la 15 S C) (hs : CS B SA h0) (hN : 1000 ≤ N) (hM : 20 ≤ M + 1) (hP : PC S 0 P) (h18 : ∀ k, k < P.1.1 → S.1 18 k = k) (h1 : S.1 1 0 = P.1.1) (h16 : S.1 16 0 = 1) (hK : KF P.1.1 S) (hc : LC P φ V) (hx : ∀ j, j < 60 → V.1 0 j = xs j) (ho : ∀ j, j < 40 → V.1 14 j = (aO P xs j).toInt32 ∧ vb 2 (aO P xs j)) :
    ∃ C', g_L_law_1563 N (M + 1) B SA (la 0) bx (i32 P.1.1) (la 1) (la 2) (la 3) true (la 14) (mu C la h0 V) = some (true, (ovC C' (lmem la V h0 15), ck C')) ∧ BD B C' := by
  obtain ⟨⟨n0, n4, -⟩, hcs⟩ := id hc
  obtain ⟨⟨-, h17, -, h20, h19⟩, hm, hl0, hl1⟩ := id hP
  have hm' : ∀ q, q < P.1.1 → S.1 2 q = P.1.2.1 q ∧ rln S q = P.1.2.2.2.2 q ∧ S.2.1 7 (5 * q + 0) = P.2.1.1 q ∧ S.2.1 7 (5 * q + 1) = P.2.1.2 q := fun q hq => by
    obtain ⟨a1, a2, a3, a4, a5, a6, a7, a8, a9⟩ := hm q hq
    rw [Nat.mul_zero, Nat.zero_add, h18 q hq] at a2 a6 a7 a8
    exact ⟨a2, a6, a7, a8⟩
  obtain ⟨C2, S3, C3, x1, x2, x3, x4, x5⟩ := tc_of (N := N) (M := M + 1) (V := V) h hs hN hM hP h18 n4 h1 h16 hK
  obtain ⟨⟨t1, t2, t3, t4, t5, t6, t7, t8, t9, tA⟩, tB, tC⟩ := id x5
  have hcso : cso S3 2 = 2 := by
    show S3.1 3 (S3.1 18 (10 * 2)) = 2
    have := tA 0 n0
    rw [Nat.add_zero] at this
    rw [this]
    have := (tC 0 n0).1.2.1
    rw [Nat.add_zero] at this; exact this
  obtain ⟨f, hf⟩ : ∃ f, N = f + 1 + P.1.1 := ⟨N - 1 - P.1.1, by omega⟩
  obtain ⟨S4, C4, y1, y2, y3, y4, y5⟩ := rules_law (N := N) (M := M + 1) (SA := SA) (V := V) (h0 := h0) hs hc x5 (fun q hq => (hm' q hq).1) P.1.1 0 f S3 C3 (by omega) x4 (fun _ _ _ => rfl) rfl (fun j hj => absurd hj (Nat.not_lt_zero _)) (fun j _ hj => (tC j hj).1.2.2.1)
  rw [← hf] at y1
  have e4 : ∀ x, x ≠ 5 → x ≠ 6 → S4.1 x = S3.1 x := y3
  have hP4 : PC S4 2 P := by
    unfold PC
    rw [show rln S4 = rln S3 from by unfold rln; rw [e4 2 (by decide) (by decide), y4], e4 16 (by decide) (by decide), e4 17 (by decide) (by decide), e4 20 (by decide) (by decide), e4 19 (by decide) (by decide), e4 18 (by decide) (by decide), e4 3 (by decide) (by decide), e4 2 (by decide) (by decide), e4 10 (by decide) (by decide), e4 22 (by decide) (by decide), e4 21 (by decide) (by decide), e4 23 (by decide) (by decide), y4]
    refine ⟨⟨by omega, t6, n0, t7, t8⟩, fun k hk => ?_, ?_, ?_⟩
    · rw [show 10 * 2 + k = 20 + k from rfl, tA k hk]
      obtain ⟨⟨d1, d2, d3, d4, d5, d6, d7⟩, d8, -⟩ := tC k hk
      obtain ⟨m1, m2, m3, m4⟩ := hm' k hk
      refine ⟨d2, d1.trans m1, (hcs k hk).2.1, (y5 k hk).1, (y5 k hk).2, ?_, ?_, ?_, d4⟩
      · unfold rln at m2 ⊢
        rw [d1, d6]; exact m2
      · rw [(d8 0 (by decide)).1]; exact m3
      · rw [(d8 1 (by decide)).1]; exact m4
    · obtain ⟨⟨b1, b2, b3, -⟩, b5, -⟩ := tB 0 (by decide)
      obtain ⟨l1, l2, l3, l4⟩ := hl0
      exact ⟨b2.trans l1, (congrArg (· + 1) b1).trans l2, b3.trans l3, b5.trans l4⟩
    · obtain ⟨⟨b1, b2, b3, -⟩, b5, -⟩ := tB 1 (by decide)
      obtain ⟨l1, l2, l3, l4⟩ := hl1
      exact ⟨b2.trans l1, b1.trans l2, b3.trans l3, b5.trans l4⟩
  have hX4 : VX S4 2 P.1.1 X00 := by
    refine ⟨fun k hk => ?_, ?_, ?_⟩
    · rw [e4 18 (by decide) (by decide), show 10 * 2 + k = 20 + k from rfl, tA k hk]
      obtain ⟨⟨d1, d2, d3, d4, d5, d6, d7, d8, d9⟩, -, dA⟩ := tC k hk
      unfold vS
      rw [y4, e4 14 (by decide) (by decide), d5, d7, d8, d9]
      refine Prod.ext (funext fun j => ?_) rfl
      show (if j < 64 then S3.2.1 13 (64 * (2 * P.1.1 + k) + j) else 0) = 0
      by_cases hj : j < 64
      · rw [if_pos hj]; exact dA j hj
      · rw [if_neg hj]
    · obtain ⟨⟨-, -, -, b4⟩, -, b6⟩ := tB 0 (by decide)
      unfold vL
      rw [y4, e4 26 (by decide) (by decide)]
      refine Prod.ext (funext fun j => ?_) b4
      show (if j < 64 then S3.2.1 25 (64 * (6 + 0) + j) else 0) = 0
      by_cases hj : j < 64
      · rw [if_pos hj]; exact b6 j hj
      · rw [if_neg hj]
    · obtain ⟨⟨-, -, -, b4⟩, -, b6⟩ := tB 1 (by decide)
      unfold vL
      rw [y4, e4 26 (by decide) (by decide)]
      refine Prod.ext (funext fun j => ?_) b4
      show (if j < 64 then S3.2.1 25 (64 * (6 + 1) + j) else 0) = 0
      by_cases hj : j < 64
      · rw [if_pos hj]; exact b6 j hj
      · rw [if_neg hj]
  have hK4 : KF P.1.1 S4 := by
    unfold KF at t3 ⊢
    rw [e4 44 (by decide) (by decide), e4 45 (by decide) (by decide), e4 72 (by decide) (by decide), e4 73 (by decide) (by decide), e4 51 (by decide) (by decide), e4 52 (by decide) (by decide), e4 17 (by decide) (by decide), e4 20 (by decide) (by decide), e4 18 (by decide) (by decide), e4 10 (by decide) (by decide)]
    exact t3
  obtain ⟨g, hg⟩ : ∃ g, N = g + 1 + 40 := ⟨N - 41, by omega⟩
  obtain ⟨C5, z, z'⟩ := again_law (N := N) (M := M) (SA := SA) (P := P) (xs := xs) (V := V) (h0 := h0) hs (by omega) hx ho 40 0 g S4 C4 (by decide) y2 hP4 hX4 (by rw [e4 28 (by decide) (by decide)]; exact t9) hK4
  rw [← hg] at z
  refine ⟨C5, ?_, z'⟩
  have hj := mu_job (V := V) (h0 := h0) h
  have hj2 : jobC 0 ((mu C2 la h0 V).1 bx) = true := c_job x3
  have hj3 := mu_job (V := V) (h0 := h0) x4
  have ct := mu_count (V := V) (h0 := h0) x4 hs
  have c1 : g_B_chain_2 bx (2 : Int32) 1 (mu C3 la h0 V).1 = _ := mu_chain1 (V := V) (h0 := h0) (k := 2) x4 hs (by omega)
  have c4 : g_B_chain_2 bx (1 : Int32) 4 (mu C3 la h0 V).1 = _ := mu_chain4 (V := V) (h0 := h0) (k := 1) x4 hs (by omega) (by omega)
  have c4' : g_B_chain_2 bx (2 : Int32) 4 (mu C3 la h0 V).1 = _ := mu_chain4 (V := V) (h0 := h0) (k := 2) x4 hs (by omega) (by omega)
  unfold g_L_law_1563
  rw [if_pos rfl, hj, jgd_true, x1, jbd2_some, if_pos rfl, hj2, jgd_true, x2, jbd2_some, if_pos rfl, hj3, jgd_true, ct, obd_some, t1, if_pos (by rw [show (3 : Int32) = i32 3 from rfl, i32_mul]), jgd_true, c1, obd_some, t7, if_pos (by rfl), jgd_true, c4, obd_some, t4, if_pos (by rfl), jgd_true, c4', obd_some, hcso, if_pos (by rfl)]
  show g_L_law_1638 N (M + 1) B SA N (la 0) bx (i32 P.1.1) (la 1) (la 2) (la 3) true (la 14) (i32 0) (mu C3 la h0 V) = _
  rw [y1]
  exact z
end ANEW
