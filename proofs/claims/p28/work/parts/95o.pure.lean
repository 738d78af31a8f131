/-! a chain remade: what holds all the way -/
section PURE
variable {G : GT} {E B bx m : Nat} {ad : Nat → Nat} {S0 S S1 : ST} {A0 : AT} {C0 : CT} {T0 : MT} {c s d n st f p : Nat} {x : CM}
theorem cpS_k {k : Nat} (h5 : k ≠ 5) (h6 : k ≠ 6) : (cpS S0 st s S).1 k = (secS S (S0.1 2 s) st (S0.2.2 4 s)).1 k := by
  unfold cpS
  rw [rlS_k h5 h6, cfS_1]
theorem cp_facts (J0 : JJ G E B bx m ad S0 A0 C0 T0) (hs : s < S0.1 1 0) (s3 : st < 3) (hok : allR (okf S0 st s) 0 (nfac (S0.1 2 s)) = true) (hW : WF E S) (h60 : S.1 1 0 < 60) :
    WF E (cpS S0 st s S) ∧ (∀ S1, Ex S1 S → Ex S1 (cpS S0 st s S)) ∧ (cpS S0 st s S).1 1 0 = S.1 1 0 + 1 ∧ (cpS S0 st s S).1 16 = S.1 16 ∧ (cpS S0 st s S).1 2 (S.1 1 0) = S0.1 2 s ∧ (cpS S0 st s S).1 3 (S.1 1 0) = st ∧ (cpS S0 st s S).1 8 (S.1 1 0) = 0 ∧ (cpS S0 st s S).1 10 (S.1 1 0) = 0 := by
  have ws := jj_ws J0 hs
  have hX : WF E (secS S (S0.1 2 s) st (S0.2.2 4 s)) := WF_sec hW h60 ws.1.1 s3 ws.1.2.2
  have e2 : (secS S (S0.1 2 s) st (S0.2.2 4 s)).1 2 (S.1 1 0) = S0.1 2 s := by simp [secS]
  have e3 : (secS S (S0.1 2 s) st (S0.2.2 4 s)).1 3 (S.1 1 0) = st := by simp [secS]
  have e8 : (secS S (S0.1 2 s) st (S0.2.2 4 s)).1 8 (S.1 1 0) = 0 := by simp [secS]
  have e10 : (secS S (S0.1 2 s) st (S0.2.2 4 s)).1 10 (S.1 1 0) = 0 := by simp [secS]
  have hc : ∀ j, j ≤ nfac (S0.1 2 s) → WF E (cfS S0 st s (S.1 1 0) j (secS S (S0.1 2 s) st (S0.2.2 4 s))) := fun j => by
    induction j with
    | zero => exact fun _ => hX
    | succ j ih =>
      intro hj
      refine WF_cf (ih (by omega)) ?_ ?_ ?_
      · rw [cfS_1, e2]; omega
      · rw [cfS_1, secS_1]; omega
      · rw [cfS_1, e3]
        exact ok_vb s3 (allR_iff.mp hok j (Nat.zero_le _) (by omega))
  have hx : ∀ S1, Ex S1 S → ∀ j, Ex S1 (cfS S0 st s (S.1 1 0) j (secS S (S0.1 2 s) st (S0.2.2 4 s))) := fun S1 h j => by
    induction j with
    | zero => exact ex_sec h
    | succ j ih => exact ex_cf ih h.1.1
  refine ⟨?_, fun S1 h => ?_, ?_, ?_, ?_, ?_, ?_, ?_⟩
  · have h := hc _ (Nat.le_refl _)
    unfold cpS rlS
    by_cases q : S0.1 3 s = 2 ∧ st = 2
    · rw [if_pos q]
      exact WF_rl h (by rw [cfS_1, e3]; exact q.2) ws.2.1.1 ws.2.1.2
    · rw [if_neg q]; exact h
  · have h' := hx S1 h (nfac (S0.1 2 s))
    unfold cpS rlS
    by_cases q : S0.1 3 s = 2 ∧ st = 2
    · rw [if_pos q]; exact ex_rl h' h.1.1
    · rw [if_neg q]; exact h'
  · rw [cpS_k (by decide) (by decide), secS_1]
  · rw [cpS_k (by decide) (by decide), secS_k (by decide) (by decide)]
  · rw [cpS_k (by decide) (by decide), e2]
  · rw [cpS_k (by decide) (by decide), e3]
  · rw [cpS_k (by decide) (by decide), e8]
  · rw [cpS_k (by decide) (by decide), e10]
theorem ch_17 : (chS S).1 17 (S.1 16 0) = 0 := chS_at (by decide)
theorem ch_20 : (chS S).1 20 (S.1 16 0) = 0 := chS_at (by decide)
theorem cnt_succ_lt {g : Nat → Bool} {p n : Nat} (h : p < n) (hg : g p = true) : cnt g p + 1 ≤ cnt g n := by
  have e : cnt g (p + 1) = cnt g p + 1 := by
    show cnt g p + (if g p then 1 else 0) = _
    rw [hg]; rfl
  have := cnt_mono (g := g) (show p + 1 ≤ n by omega)
  omega
/-- joined: what holds -/
theorem jn_WF (J0 : JJ G E B bx m ad S0 A0 C0 T0) (hc : c < S0.1 16 0) (hW : WF E x.1) (h20 : x.1.1 16 0 < 20) (hM : MI S0 st c S1 (S0.1 17 c) x) : ∀ p, p ≤ S0.1 17 c → WF E (jnL (x.1.1 16 0) x.2.1 p (chS x.1)) := fun p => by
  have w0 := jj_wc J0 hc
  have h10 := w0.1.1
  obtain ⟨m1, m2, m3, m4, m5⟩ := hM
  have h17 : (chS x.1).1 17 (x.1.1 16 0) = 0 := ch_17
  have off : ∀ p k j, k ∉ [8, 9, 17, 18] → (jnL (x.1.1 16 0) x.2.1 p (chS x.1)).1 k j = (chS x.1).1 k j := fun p k j hk => jnL_off h17 (fun q => hk (by rw [q.1]; decide)) (fun q => hk (by rw [q.1]; decide)) (fun q => absurd (by rcases q with q | q <;> rw [q] <;> decide) hk)
  have c1 : ∀ k j, k ∉ [16, 17, 19, 20, 28] → (chS x.1).1 k j = x.1.1 k j := fun k j hk => congrFun (chS_k (fun q => hk (List.mem_cons_of_mem _ q)) (fun q => hk (by rw [q]; decide))) j
  induction p with
  | zero => exact fun _ => WF_ch hW h20
  | succ p ih =>
    intro hp
    obtain ⟨a1, a2, a3, a4, a5⟩ := m2 p (by omega)
    have e17 := jnL_17 (a := x.2.1) h17 (p := p)
    have hne : ∀ q, q < p → x.2.1 p ≠ x.2.1 q := fun q hq => by have := m3 q p hq (by omega); omega
    refine WF_jn (ih (by omega)) ?_ ?_ ?_ ?_ ?_ (fun h0 => ?_) (fun hsp => ?_)
    · rw [off p 16 0 (by decide), chS_16]; omega
    · rw [off p 1 0 (by decide), c1 1 0 (by decide)]; exact a1.2
    · rw [e17]; omega
    · rw [jnL_off h17 (by omega) (by omega) (fun _ q hq => hne q hq), c1 8 _ (by decide)]; exact a4
    · rw [off p 19 _ (by decide)]; exact chS_at (by decide)
    · rw [e17] at h0
      unfold cso
      have e18 := jnL_18 (a := x.2.1) h17 (p := p) (p' := 0) (by omega)
      rw [Nat.add_zero] at e18
      obtain ⟨b1, b2, b3, b4, b5⟩ := m2 0 (by omega)
      rw [e18, off p 3 _ (by decide), off p 3 _ (by decide), c1 3 _ (by decide), c1 3 _ (by decide), a3, b3]
    · rw [off p 2 _ (by decide), c1 2 _ (by decide), a2] at hsp
      rw [e17, cnt_congr (g := fun q => spread (S0.1 2 (S0.1 18 (10 * c + q)))) (fun q hq => by
        show spread ((jnL (x.1.1 16 0) x.2.1 p (chS x.1)).1 2 ((jnL (x.1.1 16 0) x.2.1 p (chS x.1)).1 18 (10 * x.1.1 16 0 + q))) = _
        rw [jnL_18 h17 hq, off p 2 _ (by decide), c1 2 _ (by decide), (m2 q (by omega)).2.1])]
      have := cnt_succ_lt (g := fun q => spread (S0.1 2 (S0.1 18 (10 * c + q)))) (show p < S0.1 17 c by omega) hsp
      have := w0.1.2.2
      omega
theorem ch_off {k j : Nat} (hk : k ∉ [16, 17, 19, 20, 28]) : (chS S).1 k j = S.1 k j := congrFun (chS_k (fun q => hk (List.mem_cons_of_mem _ q)) (fun q => hk (by rw [q]; decide))) j
/-- held: what holds -/
theorem in_WF (J0 : JJ G E B bx m ad S0 A0 C0 T0) (hc : c < S0.1 16 0) (hW : WF E x.1) (h20 : x.1.1 16 0 < 20) (s3 : st < 3) (hM : MI S0 st c S1 (S0.1 17 c) x) : ∀ p, p ≤ S0.1 17 c → WF E (inL x.2.1 x.2.2 p (jnL (x.1.1 16 0) x.2.1 (S0.1 17 c) (chS x.1))) := fun p => by
  have hj := jn_WF J0 hc hW h20 hM (S0.1 17 c) (Nat.le_refl _)
  have w0 := jj_wc J0 hc
  have h10 := w0.1.1
  obtain ⟨m1, m2, m3, m4, m5⟩ := hM
  have h17 : (chS x.1).1 17 (x.1.1 16 0) = 0 := ch_17
  induction p with
  | zero => exact fun _ => hj
  | succ p ih =>
    intro hp
    have ih := ih (by omega)
    show WF E (if x.2.2 p = 0 then inL x.2.1 x.2.2 p (jnL (x.1.1 16 0) x.2.1 (S0.1 17 c) (chS x.1)) else inS (inL x.2.1 x.2.2 p (jnL (x.1.1 16 0) x.2.1 (S0.1 17 c) (chS x.1))) (x.2.1 p) (x.2.2 p - 1))
    by_cases hb : x.2.2 p = 0
    · rw [if_pos hb]; exact ih
    · rw [if_neg hb]
      rcases m4 p (by omega) with ⟨-, z⟩ | ⟨d, d', i1, i2, i3, i4⟩
      · exact absurd z hb
      · obtain ⟨⟨g1, g2, g3⟩, g4⟩ := i4
        have ed : x.2.2 p - 1 = d' := by omega
        rw [ed]
        obtain ⟨a1, a2, a3, a4, a5⟩ := m2 p (by omega)
        have hmem := (w0.2.1 p (by omega)).1
        obtain ⟨u1, u2, u3, u4, u5⟩ := inner_und J0 hc (show p < S0.1 17 c by omega) i1
        have w15 := ((jj_ws J0 hmem).2.2.2.2.2.1 d i1).1
        have h10d := (jj_wc J0 (show d < S0.1 16 0 by omega)).1.1
        have io : ∀ k j, k ∉ [10, 19] → (inL x.2.1 x.2.2 p (jnL (x.1.1 16 0) x.2.1 (S0.1 17 c) (chS x.1))).1 k j = (jnL (x.1.1 16 0) x.2.1 (S0.1 17 c) (chS x.1)).1 k j := fun k j hk => inL_off (fun q => absurd (by rw [q]; decide) hk) (fun q => absurd (by rw [q]; decide) hk)
        have jo : ∀ k j, k ∉ [8, 9, 17, 18] → (jnL (x.1.1 16 0) x.2.1 (S0.1 17 c) (chS x.1)).1 k j = (chS x.1).1 k j := fun k j hk => jnL_off h17 (fun q => hk (by rw [q.1]; decide)) (fun q => hk (by rw [q.1]; decide)) (fun q => absurd (by rcases q with q | q <;> rw [q] <;> decide) hk)
        have e17 : (inL x.2.1 x.2.2 p (jnL (x.1.1 16 0) x.2.1 (S0.1 17 c) (chS x.1))).1 17 d' = S0.1 17 d := by
          rw [io 17 _ (by decide), jnL_off h17 (by omega) (by omega) (by omega), chS_ne (by omega) (by decide), g3]
        have e18 : ∀ r, r < 10 → (inL x.2.1 x.2.2 p (jnL (x.1.1 16 0) x.2.1 (S0.1 17 c) (chS x.1))).1 18 (10 * d' + r) = x.1.1 18 (10 * d' + r) := fun r hr => by
          rw [io 18 _ (by decide), jnL_off h17 (by omega) (by omega) (by omega), ch_off (by decide)]
        have e2 : ∀ j, (inL x.2.1 x.2.2 p (jnL (x.1.1 16 0) x.2.1 (S0.1 17 c) (chS x.1))).1 2 j = x.1.1 2 j := fun j => by rw [io 2 _ (by decide), jo 2 _ (by decide), ch_off (by decide)]
        have e3 : ∀ j, (inL x.2.1 x.2.2 p (jnL (x.1.1 16 0) x.2.1 (S0.1 17 c) (chS x.1))).1 3 j = x.1.1 3 j := fun j => by rw [io 3 _ (by decide), jo 3 _ (by decide), ch_off (by decide)]
        refine WF_in ih ?_ ?_ ?_ ?_ ?_ ⟨x.1.1 16 0, ?_, g1⟩ ?_ (fun r hr => ?_) ?_
        · rw [io 16 _ (by decide), jo 16 _ (by decide), chS_16]; omega
        · rw [io 1 _ (by decide), jo 1 _ (by decide), ch_off (by decide)]; exact a1.2
        · rw [e2, a2]; exact w15
        · rw [inL_off (fun _ q hq _ => by have := m3 q p hq (by omega); omega) (by omega), jo 10 _ (by decide), ch_off (by decide)]; exact a5
        · rw [inL_off (by omega) (fun _ q hq hq0 => by have := m5 q p hq (by omega) hq0 hb; omega), jo 19 _ (by decide), chS_ne (by omega) (by decide)]; exact g2
        · rw [io 8 _ (by decide)]
          exact (jnL_89 h17 m3 p (by omega)).1
        · rw [e17]; exact u3
        · rw [e17] at hr
          unfold rtf
          rw [e2, e18 r (by omega), (g4 r hr).2.1]
          exact u5 r hr
        · have g40 := g4 0 (by omega)
          rw [Nat.add_zero] at g40
          have e180 := e18 0 (by omega)
          rw [Nat.add_zero] at e180
          unfold cso
          rw [e180, e3, e3, g40.2.2, a3]
/-- tied: what holds -/
theorem lp_WF (J0 : JJ G E B bx m ad S0 A0 C0 T0) (hc : c < S0.1 16 0) (h0 : S0.1 17 c ≠ 0) (hW : WF E x.1) (h20 : x.1.1 16 0 < 20) (s3 : st < 3) (hok : allR (okl S0 st c) 0 (S0.1 20 c) = true) (hM : MI S0 st c S1 (S0.1 17 c) x) : ∀ i, i ≤ S0.1 20 c → WF E (lpL S0 st c (x.1.1 16 0) i (inL x.2.1 x.2.2 (S0.1 17 c) (jnL (x.1.1 16 0) x.2.1 (S0.1 17 c) (chS x.1)))) := fun i => by
  have hi := in_WF J0 hc hW h20 s3 hM (S0.1 17 c) (Nat.le_refl _)
  have w0 := jj_wc J0 hc
  have h10 := w0.1.1
  obtain ⟨m1, m2, m3, m4, m5⟩ := hM
  have h17 : (chS x.1).1 17 (x.1.1 16 0) = 0 := ch_17
  have io : ∀ k j, k ∉ [10, 19] → (inL x.2.1 x.2.2 (S0.1 17 c) (jnL (x.1.1 16 0) x.2.1 (S0.1 17 c) (chS x.1))).1 k j = (jnL (x.1.1 16 0) x.2.1 (S0.1 17 c) (chS x.1)).1 k j := fun k j hk => inL_off (fun q => absurd (by rw [q]; decide) hk) (fun q => absurd (by rw [q]; decide) hk)
  have jo : ∀ k j, k ∉ [8, 9, 17, 18] → (jnL (x.1.1 16 0) x.2.1 (S0.1 17 c) (chS x.1)).1 k j = (chS x.1).1 k j := fun k j hk => jnL_off h17 (fun q => hk (by rw [q.1]; decide)) (fun q => hk (by rw [q.1]; decide)) (fun q => absurd (by rcases q with q | q <;> rw [q] <;> decide) hk)
  have h20' : (inL x.2.1 x.2.2 (S0.1 17 c) (jnL (x.1.1 16 0) x.2.1 (S0.1 17 c) (chS x.1))).1 20 (x.1.1 16 0) = 0 := by
    rw [io 20 _ (by decide), jo 20 _ (by decide)]; exact ch_20
  induction i with
  | zero => exact fun _ => hi
  | succ i ih =>
    intro hi3
    have lo : ∀ k j, k ∉ [20, 21, 22, 23, 26, 71] → (lpL S0 st c (x.1.1 16 0) i (inL x.2.1 x.2.2 (S0.1 17 c) (jnL (x.1.1 16 0) x.2.1 (S0.1 17 c) (chS x.1)))).1 k j = (inL x.2.1 x.2.2 (S0.1 17 c) (jnL (x.1.1 16 0) x.2.1 (S0.1 17 c) (chS x.1))).1 k j := fun k j hk => lpL_off h20' (fun q => hk (by rw [q.1]; decide)) (fun q => absurd (List.mem_cons_of_mem _ q) hk)
    have e17 : (lpL S0 st c (x.1.1 16 0) i (inL x.2.1 x.2.2 (S0.1 17 c) (jnL (x.1.1 16 0) x.2.1 (S0.1 17 c) (chS x.1)))).1 17 (x.1.1 16 0) = S0.1 17 c := by
      rw [lo 17 _ (by decide), io 17 _ (by decide), jnL_17 h17]
    have e18 : ∀ q, q < S0.1 17 c → (lpL S0 st c (x.1.1 16 0) i (inL x.2.1 x.2.2 (S0.1 17 c) (jnL (x.1.1 16 0) x.2.1 (S0.1 17 c) (chS x.1)))).1 18 (10 * x.1.1 16 0 + q) = x.2.1 q := fun q hq => by
      rw [lo 18 _ (by decide), io 18 _ (by decide), jnL_18 h17 hq]
    have e2 : ∀ j, (lpL S0 st c (x.1.1 16 0) i (inL x.2.1 x.2.2 (S0.1 17 c) (jnL (x.1.1 16 0) x.2.1 (S0.1 17 c) (chS x.1)))).1 2 j = x.1.1 2 j := fun j => by rw [lo 2 _ (by decide), io 2 _ (by decide), jo 2 _ (by decide), ch_off (by decide)]
    have e3 : ∀ j, (lpL S0 st c (x.1.1 16 0) i (inL x.2.1 x.2.2 (S0.1 17 c) (jnL (x.1.1 16 0) x.2.1 (S0.1 17 c) (chS x.1)))).1 3 j = x.1.1 3 j := fun j => by rw [lo 3 _ (by decide), io 3 _ (by decide), jo 3 _ (by decide), ch_off (by decide)]
    have ec : cso (lpL S0 st c (x.1.1 16 0) i (inL x.2.1 x.2.2 (S0.1 17 c) (jnL (x.1.1 16 0) x.2.1 (S0.1 17 c) (chS x.1)))) (x.1.1 16 0) = st := by
      have := e18 0 (by omega)
      rw [Nat.add_zero] at this
      unfold cso
      rw [this, e3]
      exact (m2 0 (by omega)).2.2.1
    have wl := w0.2.2.2.2.1 i (by omega)
    refine WF_lp (ih (by omega)) ?_ ?_ wl.1 ?_ wl.2.2.1 wl.2.2.2.1 ?_ (fun q h1 h2 => ?_)
    · rw [lo 16 _ (by decide), io 16 _ (by decide), jo 16 _ (by decide), chS_16]; omega
    · rw [lpL_20 h20']; have := w0.1.2.1; omega
    · rw [e17]; exact wl.2.1
    · rw [ec]
      exact ok_vb s3 (allR_iff.mp hok i (Nat.zero_le _) (by omega))
    · have hq : q < S0.1 17 c := by have := wl.2.1; omega
      rw [e18 q hq, e2, (m2 q hq).2.1]
      exact wl.2.2.2.2.2.2.2 q h1 h2
/-- what the made chain's state is, place by place -/
def FX (S0 : ST) (st c : Nat) (x : CM) (Z : ST) : Prop :=
  (Z.1 1 0 = x.1.1 1 0 ∧ Z.1 16 0 = x.1.1 16 0 + 1 ∧ Z.1 17 (x.1.1 16 0) = S0.1 17 c ∧ Z.1 19 (x.1.1 16 0) = 0 ∧ Z.1 20 (x.1.1 16 0) = S0.1 20 c ∧ Z.1 28 (x.1.1 16 0) = 0 ∧ ∀ q, q < S0.1 17 c → Z.1 18 (10 * x.1.1 16 0 + q) = x.2.1 q) ∧
  (∀ i, i < S0.1 20 c → (Z.1 21 (3 * x.1.1 16 0 + i) = S0.1 21 (3 * c + i) ∧ Z.1 22 (3 * x.1.1 16 0 + i) = S0.1 22 (3 * c + i) ∧ Z.1 23 (3 * x.1.1 16 0 + i) = S0.1 23 (3 * c + i) ∧ Z.1 26 (3 * x.1.1 16 0 + i) = 0 ∧ Z.1 71 (3 * x.1.1 16 0 + i) = 0) ∧ Z.2.1 24 (3 * x.1.1 16 0 + i) = trB (cso S0 c) st false (S0.2.1 24 (3 * c + i)) ∧ ∀ j, j < 64 → Z.2.1 25 (64 * (3 * x.1.1 16 0 + i) + j) = 0) ∧
  (∀ q, q < S0.1 17 c → Z.1 8 (x.2.1 q) = x.1.1 16 0 + 1 ∧ Z.1 9 (x.2.1 q) = q + 1 ∧ Z.1 10 (x.2.1 q) = x.2.2 q ∧ (x.2.2 q ≠ 0 → Z.1 19 (x.2.2 q - 1) = x.2.1 q + 1)) ∧
  (∀ k j, k ∉ [8, 9, 10, 16, 17, 18, 19, 20, 21, 22, 23, 26, 28, 71] → Z.1 k j = x.1.1 k j) ∧
  (∀ k j, k ∈ [8, 9, 10] → (∀ q, q < S0.1 17 c → j ≠ x.2.1 q) → Z.1 k j = x.1.1 k j) ∧ (∀ j, j ≠ x.1.1 16 0 → (∀ q, q < S0.1 17 c → x.2.2 q ≠ 0 → j ≠ x.2.2 q - 1) → Z.1 19 j = x.1.1 19 j) ∧
  (∀ k j, k ∈ [17, 20, 28] → j ≠ x.1.1 16 0 → Z.1 k j = x.1.1 k j) ∧ (∀ j, j < 10 * x.1.1 16 0 → Z.1 18 j = x.1.1 18 j) ∧ (∀ k j, k ∈ [21, 22, 23, 26, 71] → j < 3 * x.1.1 16 0 → Z.1 k j = x.1.1 k j) ∧
  (∀ k, k ≠ 24 → k ≠ 25 → Z.2.1 k = x.1.2.1 k) ∧ (∀ j, j < 3 * x.1.1 16 0 → Z.2.1 24 j = x.1.2.1 24 j) ∧ (∀ j, j < 192 * x.1.1 16 0 → Z.2.1 25 j = x.1.2.1 25 j) ∧ Z.2.2 = x.1.2.2
theorem fn_FX (hM : MI S0 st c S1 (S0.1 17 c) x) : FX S0 st c x (fnS S0 st c x) := by
  obtain ⟨m1, m2, m3, m4, m5⟩ := hM
  have h17 : (chS x.1).1 17 (x.1.1 16 0) = 0 := ch_17
  have io : ∀ k j, k ∉ [10, 19] → (inL x.2.1 x.2.2 (S0.1 17 c) (jnL (x.1.1 16 0) x.2.1 (S0.1 17 c) (chS x.1))).1 k j = (jnL (x.1.1 16 0) x.2.1 (S0.1 17 c) (chS x.1)).1 k j := fun k j hk => inL_off (fun q => absurd (by rw [q]; decide) hk) (fun q => absurd (by rw [q]; decide) hk)
  have jo : ∀ k j, k ∉ [8, 9, 17, 18] → (jnL (x.1.1 16 0) x.2.1 (S0.1 17 c) (chS x.1)).1 k j = (chS x.1).1 k j := fun k j hk => jnL_off h17 (fun q => hk (by rw [q.1]; decide)) (fun q => hk (by rw [q.1]; decide)) (fun q => absurd (by rcases q with q | q <;> rw [q] <;> decide) hk)
  have h20' : (inL x.2.1 x.2.2 (S0.1 17 c) (jnL (x.1.1 16 0) x.2.1 (S0.1 17 c) (chS x.1))).1 20 (x.1.1 16 0) = 0 := by
    rw [io 20 _ (by decide), jo 20 _ (by decide)]; exact ch_20
  have lo : ∀ k j, k ∉ [20, 21, 22, 23, 26, 71] → (fnS S0 st c x).1 k j = (inL x.2.1 x.2.2 (S0.1 17 c) (jnL (x.1.1 16 0) x.2.1 (S0.1 17 c) (chS x.1))).1 k j := fun k j hk => lpL_off h20' (fun q => hk (by rw [q.1]; decide)) (fun q => absurd (List.mem_cons_of_mem _ q) hk)
  have i2 : (inL x.2.1 x.2.2 (S0.1 17 c) (jnL (x.1.1 16 0) x.2.1 (S0.1 17 c) (chS x.1))).2 = x.1.2 := by rw [inL_2, jnL_2]; rfl
  refine ⟨⟨?_, ?_, ?_, ?_, ?_, ?_, fun q hq => ?_⟩, fun i hi => lpL_at h20' hi, fun q hq => ⟨?_, ?_, ?_, fun h0 => ?_⟩, fun k j hk => ?_, fun k j hk hj => ?_, fun j hj hj' => ?_, fun k j hk hj => ?_, fun j hj => ?_, fun k j hk hj => ?_, fun k h1 h2 => ?_, fun j hj => ?_, fun j hj => ?_, ?_⟩
  · rw [lo 1 _ (by decide), io 1 _ (by decide), jo 1 _ (by decide), ch_off (by decide)]
  · rw [lo 16 _ (by decide), io 16 _ (by decide), jo 16 _ (by decide), chS_16]
  · rw [lo 17 _ (by decide), io 17 _ (by decide), jnL_17 h17]
  · rw [lo 19 _ (by decide), inL_off (by omega) (fun _ q hq hb => by
      rcases m4 q hq with ⟨-, z⟩ | ⟨d, d', i1, i2, i3, i4⟩
      · exact absurd z hb
      · have := i4.1.1; omega), jo 19 _ (by decide)]
    exact chS_at (by decide)
  · exact lpL_20 h20'
  · rw [lo 28 _ (by decide), io 28 _ (by decide), jo 28 _ (by decide)]
    exact chS_at (by decide)
  · rw [lo 18 _ (by decide), io 18 _ (by decide), jnL_18 h17 hq]
  · rw [lo 8 _ (by decide), io 8 _ (by decide), (jnL_89 h17 m3 q hq).1]
  · rw [lo 9 _ (by decide), io 9 _ (by decide), (jnL_89 h17 m3 q hq).2]
  · rw [lo 10 _ (by decide)]
    by_cases hb : x.2.2 q = 0
    · rw [inL_off (fun _ r hr hr0 z => ?_) (by omega), jo 10 _ (by decide), ch_off (by decide), (m2 q hq).2.2.2.2, hb]
      rcases Nat.lt_trichotomy q r with h | h | h
      · have := m3 q r h hr; omega
      · subst h; exact hr0 hb
      · have := m3 r q h hq; omega
    · exact (inL_at m3 m5 q hq hb).1
  · rw [lo 19 _ (by decide)]
    exact (inL_at m3 m5 q hq h0).2
  · rw [lo k j (fun q => hk ((by decide : ∀ k, k ∈ [20, 21, 22, 23, 26, 71] → k ∈ [8, 9, 10, 16, 17, 18, 19, 20, 21, 22, 23, 26, 28, 71]) k q)), io k j (fun q => hk ((by decide : ∀ k, k ∈ [10, 19] → k ∈ [8, 9, 10, 16, 17, 18, 19, 20, 21, 22, 23, 26, 28, 71]) k q)), jo k j (fun q => hk ((by decide : ∀ k, k ∈ [8, 9, 17, 18] → k ∈ [8, 9, 10, 16, 17, 18, 19, 20, 21, 22, 23, 26, 28, 71]) k q)), ch_off (fun q => hk ((by decide : ∀ k, k ∈ [16, 17, 19, 20, 28] → k ∈ [8, 9, 10, 16, 17, 18, 19, 20, 21, 22, 23, 26, 28, 71]) k q))]
  · rw [lo k j (fun q => (by decide : ∀ k, k ∈ [8, 9, 10] → k ∉ [20, 21, 22, 23, 26, 71]) k hk q), inL_off (fun _ r hr _ => hj r hr) (fun q => absurd q ((by decide : ∀ k, k ∈ [8, 9, 10] → k ≠ 19) k hk)), jnL_off h17 (fun q => absurd q.1 ((by decide : ∀ k, k ∈ [8, 9, 10] → k ≠ 17) k hk)) (fun q => absurd q.1 ((by decide : ∀ k, k ∈ [8, 9, 10] → k ≠ 18) k hk)) (fun _ r hr => hj r hr), ch_off ((by decide : ∀ k, k ∈ [8, 9, 10] → k ∉ [16, 17, 19, 20, 28]) k hk)]
  · rw [lo 19 _ (by decide), inL_off (by omega) (fun _ q hq h0 => hj' q hq h0), jo 19 _ (by decide), chS_ne hj (by decide)]
  · have hz : (fnS S0 st c x).1 k j = (inL x.2.1 x.2.2 (S0.1 17 c) (jnL (x.1.1 16 0) x.2.1 (S0.1 17 c) (chS x.1))).1 k j := lpL_off h20' (fun q => hj q.2) (fun q => absurd q ((by decide : ∀ k, k ∈ [17, 20, 28] → k ∉ [21, 22, 23, 26, 71]) k hk))
    rw [hz, io k j ((by decide : ∀ k, k ∈ [17, 20, 28] → k ∉ [10, 19]) k hk), jnL_off h17 (fun q => hj q.2) (fun q => absurd q.1 ((by decide : ∀ k, k ∈ [17, 20, 28] → k ≠ 18) k hk)) (fun q => absurd q ((by decide : ∀ k, k ∈ [17, 20, 28] → ¬ (k = 8 ∨ k = 9)) k hk)), chS_ne hj ((by decide : ∀ k, k ∈ [17, 20, 28] → k ≠ 16) k hk)]
  · rw [lo 18 _ (by decide), io 18 _ (by decide), jnL_off h17 (by omega) (by omega) (by omega), ch_off (by decide)]
  · have hz : (fnS S0 st c x).1 k j = (inL x.2.1 x.2.2 (S0.1 17 c) (jnL (x.1.1 16 0) x.2.1 (S0.1 17 c) (chS x.1))).1 k j := lpL_off h20' (fun q => absurd q.1 ((by decide : ∀ k, k ∈ [21, 22, 23, 26, 71] → k ≠ 20) k hk)) (fun _ => Or.inl hj)
    rw [hz, io k j ((by decide : ∀ k, k ∈ [21, 22, 23, 26, 71] → k ∉ [10, 19]) k hk), jo k j ((by decide : ∀ k, k ∈ [21, 22, 23, 26, 71] → k ∉ [8, 9, 17, 18]) k hk), ch_off ((by decide : ∀ k, k ∈ [21, 22, 23, 26, 71] → k ∉ [16, 17, 19, 20, 28]) k hk)]
  · have hz : (fnS S0 st c x).2.1 k = (inL x.2.1 x.2.2 (S0.1 17 c) (jnL (x.1.1 16 0) x.2.1 (S0.1 17 c) (chS x.1))).2.1 k := lpL_J h1 h2
    rw [hz, i2]
  · have hz : (fnS S0 st c x).2.1 24 j = (inL x.2.1 x.2.2 (S0.1 17 c) (jnL (x.1.1 16 0) x.2.1 (S0.1 17 c) (chS x.1))).2.1 24 j := lpL_24 h20' (Or.inl hj)
    rw [hz, i2]
  · have hz : (fnS S0 st c x).2.1 25 j = (inL x.2.1 x.2.2 (S0.1 17 c) (jnL (x.1.1 16 0) x.2.1 (S0.1 17 c) (chS x.1))).2.1 25 j := lpL_25 h20' (Or.inl hj)
    rw [hz, i2]
  · have hz : (fnS S0 st c x).2.2 = (inL x.2.1 x.2.2 (S0.1 17 c) (jnL (x.1.1 16 0) x.2.1 (S0.1 17 c) (chS x.1))).2.2 := lpL_I
    rw [hz, i2]
end PURE
