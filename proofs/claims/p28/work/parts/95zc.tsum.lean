/-! sums over a chain's tree -/
section TSUM
variable {G : GT} {E B bx m : Nat} {ad : Nat → Nat} {S : ST} {A : AT} {C : CT} {T : MT} {c d p st : Nat} {w g : Nat → Nat}
theorem wti_cong {r r' : Nat → Nat} : ∀ {p : Nat}, (∀ q, q < p → ∀ d, S.1 10 (S.1 18 (10 * c + q)) = d + 1 → r' d = r d) → wti r' S c p = wti r S c p
  | 0, _ => rfl
  | p + 1, h => by
    show wti r' S c p + (if S.1 10 (S.1 18 (10 * c + p)) = 0 then 0 else r' (S.1 10 (S.1 18 (10 * c + p)) - 1)) = wti r S c p + (if S.1 10 (S.1 18 (10 * c + p)) = 0 then 0 else r (S.1 10 (S.1 18 (10 * c + p)) - 1))
    rw [wti_cong (p := p) fun q hq => h q (by omega)]
    by_cases h0 : S.1 10 (S.1 18 (10 * c + p)) = 0
    · rw [if_pos h0, if_pos h0]
    · rw [if_neg h0, if_neg h0, h p (by omega) (S.1 10 (S.1 18 (10 * c + p)) - 1) (by omega)]
/-- how far it looks is all one -/
theorem wt_fuel (J : JJ G E B bx m ad S A C T) : ∀ (f f' c : Nat), c < f → c < f' → c < S.1 16 0 → wt w S f' c = wt w S f c
  | 0, _, _, h, _, _ => absurd h (Nat.not_lt_zero _)
  | _ + 1, 0, _, _, h, _ => absurd h (Nat.not_lt_zero _)
  | f + 1, f' + 1, c, h, h', hc => by
    show w c + wti (wt w S f') S c (S.1 17 c) = w c + wti (wt w S f) S c (S.1 17 c)
    rw [wti_cong fun q hq d hd => wt_fuel J f f' d (by have := (inner_und J hc hq hd).2.1; omega) (by have := (inner_und J hc hq hd).2.1; omega) (by have := (inner_und J hc hq hd).2.1; omega)]
theorem sm_cong {f g : Nat → Nat} : ∀ {n : Nat}, (∀ i, i < n → f i = g i) → sm f n = sm g n
  | 0, _ => rfl
  | n + 1, h => by
    show sm f n + f n = sm g n + g n
    rw [sm_cong fun i hi => h i (by omega), h n (by omega)]
theorem tri_sm {d : Nat} : ∀ (q p : Nat) (t : TR), sm (fun a => g ((tri (hin S) d q p t).2 a)) (tri (hin S) d q p t).1 + wti g S d p = sm (fun a => g (t.2 a)) t.1 + wti g S d (p + q)
  | 0, p, t => rfl
  | q + 1, p, t => by
    have e : wti g S d (p + 1) = wti g S d p + if S.1 10 (S.1 18 (10 * d + p)) = 0 then 0 else g (S.1 10 (S.1 18 (10 * d + p)) - 1) := rfl
    have e0 : tri (hin S) d (q + 1) p t = tri (hin S) d q (p + 1) (if hin S d p = 0 then t else tph t (hin S d p - 1)) := rfl
    rw [e0]
    by_cases h0 : S.1 10 (S.1 18 (10 * d + p)) = 0
    · rw [if_pos (show hin S d p = 0 from h0)]
      have ih := tri_sm (d := d) q (p + 1) t
      rw [if_pos h0] at e
      rw [show p + (q + 1) = p + 1 + q by omega]
      omega
    · rw [if_neg (show ¬ hin S d p = 0 from h0)]
      have ih := tri_sm (d := d) q (p + 1) (tph t (hin S d p - 1))
      rw [if_neg h0] at e
      have e2 : sm (fun a => g ((tph t (hin S d p - 1)).2 a)) (tph t (hin S d p - 1)).1 = sm (fun a => g (t.2 a)) t.1 + g (hin S d p - 1) := by
        show sm (fun a => g ((tph t (hin S d p - 1)).2 a)) t.1 + g ((tph t (hin S d p - 1)).2 t.1) = _
        rw [tph_at, sm_cong fun i hi => congrArg g (tph_lt hi)]
      have e3 : g (hin S d p - 1) = g (S.1 10 (S.1 18 (10 * d + p)) - 1) := rfl
      rw [show p + (q + 1) = p + 1 + q by omega]
      omega
/-- the sum of a list that is gone through, of what hangs on it -/
theorem tro_sm {W : Nat → Nat} (hW : ∀ d, d ≤ c → W d = w d + wti W S d (S.1 17 d)) : ∀ (n i : Nat) (t : TR), i ≤ t.1 → (tro (S.1 17) (hin S) n i t).1 ≤ i + n → (∀ a, a < (tro (S.1 17) (hin S) n i t).1 → (tro (S.1 17) (hin S) n i t).2 a ≤ c) →
    sm (fun a => w ((tro (S.1 17) (hin S) n i t).2 a)) (tro (S.1 17) (hin S) n i t).1 + sm (fun a => W (t.2 a)) i = sm (fun a => w (t.2 a)) i + sm (fun a => W (t.2 a)) t.1
  | 0, i, t, h1, h2, _ => by
    have h2 : t.1 ≤ i + 0 := h2
    have : i = t.1 := by omega
    subst this
    rfl
  | n + 1, i, t, h1, h2, h3 => by
    by_cases hi : i < t.1
    · have e : tro (S.1 17) (hin S) (n + 1) i t = tro (S.1 17) (hin S) n (i + 1) (tri (hin S) (t.2 i) (S.1 17 (t.2 i)) 0 t) := if_pos hi
      rw [e] at h2 h3 ⊢
      have x := tri_ext (inn := hin S) (d := t.2 i) (S.1 17 (t.2 i)) 0 t
      have y := tro_ext (mn := S.1 17) (inn := hin S) n (i + 1) (tri (hin S) (t.2 i) (S.1 17 (t.2 i)) 0 t)
      have ih := tro_sm hW n (i + 1) _ (by omega) (by omega) h3
      have hs := tri_sm (S := S) (g := W) (d := t.2 i) (S.1 17 (t.2 i)) 0 t
      have hc := h3 i (by omega)
      rw [y.2 i (by omega), x.2 i hi] at hc
      have hw := hW _ hc
      have a1 : sm (fun a => W ((tri (hin S) (t.2 i) (S.1 17 (t.2 i)) 0 t).2 a)) (i + 1) = sm (fun a => W (t.2 a)) i + W (t.2 i) := sm_cong (n := i + 1) (g := fun a => W (t.2 a)) fun a ha => congrArg W (x.2 a (by omega))
      have a2 : sm (fun a => w ((tri (hin S) (t.2 i) (S.1 17 (t.2 i)) 0 t).2 a)) (i + 1) = sm (fun a => w (t.2 a)) i + w (t.2 i) := sm_cong (n := i + 1) (g := fun a => w (t.2 a)) fun a ha => congrArg w (x.2 a (by omega))
      have a3 : wti W S (t.2 i) 0 = 0 := rfl
      rw [Nat.zero_add] at hs
      omega
    · have e : tro (S.1 17) (hin S) (n + 1) i t = t := if_neg hi
      rw [e]
      have : i = t.1 := by omega
      subst this
      rfl
theorem tre_sm (J : JJ G E B bx m ad S A C T) (hc : c < S.1 16 0) (hT : TI S c (tre S c) 21 0) : sm (fun a => w ((tre S c).2 a)) (tre S c).1 = wt w S 20 c := by
  have hn := (jj_n J).2.1
  have hb := ti_bound hT hc hn
  have h := tro_sm (S := S) (c := c) (w := w) (W := wt w S 20) (fun d hd => by
    show w d + wti (wt w S 19) S d (S.1 17 d) = w d + wti (wt w S 20) S d (S.1 17 d)
    rw [wti_cong fun q hq e he => wt_fuel J 19 20 e (by have := (inner_und J (show d < S.1 16 0 by omega) hq he).2.1; omega) (by have := (inner_und J (show d < S.1 16 0 by omega) hq he).2.1; omega) (by have := (inner_und J (show d < S.1 16 0 by omega) hq he).2.1; omega)]) 21 0 (1, fun _ => c) (Nat.zero_le _) (by show (tre S c).1 ≤ 0 + 21; omega) hT.2.1
  have h : sm (fun a => w ((tre S c).2 a)) (tre S c).1 + 0 = 0 + (0 + wt w S 20 c) := h
  omega
/-- the chains of a tree are there, and hold something -/
theorem tre_ok (J : JJ G E B bx m ad S A C T) (hc : c < S.1 16 0) (h0 : S.1 17 c ≠ 0) (hT : TI S c (tre S c) 21 0) : ∀ i, i < (tre S c).1 → (tre S c).2 i < S.1 16 0 ∧ S.1 17 ((tre S c).2 i) ≠ 0 := fun i hi => by
  obtain ⟨⟨g1, g2⟩, g3, g4, g5⟩ := hT
  have hle := g3 i hi
  refine ⟨by omega, ?_⟩
  by_cases e : i = 0
  · subst e; rw [g2]; exact h0
  · obtain ⟨a, x, -, b2, b3, b4⟩ := g5 i (by omega) hi
    have ha := g3 a b2
    exact (inner_und J (show (tre S c).2 a < S.1 16 0 by omega) b3 b4).2.2.1
theorem bad_all : ∀ {n : Nat} {t : Nat → Nat}, sm (fun a => bad S st (t a)) n = 0 ↔ ∀ i, i < n → okc S st (t i) = true
  | 0, t => ⟨fun _ i hi => absurd hi (Nat.not_lt_zero _), fun _ => rfl⟩
  | n + 1, t => by
    have ih := bad_all (n := n) (t := t)
    have e : sm (fun a => bad S st (t a)) (n + 1) = sm (fun a => bad S st (t a)) n + bad S st (t n) := rfl
    have hb : bad S st (t n) = 0 ↔ okc S st (t n) = true := by
      unfold bad
      by_cases q : okc S st (t n) = true
      · rw [if_pos q]; exact ⟨fun _ => q, fun _ => rfl⟩
      · rw [if_neg q]; exact ⟨fun z => absurd z (by decide), fun z => absurd z q⟩
    rw [e]
    constructor
    · intro h i hi
      by_cases q : i = n
      · subst q; exact hb.mp (by omega)
      · exact ih.mp (by omega) i (by omega)
    · intro h
      have h1 := ih.mpr fun i hi => h i (by omega)
      have h2 := hb.mpr (h n (by omega))
      omega
theorem wti_add {r r' : Nat → Nat} {k : Nat} : ∀ {p : Nat}, wti (fun d => r d + k * r' d) S c p = wti r S c p + k * wti r' S c p
  | 0 => rfl
  | p + 1 => by
    show wti (fun d => r d + k * r' d) S c p + (if S.1 10 (S.1 18 (10 * c + p)) = 0 then 0 else _) = (wti r S c p + if S.1 10 (S.1 18 (10 * c + p)) = 0 then 0 else _) + k * (wti r' S c p + if S.1 10 (S.1 18 (10 * c + p)) = 0 then 0 else _)
    rw [wti_add, Nat.mul_add]
    by_cases h0 : S.1 10 (S.1 18 (10 * c + p)) = 0
    · rw [if_pos h0, if_pos h0, if_pos h0]; omega
    · rw [if_neg h0, if_neg h0, if_neg h0]
      dsimp only
      omega
theorem wt_fu : ∀ (f c : Nat), wt (fuW S) S f c = wt (S.1 17) S f c + 2 * wt oneF S f c
  | 0, _ => rfl
  | f + 1, c => by
    have e : wt (fuW S) S f = fun d => wt (S.1 17) S f d + 2 * wt oneF S f d := funext fun d => wt_fu f d
    show (S.1 17 c + 2) + wti (wt (fuW S) S f) S c (S.1 17 c) = (S.1 17 c + wti (wt (S.1 17) S f) S c (S.1 17 c)) + 2 * (1 + wti (wt oneF S f) S c (S.1 17 c))
    rw [e, wti_add]
    omega
end TSUM
