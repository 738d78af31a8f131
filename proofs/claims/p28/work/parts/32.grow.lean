/-! the heap grows, other cells change: what was said of the rest stays said -/
def Ag (C C' : CT) (a : Nat) : Prop := C'.1 a = C.1 a ∧ C'.2.1 a = C.2.1 a ∧ (∀ k, C'.2.2.1 k a = C.2.2.1 k a) ∧ (∀ k, C'.2.2.2.1 k a = C.2.2.2.1 k a) ∧ (∀ k, C'.2.2.2.2.1 k a = C.2.2.2.2.1 k a) ∧ C'.2.2.2.2.2.1 a = C.2.2.2.2.2.1 a
theorem Ag.refl (C : CT) (a : Nat) : Ag C C a := ⟨rfl, rfl, fun _ => rfl, fun _ => rfl, fun _ => rfl, rfl⟩
theorem Agr.ag {q : Nat} {C C' : CT} (h : Agr q C C') {a : Nat} (ha : a < q) : Ag C C' a := by
  obtain ⟨h1, h2, h3, h4, h5, h6⟩ := h a ha
  exact ⟨h1, h2, fun k => funext (h3 k), fun k => funext (h4 k), fun k => funext (h5 k), h6⟩
theorem ag_csI {C C' : CT} {a k b j : Nat} {v : Int32} (h : Ag C C' a) (hn : a ≠ b) : Ag C (csI C' k b j v) a := by
  obtain ⟨h1, h2, h3, h4, h5, h6⟩ := h
  exact ⟨h1, h2, fun x => (funext fun y => by simp [csI, up3, hn]).trans (h3 x), h4, h5, h6⟩
theorem ag_csJ {C C' : CT} {a k b j : Nat} {v : Int64} (h : Ag C C' a) (hn : a ≠ b) : Ag C (csJ C' k b j v) a := by
  obtain ⟨h1, h2, h3, h4, h5, h6⟩ := h
  exact ⟨h1, h2, h3, fun x => (funext fun y => by simp [csJ, up3, hn]).trans (h4 x), h5, h6⟩
theorem ag_csA {C C' : CT} {a k b j : Nat} {v : Option Nat} (h : Ag C C' a) (hn : a ≠ b) : Ag C (csA C' k b j v) a := by
  obtain ⟨h1, h2, h3, h4, h5, h6⟩ := h
  exact ⟨h1, h2, h3, h4, fun x => (funext fun y => by simp [csA, up3, hn]).trans (h5 x), h6⟩
def Ss (S S' : ST) (s : Nat) : Prop := (∀ k, k ∈ [2, 3, 5, 6, 8, 9, 10, 14, 70] → S'.1 k s = S.1 k s) ∧ (∀ k, k ∈ [4, 11, 12] → S'.2.2 k s = S.2.2 k s) ∧ S'.2.1 15 s = S.2.1 15 s ∧ S'.2.1 7 = S.2.1 7 ∧ S'.2.1 13 = S.2.1 13
theorem rln_ss {S S' : ST} {s : Nat} (h : Ss S S' s) : rln S' s = rln S s := by
  unfold rln
  rw [h.1 2 (by decide), h.2.1 4 (by decide)]
theorem RCs_ag {S S' : ST} {A A' : AT} {C C' : CT} {s : Nat} (hs : Ss S S' s) (ha : ∀ t, t ∈ [7, 117, 118, 96, 121, 98] → A' t s = A t s ∧ Ag C C' (A t s)) (h5 : A' 5 (S.1 3 s) = A 5 (S.1 3 s)) (h8 : oA A' 1 (S.1 8 s) = oA A 1 (S.1 8 s)) (h10 : oA A' 1 (S.1 10 s) = oA A 1 (S.1 10 s)) (h : RCs S A C s) : RCs S' A' C' s := by
  have hr := rln_ss hs
  obtain ⟨hs1, hs2, hs3, hs4, hs5⟩ := hs
  have e2 := hs1 2 (by decide); have e3 := hs1 3 (by decide); have e5 := hs1 5 (by decide); have e6 := hs1 6 (by decide); have e8 := hs1 8 (by decide); have e9 := hs1 9 (by decide); have eX := hs1 10 (by decide); have eE := hs1 14 (by decide); have e70 := hs1 70 (by decide)
  have i4 := hs2 4 (by decide); have i11 := hs2 11 (by decide); have i12 := hs2 12 (by decide)
  obtain ⟨p7, t7, l7, I7, J7, A7, -⟩ := ha 7 (by decide)
  obtain ⟨p117, t117, l117, I117, J117, A117, -⟩ := ha 117 (by decide)
  obtain ⟨p118, t118, l118, I118, J118, A118, -⟩ := ha 118 (by decide)
  obtain ⟨p96, t96, l96, I96, J96, A96, -⟩ := ha 96 (by decide)
  obtain ⟨p121, t121, l121, I121, J121, A121, -⟩ := ha 121 (by decide)
  obtain ⟨p98, t98, l98, I98, J98, A98, -⟩ := ha 98 (by decide)
  unfold RCs ring at h ⊢
  rw [hr, e2, e3, e5, e6, e8, e9, eX, eE, e70, i4, i11, i12, hs3, hs4, hs5, p7, p117, p118, p96, p121, p98, h5, h8, h10]
  simp only [t7, l7, I7, J7, A7, t117, l117, I117, J117, A117, t118, l118, I118, J118, A118, t96, l96, I96, J96, A96, t121, l121, I121, J121, A121, t98, l98, I98, J98, A98]
  exact h
theorem RCl_ag {S S' : ST} {A A' : AT} {C C' : CT} {l : Nat} (hs : ∀ k, k ∈ [21, 22, 23, 26, 71] → S'.1 k l = S.1 k l) (h24 : S'.2.1 24 l = S.2.1 24 l) (h25 : S'.2.1 25 = S.2.1 25) (ha : ∀ t, t ∈ [4, 67, 68] → A' t l = A t l ∧ Ag C C' (A t l)) (h : RCl S A C l) : RCl S' A' C' l := by
  have e21 := hs 21 (by decide); have e22 := hs 22 (by decide); have e23 := hs 23 (by decide); have e26 := hs 26 (by decide); have e71 := hs 71 (by decide)
  obtain ⟨p4, t4, l4, I4, J4, A4, -⟩ := ha 4 (by decide)
  obtain ⟨p67, t67, l67, I67, J67, A67, -⟩ := ha 67 (by decide)
  obtain ⟨p68, t68, l68, I68, J68, A68, -⟩ := ha 68 (by decide)
  unfold RCl ring at h ⊢
  rw [e21, e22, e23, e26, e71, h24, h25, p4, p67, p68]
  simp only [t4, l4, I4, J4, A4, t67, l67, I67, J67, A67, t68, l68, I68, J68, A68]
  exact h
theorem RCc_ag {S S' : ST} {A A' : AT} {C C' : CT} {c : Nat} (hs : ∀ k, k ∈ [17, 19, 20, 28] → S'.1 k c = S.1 k c) (h18 : ∀ p, p < S.1 17 c → S'.1 18 (10 * c + p) = S.1 18 (10 * c + p) ∧ A' 7 (S.1 18 (10 * c + p)) = A 7 (S.1 18 (10 * c + p))) (h27 : S'.2.1 27 = S.2.1 27)
    (ha : ∀ t, t ∈ [1, 17, 19, 21] → A' t c = A t c ∧ Ag C C' (A t c)) (h19 : oA A' 7 (S.1 19 c) = oA A 7 (S.1 19 c)) (h4 : ∀ i, i < S.1 20 c → A' 4 (3 * c + i) = A 4 (3 * c + i)) (hl : ∀ i, i < S.1 20 c → RCl S' A' C' (3 * c + i)) (h : RCc S A C c) : RCc S' A' C' c := by
  have e17 := hs 17 (by decide); have e19 := hs 19 (by decide); have e20 := hs 20 (by decide); have e28 := hs 28 (by decide)
  obtain ⟨p1, t1, l1, I1, J1, A1, -⟩ := ha 1 (by decide)
  obtain ⟨p17, t17, l17, I17, J17, A17, -⟩ := ha 17 (by decide)
  obtain ⟨p19, t19, l19, I19, J19, A19, -⟩ := ha 19 (by decide)
  obtain ⟨p21, t21, l21, I21, J21, A21, -⟩ := ha 21 (by decide)
  unfold RCc at h ⊢
  rw [e17, e19, e20, e28, h27, p1, p17, p19, p21, h19]
  simp only [t1, l1, I1, J1, A1, t17, l17, I17, J17, A17, t19, l19, I19, J19, A19, t21, l21, I21, J21, A21]
  obtain ⟨g1, ⟨g2, g3, g4⟩, ⟨g5, g6, g7⟩, g8, g9⟩ := h
  refine ⟨g1, ⟨g2, g3, fun p hp => ?_⟩, ⟨g5, g6, fun i hi => ?_⟩, g8, hl⟩
  · rw [g4 p hp]
    by_cases q : p < S.1 17 c
    · rw [if_pos q, if_pos q, (h18 p q).1, (h18 p q).2]
    · rw [if_neg q, if_neg q]
  · rw [g7 i hi]
    by_cases q : i < S.1 20 c
    · rw [if_pos q, if_pos q, h4 i q]
    · rw [if_neg q, if_neg q]
theorem sm_congr {f g : Nat → Nat} : ∀ {n : Nat}, (∀ i, i < n → f i = g i) → sm f n = sm g n
  | 0, _ => rfl
  | n + 1, h => by
    show sm f n + f n = sm g n + g n
    rw [sm_congr (fun i hi => h i (by omega)), h n (by omega)]
theorem cnt_congr {f g : Nat → Bool} : ∀ {n : Nat}, (∀ i, i < n → f i = g i) → cnt f n = cnt g n
  | 0, _ => rfl
  | n + 1, h => by
    show cnt f n + (if f n then 1 else 0) = cnt g n + (if g n then 1 else 0)
    rw [cnt_congr (fun i hi => h i (by omega)), h n (by omega)]
/-- what a section is -/
def Kn (S S' : ST) (s : Nat) : Prop := S'.1 2 s = S.1 2 s ∧ S'.1 3 s = S.1 3 s ∧ S'.2.2 4 s = S.2.2 4 s
theorem kn_rln {S S' : ST} {s : Nat} (h : Kn S S' s) : rln S' s = rln S s := by
  unfold rln
  rw [h.1, h.2.2]
theorem kn_vso {S S' : ST} {s : Nat} (h : Kn S S' s) : vso S' s = vso S s := by
  unfold vso
  rw [h.1, h.2.1]
theorem ss_kn {S S' : ST} {s : Nat} (h : Ss S S' s) : Kn S S' s := ⟨h.1 2 (by decide), h.1 3 (by decide), h.2.1 4 (by decide)⟩
/-- what the kept states hang on -/
def Ks (S S' : ST) : Prop := (∀ k, k ∈ [44, 45, 47, 50, 51, 52, 53, 72, 73] → S'.1 k = S.1 k) ∧ (∀ k, k ∈ [46, 48, 49] → S'.2.1 k = S.2.1 k) ∧ S.1 16 0 ≤ S'.1 16 0 ∧
  ∀ c, c < S.1 16 0 → S.1 17 c ≤ S'.1 17 c ∧ S.1 20 c ≤ S'.1 20 c ∧ (∀ p, p < S.1 17 c → S'.1 18 (10 * c + p) = S.1 18 (10 * c + p) ∧ Kn S S' (S.1 18 (10 * c + p)) ∧ (S.1 10 (S.1 18 (10 * c + p)) = 0 ∨ S'.1 10 (S.1 18 (10 * c + p)) = S.1 10 (S.1 18 (10 * c + p)))) ∧ ∀ i, i < S.1 20 c → S'.1 23 (3 * c + i) = S.1 23 (3 * c + i)
theorem ksz_ks {S S' : ST} (h : Ks S S') {k c : Nat} (hc : c < S.1 16 0) (h1 : S.1 51 (20 * k + c) ≤ S.1 17 c) (h2 : S.1 52 (20 * k + c) ≤ S.1 20 c) : ksz S' k c = ksz S k c := by
  obtain ⟨-, -, g1, g2⟩ := h.2.2.2 c hc
  unfold ksz
  rw [h.1 51 (by decide), h.1 52 (by decide), sm_congr (f := fun p => rln S' (S'.1 18 (10 * c + p)) + 1) (g := fun p => rln S (S.1 18 (10 * c + p)) + 1) (fun p hp => by
    show rln S' (S'.1 18 (10 * c + p)) + 1 = rln S (S.1 18 (10 * c + p)) + 1
    rw [(g1 p (by omega)).1, kn_rln (g1 p (by omega)).2.1]), sm_congr (f := fun i => S'.1 23 (3 * c + i)) (g := fun i => S.1 23 (3 * c + i)) (fun i hi => g2 i (by omega))]
theorem kw_ks {S S' : ST} (h : Ks S S') {k : Nat} (g6 : ∀ i, i < S.1 72 k → S.1 73 (20 * k + i) < S.1 16 0 ∧ S.1 51 (20 * k + S.1 73 (20 * k + i)) ≤ S.1 17 (S.1 73 (20 * k + i)) ∧ S.1 52 (20 * k + S.1 73 (20 * k + i)) ≤ S.1 20 (S.1 73 (20 * k + i))) (hw : KW S k) : KW S' k := by
  have e47 := h.1 47 (by decide); have e50 := h.1 50 (by decide); have e51 := h.1 51 (by decide); have e52 := h.1 52 (by decide); have e72 := h.1 72 (by decide); have e73 := h.1 73 (by decide)
  have f46 := h.2.1 46 (by decide); have f48 := h.2.1 48 (by decide); have f49 := h.2.1 49 (by decide)
  intro i hi
  rw [e72] at hi
  rw [e73, e51, e52]
  obtain ⟨u1, u2, u3⟩ := g6 i hi
  obtain ⟨w1, w2⟩ := hw i hi
  obtain ⟨v1, v2, v3, v4⟩ := h.2.2.2 _ u1
  refine ⟨fun p hp => ?_, fun q hq => ⟨(w2 q hq).1, ?_⟩⟩
  · obtain ⟨x1, x2, -⟩ := v3 p (by omega)
    have w := w1 p hp
    unfold KWs at w ⊢
    rw [x1, e47, f46, f48, kn_rln x2, kn_vso x2, x2.1, x2.2.1, x2.2.2]
    exact w
  · obtain ⟨w3, w⟩ := w2 q hq
    obtain ⟨x1, x2, -⟩ := v3 0 (by omega)
    have ec : cso S' (S.1 73 (20 * k + i)) = cso S (S.1 73 (20 * k + i)) := by
      rw [Nat.add_zero] at x1 x2
      unfold cso
      rw [x1, x2.2.1]
    unfold KWl at w ⊢
    rw [e50, f49, ec, v4 q (by omega)]
    exact w
theorem RK_ag {S S' : ST} {A A' : AT} {C C' : CT} (hk : Ks S S') (ha : ∀ t, t ∈ [48, 49, 50] → ∀ k, k < S.1 44 0 → A' t k = A t k ∧ Ag C C' (A t k)) (h1 : ∀ c, c < S.1 16 0 → A' 1 c = A 1 c) (h : RK S A C) : RK S' A' C' := by
  intro k hk0
  have e44 := hk.1 44 (by decide); have e45 := hk.1 45 (by decide); have e47 := hk.1 47 (by decide); have e50 := hk.1 50 (by decide); have e51 := hk.1 51 (by decide); have e52 := hk.1 52 (by decide); have e72 := hk.1 72 (by decide); have e73 := hk.1 73 (by decide)
  have f46 := hk.2.1 46 (by decide); have f48 := hk.2.1 48 (by decide); have f49 := hk.2.1 49 (by decide)
  rw [e44] at hk0
  obtain ⟨g1, ⟨g2, g3, g4, g5, g6, gT⟩, g7, g8, g9, gA⟩ := h k hk0
  have e53 := hk.1 53 (by decide)
  have hKT : KT S' k := by
    obtain ⟨q1, q2, q3, q4⟩ := gT
    have et : tro (fun c => S.1 51 (20 * k + c)) (fun c p => S.1 53 (60 * k + S'.1 18 (10 * c + p))) 21 0 (1, fun _ => S.1 45 k) = tro (fun c => S.1 51 (20 * k + c)) (fun c p => S.1 53 (60 * k + S.1 18 (10 * c + p))) 21 0 (1, fun _ => S.1 45 k) := tro_cong _ _ _ fun a ha => by
      have ha' : a < S.1 72 k := by omega
      rw [q3 a ha']
      refine ⟨rfl, fun p hp => ?_⟩
      obtain ⟨u1, u2, u3⟩ := g6 a ha'
      have u2 : S.1 51 (20 * k + S.1 73 (20 * k + a)) ≤ S.1 17 (S.1 73 (20 * k + a)) := u2
      have hp : p < S.1 51 (20 * k + S.1 73 (20 * k + a)) := hp
      show S.1 53 (60 * k + S'.1 18 (10 * S.1 73 (20 * k + a) + p)) = S.1 53 (60 * k + S.1 18 (10 * S.1 73 (20 * k + a) + p))
      have w1 : S'.1 18 (10 * S.1 73 (20 * k + a) + p) = S.1 18 (10 * S.1 73 (20 * k + a) + p) := ((hk.2.2.2 _ u1).2.2.1 p (show p < S.1 17 (S.1 73 (20 * k + a)) by omega)).1
      rw [w1]
    unfold KT
    rw [e72, e73, e51, e53, e45, et]
    refine ⟨fun i hi p hp => ?_, q2, q3, kw_ks hk g6 q4⟩
    obtain ⟨u1, u2, u3⟩ := g6 i hi
    have u2 : S.1 51 (20 * k + S.1 73 (20 * k + i)) ≤ S.1 17 (S.1 73 (20 * k + i)) := u2
    obtain ⟨w1, w2, w3⟩ := (hk.2.2.2 _ u1).2.2.1 p (show p < S.1 17 (S.1 73 (20 * k + i)) by omega)
    have w1 : S'.1 18 (10 * S.1 73 (20 * k + i) + p) = S.1 18 (10 * S.1 73 (20 * k + i) + p) := w1
    have w3 : S.1 10 (S.1 18 (10 * S.1 73 (20 * k + i) + p)) = 0 ∨ S'.1 10 (S.1 18 (10 * S.1 73 (20 * k + i) + p)) = S.1 10 (S.1 18 (10 * S.1 73 (20 * k + i) + p)) := w3
    rw [w1]
    rcases q1 i hi p hp with h | h
    · exact Or.inl h
    · rcases w3 with w | w
      · exact Or.inl (h.trans w)
      · exact Or.inr (h.trans w.symm)
  have ekch : ∀ i, kch S' k i = kch S k i := fun i => by unfold kch; rw [e73]
  have eksz : ∀ i, i < S.1 72 k → ksz S' k (kch S k i) = ksz S k (kch S k i) := fun i hi => ksz_ks hk (g6 i hi).1 (g6 i hi).2.1 (g6 i hi).2.2
  obtain ⟨p48, t48, l48, I48, J48, A48, -⟩ := ha 48 (by decide) k hk0
  obtain ⟨p49, t49, l49, I49, J49, A49, -⟩ := ha 49 (by decide) k hk0
  obtain ⟨p50, t50, l50, I50, J50, A50, -⟩ := ha 50 (by decide) k hk0
  simp only [e45, e47, e50, e51, e52, e72, f46, f48, f49, ekch, p48, p49, p50, t48, l48, A48, t49, l49, I49, t50, l50, J50]
  refine ⟨?_, ⟨by have := hk.2.2.1; omega, g3, g4, g5, fun i hi => ?_, hKT⟩, g7, g8, ?_, fun i hi => ?_⟩
  · rw [h1 _ g2]; exact g1
  · obtain ⟨u1, u2, u3⟩ := g6 i hi
    obtain ⟨v1, v2, -, -⟩ := hk.2.2.2 _ u1
    exact ⟨by have := hk.2.2.1; omega, by omega, by omega⟩
  · rw [g9]; exact (sm_congr eksz).symm
  · obtain ⟨u1, u2, u3⟩ := g6 i hi
    obtain ⟨v1, v2, v3, v4⟩ := hk.2.2.2 _ u1
    have es : sm (fun i => ksz S' k (kch S k i)) i = sm (fun i => ksz S k (kch S k i)) i := sm_congr fun j hj => eksz j (by omega)
    have er : ∀ p, p ≤ S.1 51 (20 * k + kch S k i) → sm (fun p => rln S' (S'.1 18 (10 * kch S k i + p)) + 1) p = sm (fun p => rln S (S.1 18 (10 * kch S k i + p)) + 1) p := fun p hp => sm_congr fun j hj => by
      show rln S' (S'.1 18 (10 * kch S k i + j)) + 1 = rln S (S.1 18 (10 * kch S k i + j)) + 1
      rw [(v3 j (by omega)).1, kn_rln (v3 j (by omega)).2.1]
    rw [es]
    refine ⟨fun p hp => ?_, fun q hq => ?_⟩
    · rw [er p (by omega), (v3 p (by omega)).1, kn_rln (v3 p (by omega)).2.1]
      exact (gA i hi).1 p hp
    · rw [er _ (Nat.le_refl _), v4 q (by omega), sm_congr (f := fun i' => S'.1 23 (3 * kch S k i + i')) (g := fun i' => S.1 23 (3 * kch S k i + i')) (fun j hj => v4 j (by omega))]
      exact (gA i hi).2 q hq
theorem RD_ag {G : GT} {A A' : AT} {C C' : CT} (h2 : A' 2 0 = A 2 0 ∧ Ag C C' (A 2 0)) (h0 : C.2.2.2.2.1 37 (A 2 0) 0 ≠ none → ∀ i, i ∈ [1, 2] → A' 0 i = A 0 i ∧ Ag C C' (A 0 i)) (h : RD G A C) : RD G A' C' := by
  obtain ⟨p2, t2, l2, I2, J2, A2, Z2⟩ := h2
  unfold RD at h ⊢
  simp only [p2, I2, J2, A2, Z2]
  rcases h with h | ⟨g1, g2, g3⟩
  · exact Or.inl h
  · have := h0 (by rw [g1]; exact Option.some_ne_none _)
    obtain ⟨q1, u1, u2, u3, u4, -, -⟩ := this 1 (by decide)
    obtain ⟨q2, w1, w2, w3, w4, -, -⟩ := this 2 (by decide)
    refine Or.inr ?_
    simp only [q1, q2, u1, u2, u3, u4, w1, w2, w3, w4]
    exact ⟨g1, g2, g3⟩
