/-! values change, what is there stays -/
section DAT
variable {G : GT} {E B bx m s l c : Nat} {ad : Nat → Nat} {S S' : ST} {A : AT} {C C' : CT} {T T' : MT}
def Dy (S S' : ST) : Prop := (∀ k, k ∉ [14, 26, 28, 70, 71] → S'.1 k = S.1 k) ∧ (∀ k, k ∉ [13, 15, 25, 27] → S'.2.1 k = S.2.1 k) ∧ ∀ k, k ∉ [11, 12] → S'.2.2 k = S.2.2 k
def Hp (S : ST) (A : AT) (C C' : CT) : Prop := C'.1 = C.1 ∧ C'.2.1 = C.2.1 ∧ (∀ k, k ∉ [22, 23, 24, 97, 122, 123] → C'.2.2.1 k = C.2.2.1 k) ∧ (∀ k, k ∉ [121, 900] → C'.2.2.2.1 k = C.2.2.2.1 k) ∧
  (∀ a, (∀ t i, VA S t i → t ∈ [96, 68, 21, 98] → a ≠ A t i) → C'.2.2.2.1 900 a = C.2.2.2.1 900 a) ∧ C'.2.2.2.2 = C.2.2.2.2 ∧ ∀ a, C.1 a = 0 → ∀ k, C'.2.2.1 k a = C.2.2.1 k a ∧ C'.2.2.2.1 k a = C.2.2.2.1 k a
theorem Dy.refl (S : ST) : Dy S S := ⟨fun _ _ => rfl, fun _ _ => rfl, fun _ _ => rfl⟩
theorem Dy.trans {S S' S'' : ST} (h : Dy S S') (h' : Dy S' S'') : Dy S S'' := ⟨fun k q => (h'.1 k q).trans (h.1 k q), fun k q => (h'.2.1 k q).trans (h.2.1 k q), fun k q => (h'.2.2 k q).trans (h.2.2 k q)⟩
def Ds (S : ST) (A : AT) (C : CT) (s : Nat) : Prop := (C.2.2.1 97 (A 121 s) 0 = 0 ∧ C.2.2.2.1 900 (A 98 s) 0 = S.2.1 15 s) ∧ C.2.2.1 122 (A 7 s) 0 = S.2.2 11 s ∧ C.2.2.1 123 (A 7 s) 0 = S.2.2 12 s ∧ C.2.2.1 97 (A 118 s) 0 = i32 (S.1 70 s) ∧ ring C (A 96 s) (rln S s) (S.1 70 s) (S.2.1 13) (64 * s) (S.1 14 s)
def Dl (S : ST) (A : AT) (C : CT) (l : Nat) : Prop := C.2.2.1 97 (A 67 l) 0 = i32 (S.1 71 l) ∧ ring C (A 68 l) (S.1 23 l) (S.1 71 l) (S.2.1 25) (64 * l) (S.1 26 l)
def Dc (S : ST) (A : AT) (C : CT) (c : Nat) : Prop := C.2.2.1 22 (A 1 c) 0 = i32 (S.1 28 c % 400) ∧ C.2.2.1 23 (A 1 c) 0 = i32 (min (S.1 28 c) 400) ∧ C.2.2.1 24 (A 1 c) 0 = i32 (S.1 28 c) ∧ ∀ j, j < 400 → C.2.2.2.1 900 (A 21 c) j = S.2.1 27 (400 * c + j)
def Ws (S : ST) (s : Nat) : Prop := (S.1 3 s < 2 → S.2.1 15 s = 0) ∧ (S.1 14 s = 0 ∨ S.1 14 s < rln S s) ∧ (ringy (S.1 2 s) = false → S.1 14 s = 0 ∧ S.1 70 s = 0) ∧ (∀ k, k < 64 → vb (vso S s) (S.2.1 13 (64 * s + k))) ∧ (∀ k, k < 64 → rln S s ≤ k → S.2.1 13 (64 * s + k) = 0) ∧ (S.1 2 s = 12 → 0 ≤ S.2.1 13 (64 * s) ∧ S.2.1 13 (64 * s) < (S.2.2 4 s).toInt64)
def Wl (S : ST) (c l : Nat) : Prop := S.1 26 l < S.1 23 l ∧ ∀ k, k < 64 → vb (cso S c) (S.2.1 25 (64 * l + k))
def Wc (E : Nat) (S : ST) (c : Nat) : Prop := (S.1 17 c = 0 → S.1 28 c = 0 ∧ (∀ j, j < 192 → S.2.1 25 (192 * c + j) = 0) ∧ ∀ j, j < 400 → S.2.1 27 (400 * c + j) = 0) ∧ (∀ j, j < 400 → vb (cso S c) (S.2.1 27 (400 * c + j))) ∧ S.1 28 c ≤ min E 4000000
def Wz (S S' : ST) : Prop := (∀ s, S.1 1 0 ≤ s → s < 60 → ∀ j, j < 64 → S'.2.1 13 (64 * s + j) = 0) ∧ (∀ c, S.1 16 0 ≤ c → c < 20 → (∀ j, j < 192 → S'.2.1 25 (192 * c + j) = 0) ∧ ∀ j, j < 400 → S'.2.1 27 (400 * c + j) = 0) ∧ (∀ j, 3840 ≤ j → S'.2.1 25 j = 0) ∧ ∀ j, 8000 ≤ j → S'.2.1 27 j = 0
theorem dy_rln (h : Dy S S') : rln S' = rln S := by
  funext x
  unfold rln
  rw [h.1 2 (by decide), h.2.2 4 (by decide)]
theorem dy_vso (h : Dy S S') : vso S' = vso S := by
  funext x
  unfold vso
  rw [h.1 2 (by decide), h.1 3 (by decide)]
theorem dy_cso (h : Dy S S') : cso S' = cso S := by
  funext x
  unfold cso
  rw [h.1 18 (by decide), h.1 3 (by decide)]
theorem dy_va (h : Dy S S') : VA S' = VA S := by
  funext t i
  unfold VA
  rw [h.1 1 (by decide), h.1 16 (by decide), h.1 20 (by decide), h.1 44 (by decide)]
theorem dy_kch (h : Dy S S') : kch S' = kch S := by
  funext a b
  unfold kch
  rw [h.1 73 (by decide)]
theorem dy_ksz (h : Dy S S') : ksz S' = ksz S := by
  funext a b
  unfold ksz
  rw [dy_rln h, h.1 18 (by decide), h.1 51 (by decide), h.1 23 (by decide), h.1 52 (by decide)]
theorem dy_kw (h : Dy S S') : KW S' = KW S := by
  funext a
  unfold KW KWs KWl
  rw [dy_rln h, dy_vso h, dy_cso h, h.1 72 (by decide), h.1 73 (by decide), h.1 51 (by decide), h.1 52 (by decide), h.1 18 (by decide), h.1 2 (by decide), h.1 3 (by decide), h.1 47 (by decide), h.1 50 (by decide), h.1 23 (by decide), h.2.1 46 (by decide), h.2.1 48 (by decide), h.2.1 49 (by decide), h.2.2 4 (by decide)]
theorem dy_kt (h : Dy S S') : KT S' = KT S := by
  funext a
  unfold KT
  rw [dy_kw h]
  rw [h.1 72 (by decide), h.1 51 (by decide), h.1 73 (by decide), h.1 53 (by decide), h.1 18 (by decide), h.1 10 (by decide), h.1 45 (by decide)]
theorem ds_of (h : RCs S A C s) : Ds S A C s := ⟨⟨h.2.1.2.2.1.2.2.2.1, h.2.1.2.2.1.2.2.2.2.2.2⟩, h.2.1.2.2.2.1, h.2.1.2.2.2.2.1, h.2.2.2.2.2.1, h.2.2.2.2.2.2⟩
theorem dl_of (h : RCl S A C l) : Dl S A C l := ⟨h.2.2.2.1, h.2.2.2.2⟩
theorem dc_of (h : RCc S A C c) : Dc S A C c := ⟨h.1.2.2.2.2.2.2.2.1, h.1.2.2.2.2.2.2.2.2.1, h.1.2.2.2.2.2.2.2.2.2.1, h.2.2.2.1.2.2⟩
theorem ws_of (h : WFs S s) : Ws S s := by
  obtain ⟨g1, g2, g3, g4, g5, g6, g7, g8, g9, gA, gB, gC, gD⟩ := h
  exact ⟨fun q => (g3 q).2.2, g7, g8, gA, gB, gD⟩
theorem wl_of (h : WFl S c l) : Wl S c l := ⟨h.2.2.2.2.1, h.2.2.2.2.2.2.1⟩
theorem wc_of (h : WFc E S c) : Wc E S c := by
  obtain ⟨g1, g4, g5, g6, g7, g8, g9⟩ := h
  exact ⟨fun q => ⟨(g6 q).2.1, (g6 q).2.2.2.2.1, (g6 q).2.2.2.2.2.1⟩, g8, g9⟩
theorem wz_of (h : WFz S) : Wz S S := ⟨fun s h1 h2 => (h.1 s h1 h2).1, fun c h1 h2 => ⟨(h.2.1 c h1 h2).2.2.2.1, (h.2.1 c h1 h2).2.2.2.2.1⟩, h.2.2.2.2.1, h.2.2.2.2.2⟩
theorem ring_cong {a n e base r : Nat} {f f' : Nat → Int64} (h : ring C a n e f base r) (h1 : C'.1 a = C.1 a) (h2 : C'.2.1 a = C.2.1 a) (h3 : C'.2.2.2.1 900 a = C.2.2.2.1 900 a) (h4 : ∀ j, j < n → f' (base + j) = f (base + j)) : ring C' a n e f' base r :=
  ⟨h1.trans h.1, h2.trans h.2.1, h.2.2.1, h.2.2.2.1, fun k hk => by rw [h3, h.2.2.2.2 k hk, h4 _ (Nat.mod_lt _ (by omega))]⟩
theorem jj_dat (J : JJ G E B bx m ad S A C T) (hS : Dy S S') (hC : Hp S A C C') (hs : ∀ s, s < S.1 1 0 → Ds S' A C' s ∧ Ws S' s) (hc : ∀ c, c < S.1 16 0 → Dc S' A C' c ∧ Wc E S' c ∧ ∀ i, i < S.1 20 c → Dl S' A C' (3 * c + i) ∧ Wl S' c (3 * c + i)) (hz : Wz S S') (hR : RT S' T') : JJ G E B bx m ad S' A C' T' := by
  have eva := dy_va hS
  have erln := dy_rln hS
  have evso := dy_vso hS
  have ecso := dy_cso hS
  have ekch := dy_kch hS
  have eksz := dy_ksz hS
  have ekt := dy_kt hS
  obtain ⟨⟨w1, w2, w3⟩, ⟨hb, hss, hcc, hx⟩, hRT, hWF, hRK, hRD⟩ := J
  obtain ⟨k, n2, n3⟩ := hS
  obtain ⟨t1, t2, i1, j1, j2, r1, z1⟩ := hC
  have eck : ck C' = ck C := congrArg (fun x : (Nat → Nat → Nat → Option Nat) × (Nat → Bool) × (Nat × Nat) => x.2.2) r1
  refine ⟨⟨⟨?_, ?_, fun a ha kk j => ?_⟩, ?_, fun z hzz => ?_⟩, ⟨?_, fun s h => ?_, fun c h => ?_, ?_⟩, hR, ⟨?_, fun s h => ?_, fun c h => ?_, ?_⟩, ?_, ?_⟩
  · rw [eck]; exact w1.1
  · rw [eck, t1]; exact w1.2.1
  · rw [eck] at ha
    have h0 : C.1 a = 0 := Classical.byContradiction fun q => by
      have := (w1.2.1 a q).2
      omega
    rw [(z1 a h0 kk).1, (z1 a h0 kk).2, r1]
    exact w1.2.2 a ha kk j
  · unfold lsp lsep at w2 ⊢
    rw [t1, eck]; exact w2
  · rw [r1] at hzz
    rw [eck, k 1 (by decide), k 16 (by decide), k 44 (by decide), k 20 (by decide)]
    exact w3 z hzz
  · unfold RCb RCreal at hb ⊢
    rw [t1, t2, r1, k 1 (by decide), k 16 (by decide), k 44 (by decide), i1 4 (by decide), i1 6 (by decide), i1 8 (by decide), i1 80 (by decide), i1 82 (by decide), i1 83 (by decide), j1 81 (by decide), j1 84 (by decide), j1 85 (by decide), j1 86 (by decide)]
    exact hb
  · rw [k 1 (by decide)] at h
    obtain ⟨f7, ⟨g1, g2, g3, g4, g5, g6, g7, g8⟩, gF, gR⟩ := hss s h
    have d := (hs s h).1
    unfold RCs
    rw [t1, t2, r1, i1 112 (by decide), i1 113 (by decide), i1 114 (by decide), i1 115 (by decide), i1 119 (by decide), i1 120 (by decide), i1 125 (by decide), k 2 (by decide), k 3 (by decide), k 5 (by decide), k 6 (by decide), k 8 (by decide), k 9 (by decide), k 10 (by decide), n2 7 (by decide), n3 4 (by decide)]
    refine ⟨f7, ⟨g1, g2, ⟨g3.1, g3.2.1, g3.2.2.1, d.1.1, g3.2.2.2.2.1, g3.2.2.2.2.2.1, d.1.2⟩, d.2.1, d.2.2.1, g6, g7, g8⟩, ⟨gF.1, gF.2.1, fun y hy => ?_⟩, gR.1, gR.2.1, d.2.2.2.1, d.2.2.2.2⟩
    rw [j2 (A 117 s) (fun t i hv ht => ax_t ⟨hb, hss, hcc, hx⟩ hv (show VA S 117 s from h) (Or.inl (fun q => by subst q; revert ht; decide)))]
    exact gF.2.2 y hy
  · rw [k 16 (by decide)] at h
    obtain ⟨⟨g1, g2, g3, g4, g5, g6, g7, g8, g9, gA, gB⟩, gM, gL, gD, gl⟩ := hcc c h
    obtain ⟨d, -, dl⟩ := hc c h
    unfold RCc
    rw [t1, t2, r1, i1 16 (by decide), i1 18 (by decide), i1 20 (by decide), k 17 (by decide), k 18 (by decide), k 19 (by decide), k 20 (by decide)]
    refine ⟨⟨g1, g2, g3, g4, g5, g6, g7, d.1, d.2.1, d.2.2.1, gB⟩, gM, gL, ⟨gD.1, gD.2.1, d.2.2.2⟩, fun i hi => ?_⟩
    obtain ⟨⟨l1, l2, l3, l4, l5⟩, l6, l7, -, -⟩ := gl i hi
    have dd := (dl i hi).1
    unfold RCl
    rw [t1, r1, i1 64 (by decide), i1 65 (by decide), j1 66 (by decide), k 21 (by decide), k 22 (by decide), n2 24 (by decide)]
    exact ⟨⟨l1, l2, l3, l4, l5⟩, l6, l7, dd.1, dd.2⟩
  · intro t i t' i' h h'
    rw [eva] at h h'
    exact hx t i t' i' h h'
  · rw [k 1 (by decide), k 16 (by decide), k 44 (by decide)]; exact hWF.1
  · rw [k 1 (by decide)] at h
    obtain ⟨g1, g2, g3, g4, g5, g6, g7, g8, g9, gA, gB, gC, gD⟩ := hWF.2.1 s h
    have w := (hs s h).2
    unfold Ws at w
    unfold WFs
    rw [erln, evso, k 2 (by decide), k 3 (by decide), n3 4 (by decide)] at w
    rw [erln, evso, k 2 (by decide), k 3 (by decide), k 5 (by decide), k 6 (by decide), k 8 (by decide), k 9 (by decide), k 10 (by decide), k 16 (by decide), k 17 (by decide), k 18 (by decide), k 19 (by decide), n2 7 (by decide), n3 4 (by decide), ecso]
    exact ⟨g1, g2, fun q => ⟨(g3 q).1, (g3 q).2.1, w.1 q⟩, g4, g5, g6, w.2.1, w.2.2.1, g9, w.2.2.2.1, w.2.2.2.2.1, gC, w.2.2.2.2.2⟩
  · rw [k 16 (by decide)] at h
    obtain ⟨g1, g4, g5, g6, g7, g8, g9⟩ := hWF.2.2.1 c h
    obtain ⟨-, w, wl⟩ := hc c h
    unfold Wc at w
    unfold WFc
    rw [ecso, k 17 (by decide)] at w
    rw [ecso, k 17 (by decide), k 18 (by decide), k 19 (by decide), k 20 (by decide), k 1 (by decide), k 2 (by decide), k 3 (by decide), k 8 (by decide), k 9 (by decide), k 10 (by decide), n2 24 (by decide), n2 49 (by decide)]
    refine ⟨g1, g4, g5, fun q => ⟨(g6 q).1, (w.1 q).1, (g6 q).2.2.1, (g6 q).2.2.2.1, (w.1 q).2.1, (w.1 q).2.2, (g6 q).2.2.2.2.2.2⟩, fun i hi => ?_, w.2.1, w.2.2⟩
    obtain ⟨u1, u2, u3, u4, u5, u6, u7, u8⟩ := g7 i hi
    have v := (wl i hi).2
    unfold Wl at v
    unfold WFl
    rw [ecso, k 23 (by decide)] at v
    rw [ecso, k 2 (by decide), k 17 (by decide), k 18 (by decide), k 21 (by decide), k 22 (by decide), k 23 (by decide), n2 24 (by decide)]
    exact ⟨u1, u2, u3, u4, v.1, u6, v.2, u8⟩
  · obtain ⟨z2, z3, z4⟩ := hWF.2.2.2
    obtain ⟨y2, y3, y4, y5⟩ := hz
    unfold WFz
    rw [k 1 (by decide), k 16 (by decide), k 17 (by decide), k 18 (by decide), n2 46 (by decide), n2 7 (by decide), n2 24 (by decide), n2 49 (by decide)]
    exact ⟨fun s h1 h2 => ⟨y2 s h1 h2, (z2 s h1 h2).2⟩, fun c h1 h2 => ⟨(z3 c h1 h2).1, (z3 c h1 h2).2.1, (z3 c h1 h2).2.2.1, (y3 c h1 h2).1, (y3 c h1 h2).2, (z3 c h1 h2).2.2.2.2.2⟩, z4.1, z4.2.1, y4, y5⟩
  · intro kk hk0
    rw [k 44 (by decide)] at hk0
    have h := hRK kk hk0
    rw [t1, t2, r1, i1 900 (by decide), j2 (A 50 kk) (fun t i hv ht => ax_t ⟨hb, hss, hcc, hx⟩ hv (show VA S 50 kk from hk0) (Or.inl (fun q => by subst q; revert ht; decide))), k 45 (by decide), k 72 (by decide), k 51 (by decide), k 52 (by decide), k 47 (by decide), k 50 (by decide), k 16 (by decide), k 17 (by decide), k 20 (by decide), k 18 (by decide), k 23 (by decide), n2 48 (by decide), n2 46 (by decide), n2 49 (by decide), ekch, eksz, erln, ekt]
    exact h
  · unfold RD at hRD ⊢
    rw [t1, t2, r1, i1 34 (by decide), i1 35 (by decide), i1 36 (by decide), i1 900 (by decide), j1 33 (by decide), j2 (A 0 2) (fun t i hv ht => ax_t ⟨hb, hss, hcc, hx⟩ hv (show VA S 0 2 from (by decide : 2 < 3)) (Or.inl (fun q => by subst q; revert ht; decide)))]
    exact hRD
/-- one section's values change -/
def Dys (S S' : ST) (s : Nat) : Prop := (∀ k j, ¬ ((k = 14 ∨ k = 70) ∧ j = s) → S'.1 k j = S.1 k j) ∧ (∀ k j, ¬ (k = 15 ∧ j = s) → ¬ (k = 13 ∧ 64 * s ≤ j ∧ j < 64 * s + 64) → S'.2.1 k j = S.2.1 k j) ∧ ∀ k j, ¬ ((k = 11 ∨ k = 12) ∧ j = s) → S'.2.2 k j = S.2.2 k j
def Hps (A : AT) (C C' : CT) (s : Nat) : Prop := C'.1 = C.1 ∧ C'.2.1 = C.2.1 ∧ (∀ k a j, ¬ ((k = 122 ∨ k = 123) ∧ a = A 7 s) → ¬ (k = 97 ∧ a = A 118 s) → C'.2.2.1 k a j = C.2.2.1 k a j) ∧ (∀ k a j, ¬ (k = 900 ∧ a = A 98 s) → ¬ (k = 900 ∧ a = A 96 s) → C'.2.2.2.1 k a j = C.2.2.2.1 k a j) ∧ C'.2.2.2.2 = C.2.2.2.2
theorem Dys.dy {s : Nat} (h : Dys S S' s) : Dy S S' :=
  ⟨fun k hk => funext fun j => h.1 k j (fun q => hk (by rcases q.1 with rfl | rfl <;> decide)), fun k hk => funext fun j => h.2.1 k j (fun q => hk (by rw [q.1]; decide)) (fun q => hk (by rw [q.1]; decide)), fun k hk => funext fun j => h.2.2 k j (fun q => hk (by rcases q.1 with rfl | rfl <;> decide))⟩
theorem jj_sec {s : Nat} (J : JJ G E B bx m ad S A C T) (h0 : s < S.1 1 0) (hS : Dys S S' s) (hC : Hps A C C' s) (hD : Ds S' A C' s) (hW : Ws S' s) (hR : RT S' T') : JJ G E B bx m ad S' A C' T' := by
  have hJ := J
  have hdy := hS.dy
  have erln := dy_rln hdy
  have evso := dy_vso hdy
  have ecso := dy_cso hdy
  obtain ⟨⟨w1, w2, w3⟩, ⟨hb, hss, hcc, hx⟩, hRT, hWF, hRK, hRD⟩ := J
  obtain ⟨k1, k2, k3⟩ := hS
  obtain ⟨t1, t2, i1, j1, r1⟩ := hC
  have hsr := hss s h0
  have ne : ∀ {t i t' i'}, VA S t i → VA S t' i' → (t' ≠ t ∨ i' ≠ i) → A t' i' ≠ A t i := fun h1 h2 h3 => ax_t ⟨hb, hss, hcc, hx⟩ h1 h2 h3
  refine jj_dat hJ hdy ⟨t1, t2, fun k hk => funext fun a => funext fun j => i1 k a j (fun q => hk (by rcases q.1 with rfl | rfl <;> decide)) (fun q => hk (by rw [q.1]; decide)), fun k hk => funext fun a => funext fun j => j1 k a j (fun q => hk (by rw [q.1]; decide)) (fun q => hk (by rw [q.1]; decide)),
    fun a ha => funext fun j => j1 900 a j (fun q => ha 98 s h0 (by decide) q.2) (fun q => ha 96 s h0 (by decide) q.2), r1, fun a ha k => ⟨funext fun j => i1 k a j (fun q => ?_) (fun q => ?_), funext fun j => j1 k a j (fun q => ?_) (fun q => ?_)⟩⟩ (fun s' h => ?_) (fun c h => ?_) ⟨fun s' h1 h2 j hj => ?_, fun c h1 h2 => ⟨fun j hj => ?_, fun j hj => ?_⟩, fun j hj => ?_, fun j hj => ?_⟩ hR
  · rw [q.2, hsr.1.1] at ha; exact absurd ha (by decide)
  · rw [q.2, hsr.2.2.2.1] at ha; exact absurd ha (by decide)
  · rw [q.2, hsr.2.1.2.2.1.2.2.2.2.1] at ha; exact absurd ha (by decide)
  · rw [q.2, hsr.2.2.2.2.2.2.1] at ha; exact absurd ha (by decide)
  · by_cases e : s' = s
    · subst e; exact ⟨hD, hW⟩
    · obtain ⟨d1, d2, d3, d4, d5⟩ := ds_of (hss s' h)
      obtain ⟨x1, x2, x3, x4, x5, x6⟩ := ws_of (hWF.2.1 s' h)
      have hle := rln_le hJ h
      have e7 : A 7 s' ≠ A 7 s := ne (show VA S 7 s from h0) (show VA S 7 s' from h) (Or.inr e)
      have e118 : A 118 s' ≠ A 118 s := ne (show VA S 118 s from h0) (show VA S 118 s' from h) (Or.inr e)
      have e96 : A 96 s' ≠ A 96 s := ne (show VA S 96 s from h0) (show VA S 96 s' from h) (Or.inr e)
      have e98 : A 98 s' ≠ A 98 s := ne (show VA S 98 s from h0) (show VA S 98 s' from h) (Or.inr e)
      have e98x : A 98 s' ≠ A 96 s := ne (show VA S 96 s from h0) (show VA S 98 s' from h) (by omega)
      have e96x : A 96 s' ≠ A 98 s := ne (show VA S 98 s from h0) (show VA S 96 s' from h) (by omega)
      have e121 : A 121 s' ≠ A 118 s := ne (show VA S 118 s from h0) (show VA S 121 s' from h) (by omega)
      have f13 : ∀ j, j < 64 → S'.2.1 13 (64 * s' + j) = S.2.1 13 (64 * s' + j) := fun j hj => k2 13 _ (fun q => absurd q.1 (by decide)) (fun q => by omega)
      have f15 : S'.2.1 15 s' = S.2.1 15 s' := k2 15 s' (fun q => e q.2) (fun q => absurd q.1 (by decide))
      have f14 : S'.1 14 s' = S.1 14 s' := k1 14 s' (fun q => e q.2)
      have f70 : S'.1 70 s' = S.1 70 s' := k1 70 s' (fun q => e q.2)
      refine ⟨⟨?_, ?_, ?_, ?_, ?_⟩, ?_⟩
      · exact ⟨by rw [i1 97 _ _ (fun q => by rcases q.1 with h | h <;> exact absurd h (by decide)) (fun q => e121 q.2)]; exact d1.1, by rw [j1 900 _ _ (fun q => e98 q.2) (fun q => e98x q.2), f15]; exact d1.2⟩
      · rw [i1 122 _ _ (fun q => e7 q.2) (fun q => absurd q.1 (by decide)), k3 11 s' (fun q => e q.2)]; exact d2
      · rw [i1 123 _ _ (fun q => e7 q.2) (fun q => absurd q.1 (by decide)), k3 12 s' (fun q => e q.2)]; exact d3
      · rw [i1 97 _ _ (fun q => by rcases q.1 with h | h <;> exact absurd h (by decide)) (fun q => e118 q.2), f70]; exact d4
      · rw [erln, f70, f14]
        exact ring_cong d5 (by rw [t1]) (by rw [t2]) (funext fun j => j1 900 _ j (fun q => e96x q.2) (fun q => e96 q.2)) (fun j hj => f13 j (by omega))
      · unfold Ws
        rw [erln, evso, hdy.1 2 (by decide), hdy.1 3 (by decide), hdy.2.2 4 (by decide), f14, f15, f70]
        exact ⟨x1, x2, x3, fun j hj => by rw [f13 j hj]; exact x4 j hj, fun j hj hj' => by rw [f13 j hj]; exact x5 j hj hj', fun q => by rw [show 64 * s' = 64 * s' + 0 from rfl, f13 0 (by decide)]; exact x6 q⟩
  · obtain ⟨d1, d2, d3, d4⟩ := dc_of (hcc c h)
    have wc := hWF.2.2.1 c h
    obtain ⟨x1, x2, x3⟩ := wc_of wc
    have e21 : A 21 c ≠ A 96 s := ne (show VA S 96 s from h0) (show VA S 21 c from h) (by omega)
    have e21x : A 21 c ≠ A 98 s := ne (show VA S 98 s from h0) (show VA S 21 c from h) (by omega)
    have f28 : S'.1 28 = S.1 28 := funext fun j => k1 28 j (fun q => by rcases q.1 with h | h <;> exact absurd h (by decide))
    have f27 : S'.2.1 27 = S.2.1 27 := funext fun j => k2 27 j (fun q => absurd q.1 (by decide)) (fun q => absurd q.1 (by decide))
    have f25 : S'.2.1 25 = S.2.1 25 := funext fun j => k2 25 j (fun q => absurd q.1 (by decide)) (fun q => absurd q.1 (by decide))
    have fI : ∀ k a j, k ∉ [97, 122, 123] → C'.2.2.1 k a j = C.2.2.1 k a j := fun k a j hk => i1 k a j (fun q => hk (by rcases q.1 with rfl | rfl <;> decide)) (fun q => hk (by rw [q.1]; decide))
    refine ⟨⟨?_, ?_, ?_, fun j hj => ?_⟩, ?_, fun i hi => ⟨⟨?_, ?_⟩, ?_⟩⟩
    · rw [fI 22 _ _ (by decide), f28]; exact d1
    · rw [fI 23 _ _ (by decide), f28]; exact d2
    · rw [fI 24 _ _ (by decide), f28]; exact d3
    · rw [j1 900 _ _ (fun q => e21x q.2) (fun q => e21 q.2), f27]; exact d4 j hj
    · unfold Wc
      rw [f28, f27, f25, ecso, hdy.1 17 (by decide)]; exact ⟨x1, x2, x3⟩
    all_goals
      have hi3 : i < 3 := by have := wc.1.2.1; omega
      have hq : (3 * c + i) / 3 < S.1 16 0 ∧ (3 * c + i) % 3 < S.1 20 ((3 * c + i) / 3) := by
        rw [show (3 * c + i) / 3 = c by omega, show (3 * c + i) % 3 = i by omega]; exact ⟨h, hi⟩
      obtain ⟨l1, l2⟩ := dl_of ((hcc c h).2.2.2.2 i hi)
      have n67 : A 67 (3 * c + i) ≠ A 118 s := ne (show VA S 118 s from h0) (show VA S 67 (3 * c + i) from hq) (by omega)
      have n68 : A 68 (3 * c + i) ≠ A 96 s := ne (show VA S 96 s from h0) (show VA S 68 (3 * c + i) from hq) (by omega)
      have n68x : A 68 (3 * c + i) ≠ A 98 s := ne (show VA S 98 s from h0) (show VA S 68 (3 * c + i) from hq) (by omega)
      have f71 : S'.1 71 = S.1 71 := funext fun j => k1 71 j (fun q => by rcases q.1 with h | h <;> exact absurd h (by decide))
      have f26 : S'.1 26 = S.1 26 := funext fun j => k1 26 j (fun q => by rcases q.1 with h | h <;> exact absurd h (by decide))
    · rw [i1 97 _ _ (fun q => by rcases q.1 with h | h <;> exact absurd h (by decide)) (fun q => n67 q.2), f71]; exact l1
    · rw [hdy.1 23 (by decide), f71, f26, f25]
      exact ring_cong l2 (by rw [t1]) (by rw [t2]) (funext fun j => j1 900 _ j (fun q => n68x q.2) (fun q => n68 q.2)) (fun j _ => rfl)
    · unfold Wl
      rw [hdy.1 23 (by decide), f26, f25, ecso]
      exact wl_of (wc.2.2.2.2.1 i hi)
  · rw [k2 13 _ (fun q => absurd q.1 (by decide)) (fun q => by omega)]; exact (hWF.2.2.2.1 s' h1 h2).1 j hj
  · rw [k2 25 _ (fun q => absurd q.1 (by decide)) (fun q => absurd q.1 (by decide))]; exact (hWF.2.2.2.2.1 c h1 h2).2.2.2.1 j hj
  · rw [k2 27 _ (fun q => absurd q.1 (by decide)) (fun q => absurd q.1 (by decide))]; exact (hWF.2.2.2.2.1 c h1 h2).2.2.2.2.1 j hj
  · rw [k2 25 _ (fun q => absurd q.1 (by decide)) (fun q => absurd q.1 (by decide))]; exact hWF.2.2.2.2.2.2.2.1 j hj
  · rw [k2 27 _ (fun q => absurd q.1 (by decide)) (fun q => absurd q.1 (by decide))]; exact hWF.2.2.2.2.2.2.2.2 j hj
end DAT
