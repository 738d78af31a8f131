/-! what is kept, place by place -/
section SLOT
variable {G : GT} {E B bx m : Nat} {ad : Nat → Nat} {S S' : ST} {A : AT} {C C' : CT} {T T' : MT}
/-- what RK says of one -/
def RKb (S : ST) (A : AT) (C : CT) (k : Nat) : Prop :=
  (C.1 (A 48 k) = 4 ∧ C.2.2.2.2.1 48 (A 48 k) 0 = some (A 1 (S.1 45 k)) ∧ C.2.2.2.2.1 49 (A 48 k) 0 = some (A 49 k) ∧ C.2.2.2.2.1 50 (A 48 k) 0 = some (A 50 k)) ∧
  (S.1 45 k < S.1 16 0 ∧ 1 ≤ S.1 72 k ∧ S.1 72 k ≤ 20 ∧ kch S k 0 = S.1 45 k ∧ (∀ i, i < S.1 72 k → kch S k i < S.1 16 0 ∧ S.1 51 (20 * k + kch S k i) ≤ S.1 17 (kch S k i) ∧ S.1 52 (20 * k + kch S k i) ≤ S.1 20 (kch S k i)) ∧ KT S k) ∧
  (C.1 (A 49 k) = 20 ∧ C.2.1 (A 49 k) = 3 * S.1 72 k ∧ ∀ i, i < S.1 72 k → C.2.2.1 900 (A 49 k) (3 * i) = i32 (kch S k i) ∧ C.2.2.1 900 (A 49 k) (3 * i + 1) = i32 (S.1 51 (20 * k + kch S k i)) ∧ C.2.2.1 900 (A 49 k) (3 * i + 2) = i32 (S.1 52 (20 * k + kch S k i))) ∧
  (C.1 (A 50 k) = 21 ∧ C.2.1 (A 50 k) = sm (fun i => ksz S k (kch S k i)) (S.1 72 k) ∧ ∀ i, i < S.1 72 k →
    (∀ p, p < S.1 51 (20 * k + kch S k i) → C.2.2.2.1 900 (A 50 k) (sm (fun i => ksz S k (kch S k i)) i + sm (fun p => rln S (S.1 18 (10 * kch S k i + p)) + 1) p) = S.2.1 48 (60 * k + S.1 18 (10 * kch S k i + p)) ∧
      ∀ j, j < rln S (S.1 18 (10 * kch S k i + p)) → C.2.2.2.1 900 (A 50 k) (sm (fun i => ksz S k (kch S k i)) i + sm (fun p => rln S (S.1 18 (10 * kch S k i + p)) + 1) p + 1 + j) = S.2.1 46 (64 * (60 * k + S.1 18 (10 * kch S k i + p)) + (S.1 47 (60 * k + S.1 18 (10 * kch S k i + p)) + j) % rln S (S.1 18 (10 * kch S k i + p)))) ∧
    (∀ q, q < S.1 52 (20 * k + kch S k i) → ∀ j, j < S.1 23 (3 * kch S k i + q) → C.2.2.2.1 900 (A 50 k) (sm (fun i => ksz S k (kch S k i)) i + sm (fun p => rln S (S.1 18 (10 * kch S k i + p)) + 1) (S.1 51 (20 * k + kch S k i)) + sm (fun i' => S.1 23 (3 * kch S k i + i')) q + j) = S.2.1 49 (64 * (60 * k + (3 * kch S k i + q)) + (S.1 50 (60 * k + (3 * kch S k i + q)) + j) % S.1 23 (3 * kch S k i + q))))
theorem RK_iff : RK S A C ↔ ∀ k, k < S.1 44 0 → RKb S A C k := Iff.rfl
def kNs : List Nat := [44, 45, 47, 50, 51, 52, 53, 72, 73]
def kJs : List Nat := [46, 48, 49]
/-- nothing but what is kept differs -/
def Kx (S S' : ST) : Prop := (∀ x, x ∉ kNs → S'.1 x = S.1 x) ∧ (∀ x, x ∉ kJs → S'.2.1 x = S.2.1 x) ∧ S'.2.2 = S.2.2
/-- and not what is kept as k -/
def Ky (S S' : ST) (k : Nat) : Prop :=
  (S'.1 45 k = S.1 45 k ∧ S'.1 72 k = S.1 72 k ∧ (∀ i, i < 20 → S'.1 73 (20 * k + i) = S.1 73 (20 * k + i)) ∧ (∀ d, d < 20 → S'.1 51 (20 * k + d) = S.1 51 (20 * k + d) ∧ S'.1 52 (20 * k + d) = S.1 52 (20 * k + d)) ∧ (∀ x, x < 60 → S'.1 47 (60 * k + x) = S.1 47 (60 * k + x) ∧ S'.1 50 (60 * k + x) = S.1 50 (60 * k + x) ∧ S'.1 53 (60 * k + x) = S.1 53 (60 * k + x))) ∧
  (∀ x, x < 60 → S'.2.1 48 (60 * k + x) = S.2.1 48 (60 * k + x)) ∧ (∀ x y, x < 60 → y < 64 → S'.2.1 46 (64 * (60 * k + x) + y) = S.2.1 46 (64 * (60 * k + x) + y) ∧ S'.2.1 49 (64 * (60 * k + x) + y) = S.2.1 49 (64 * (60 * k + x) + y))
theorem kx_rln (h : Kx S S') : rln S' = rln S := by
  funext x
  unfold rln
  rw [h.1 2 (by decide), h.2.2]
theorem kx_vso (h : Kx S S') : vso S' = vso S := by
  funext x
  unfold vso
  rw [h.1 2 (by decide), h.1 3 (by decide)]
theorem kx_cso (h : Kx S S') : cso S' = cso S := by
  funext x
  unfold cso
  rw [h.1 18 (by decide), h.1 3 (by decide)]
theorem RKb_slot {k : Nat} {A2 : AT} {C2 : CT} (hx : Kx S S') (hy : Ky S S' k) (J : JJ G E B bx m ad S A C T) (h : RKb S A2 C2 k) : RKb S' A2 C2 k := by
  have h20 := (jj_n J).2.1
  have h60 := (jj_n J).1
  obtain ⟨⟨e45, e72, e73, e5, e6⟩, f48, f4⟩ := hy
  obtain ⟨g1, ⟨g2, g3, g4, g5, g6, gT⟩, ⟨g7, g7b, g7c⟩, g8, g9, gA⟩ := h
  have erln := kx_rln hx
  have evso := kx_vso hx
  have ecso := kx_cso hx
  have k16 := hx.1 16 (by decide)
  have k17 := hx.1 17 (by decide)
  have k18 := hx.1 18 (by decide)
  have k20 := hx.1 20 (by decide)
  have k23 := hx.1 23 (by decide)
  have k10 := hx.1 10 (by decide)
  have k2 := hx.1 2 (by decide)
  have k3 := hx.1 3 (by decide)
  have ekch : ∀ i, i < S.1 72 k → kch S' k i = kch S k i := fun i hi => e73 i (by omega)
  have d20 : ∀ i, i < S.1 72 k → kch S k i < 20 := fun i hi => by have := (g6 i hi).1; omega
  have s60 : ∀ i, i < S.1 72 k → ∀ p, p < S.1 51 (20 * k + kch S k i) → S.1 18 (10 * kch S k i + p) < 60 := fun i hi p hp => by
    have := places_lt J (g6 i hi).1 (p := p) (by have := (g6 i hi).2.1; omega)
    omega
  have l60 : ∀ i, i < S.1 72 k → ∀ q, q < S.1 52 (20 * k + kch S k i) → 3 * kch S k i + q < 60 ∧ 1 ≤ S.1 23 (3 * kch S k i + q) ∧ S.1 23 (3 * kch S k i + q) ≤ 64 := fun i hi q hq => by
    have w := jj_wc J (g6 i hi).1
    have := (g6 i hi).2.2
    have w3 := w.1.2.1
    have wl := w.2.2.2.2.1 q (by omega)
    have := d20 i hi
    exact ⟨by omega, wl.2.2.1, wl.2.2.2.1⟩
  have e51 : ∀ i, i < S.1 72 k → S'.1 51 (20 * k + kch S k i) = S.1 51 (20 * k + kch S k i) := fun i hi => (e5 _ (d20 i hi)).1
  have e52 : ∀ i, i < S.1 72 k → S'.1 52 (20 * k + kch S k i) = S.1 52 (20 * k + kch S k i) := fun i hi => (e5 _ (d20 i hi)).2
  have ek : ∀ i, i < S.1 72 k → ksz S' k (kch S' k i) = ksz S k (kch S k i) := fun i hi => by
    unfold ksz
    rw [ekch i hi, e51 i hi, e52 i hi, erln, k18, k23]
  have eKT : KT S' k := by
    obtain ⟨q1, q2, q3, q4⟩ := gT
    have et : tro (fun c => S'.1 51 (20 * k + c)) (fun c p => S'.1 53 (60 * k + S'.1 18 (10 * c + p))) 21 0 (1, fun _ => S'.1 45 k) = tro (fun c => S.1 51 (20 * k + c)) (fun c p => S.1 53 (60 * k + S.1 18 (10 * c + p))) 21 0 (1, fun _ => S.1 45 k) := by
      rw [e45, k18]
      refine tro_cong _ _ _ fun a ha => ?_
      have ha' : a < S.1 72 k := by omega
      rw [q3 a ha']
      refine ⟨e51 a ha', fun p hp => ?_⟩
      exact (e6 _ (s60 a ha' p hp)).2.2
    refine ⟨fun i hi p hp => ?_, ?_, fun i hi => ?_, fun i hi => ?_⟩
    · rw [e72] at hi
      have e := ekch i hi
      unfold kch at e
      rw [e] at hp ⊢
      have h51 := e51 i hi
      have h53 := (e6 _ (s60 i hi p (by unfold kch at h51 ⊢; omega))).2.2
      unfold kch at h51 h53
      rw [h51] at hp
      rw [k18, k10, h53]
      exact q1 i hi p hp
    · rw [et, e72]; exact q2
    · rw [e72] at hi
      rw [et]
      exact (q3 i hi).trans (ekch i hi).symm
    · rw [e72] at hi
      obtain ⟨w1, w2⟩ := q4 i hi
      have e : S'.1 73 (20 * k + i) = S.1 73 (20 * k + i) := ekch i hi
      have h51 : S'.1 51 (20 * k + S.1 73 (20 * k + i)) = S.1 51 (20 * k + S.1 73 (20 * k + i)) := e51 i hi
      have h52 : S'.1 52 (20 * k + S.1 73 (20 * k + i)) = S.1 52 (20 * k + S.1 73 (20 * k + i)) := e52 i hi
      have s6 : ∀ p, p < S.1 51 (20 * k + S.1 73 (20 * k + i)) → S.1 18 (10 * S.1 73 (20 * k + i) + p) < 60 := s60 i hi
      have l6 : ∀ q, q < S.1 52 (20 * k + S.1 73 (20 * k + i)) → 3 * S.1 73 (20 * k + i) + q < 60 := fun q hq => (l60 i hi q hq).1
      rw [e, h51, h52, k18]
      generalize S.1 73 (20 * k + i) = d at *
      refine ⟨fun p hp => ?_, fun q hq => ⟨(w2 q hq).1, ?_⟩⟩
      · have w := w1 p hp
        have hs := s6 p hp
        generalize S.1 18 (10 * d + p) = s at *
        unfold KWs at w ⊢
        have f0 := (f4 s 0 hs (by decide)).1
        rw [Nat.add_zero] at f0
        rw [erln, evso, k2, k3, hx.2.2, (e6 s hs).1, f48 s hs, f0]
        exact ⟨w.1, w.2.1, w.2.2.1, fun j hj => by rw [(f4 s j hs hj).1]; exact w.2.2.2.1 j hj, fun j hj hr => by rw [(f4 s j hs hj).1]; exact w.2.2.2.2.1 j hj hr, w.2.2.2.2.2⟩
      · have w := (w2 q hq).2
        have hl := l6 q hq
        generalize 3 * d + q = l at *
        unfold KWl at w ⊢
        rw [ecso, k23, (e6 l hl).2.1]
        exact ⟨w.1, fun j hj => by rw [(f4 l j hl hj).2]; exact w.2 j hj⟩
  refine ⟨by rw [e45]; exact g1, ⟨by rw [e45, k16]; exact g2, by rw [e72]; exact g3, by rw [e72]; exact g4, by rw [ekch 0 (by omega), e45]; exact g5, fun i hi => ?_, eKT⟩, ⟨g7, by rw [e72]; exact g7b, fun i hi => ?_⟩, g8, ?_, fun i hi => ?_⟩
  · rw [e72] at hi
    rw [ekch i hi, e51 i hi, e52 i hi, k16, k17, k20]
    exact g6 i hi
  · rw [e72] at hi
    rw [ekch i hi, e51 i hi, e52 i hi]
    exact g7c i hi
  · rw [e72, g9]
    exact (sm_congr ek).symm
  · rw [e72] at hi
    have es : sm (fun i => ksz S' k (kch S' k i)) i = sm (fun i => ksz S k (kch S k i)) i := sm_congr fun j hj => ek j (by omega)
    rw [es, ekch i hi, e51 i hi, e52 i hi, erln, k18, k23]
    refine ⟨fun p hp => ?_, fun q hq j hj => ?_⟩
    · have hs := s60 i hi p hp
      obtain ⟨u1, u2⟩ := (gA i hi).1 p hp
      rw [f48 _ hs, (e6 _ hs).1]
      refine ⟨u1, fun j hj => ?_⟩
      have hle := rln_le J (s := S.1 18 (10 * kch S k i + p)) (by
        exact places_lt J (g6 i hi).1 (by have := (g6 i hi).2.1; omega))
      have hm := Nat.mod_lt (S.1 47 (60 * k + S.1 18 (10 * kch S k i + p)) + j) (show 0 < rln S (S.1 18 (10 * kch S k i + p)) by omega)
      rw [(f4 _ _ hs (by omega)).1]
      exact u2 j hj
    · obtain ⟨v1, v2, v3⟩ := l60 i hi q hq
      have hm := Nat.mod_lt (S.1 50 (60 * k + (3 * kch S k i + q)) + j) (show 0 < S.1 23 (3 * kch S k i + q) by omega)
      rw [(e6 _ v1).2.1, (f4 _ _ v1 (by omega)).2]
      exact (gA i hi).2 q hq j hj
theorem kx_va (h : Kx S S') (h44 : S'.1 44 0 = S.1 44 0) : VA S' = VA S := by
  funext t i
  unfold VA
  rw [h.1 1 (by decide), h.1 16 (by decide), h.1 20 (by decide), h44]
/-- what lies beyond what is kept may change -/
theorem jj_slot (J : JJ G E B bx m ad S A C T) (hx : Kx S S') (h44 : S'.1 44 0 = S.1 44 0) (hy : ∀ k, k < S.1 44 0 → Ky S S' k)
    (h46 : ∀ s, S.1 1 0 ≤ s → s < 60 → ∀ k, k < 8 → ∀ j, j < 64 → S'.2.1 46 (3840 * k + 64 * s + j) = 0) (h49 : ∀ c, c < 20 → (S.1 16 0 ≤ c ∨ S.1 17 c = 0) → ∀ k, k < 8 → ∀ j, j < 192 → S'.2.1 49 (3840 * k + 192 * c + j) = 0)
    (hout : ∀ j, 30720 ≤ j → S'.2.1 46 j = 0 ∧ S'.2.1 49 j = 0) (hR : RT S' T') : JJ G E B bx m ad S' A C T' := by
  have hJ := J
  have eva := kx_va hx h44
  have erln := kx_rln hx
  have evso := kx_vso hx
  have ecso := kx_cso hx
  have h20 := (jj_n J).2.1
  obtain ⟨⟨w1, w2, w3⟩, ⟨hb, hss, hcc, hax⟩, hRT, hWF, hRK, hRD⟩ := J
  obtain ⟨k, n2, n3⟩ := hx
  refine ⟨⟨w1, w2, fun z hz => ?_⟩, ⟨?_, fun s h => ?_, fun c h => ?_, ?_⟩, hR, ⟨?_, fun s h => ?_, fun c h => ?_, ?_⟩, ?_, hRD⟩
  · rw [k 1 (by decide), k 16 (by decide), h44, k 20 (by decide)]
    exact w3 z hz
  · unfold RCb at hb ⊢
    rw [k 1 (by decide), k 16 (by decide), h44]
    exact hb
  · rw [k 1 (by decide)] at h
    refine RCs_ag (S := S) (A := A) (C := C) ⟨fun x hx => ?_, fun x _ => by rw [n3], by rw [n2 15 (by decide)], n2 7 (by decide), n2 13 (by decide)⟩ (fun t _ => ⟨rfl, Ag.refl _ _⟩) rfl rfl rfl (hss s h)
    rw [k x (by revert hx; revert x; decide)]
  · rw [k 16 (by decide)] at h
    refine RCc_ag (S := S) (A := A) (C := C) (fun x hx => ?_) (fun p _ => ⟨by rw [k 18 (by decide)], rfl⟩) (n2 27 (by decide)) (fun t _ => ⟨rfl, Ag.refl _ _⟩) rfl (fun _ _ => rfl) (fun i hi => ?_) (hcc c h)
    · rw [k x (by revert hx; revert x; decide)]
    · refine RCl_ag (S := S) (A := A) (C := C) (fun x hx => ?_) (by rw [n2 24 (by decide)]) (n2 25 (by decide)) (fun t _ => ⟨rfl, Ag.refl _ _⟩) ((hcc c h).2.2.2.2 i hi)
      rw [k x (by revert hx; revert x; decide)]
  · intro t i t' i' h h'
    rw [eva] at h h'
    exact hax t i t' i' h h'
  · rw [k 1 (by decide), k 16 (by decide), h44]; exact hWF.1
  · rw [k 1 (by decide)] at h
    have w := hWF.2.1 s h
    unfold WFs at w ⊢
    rw [erln, evso, ecso, k 2 (by decide), k 3 (by decide), k 5 (by decide), k 6 (by decide), k 8 (by decide), k 9 (by decide), k 10 (by decide), k 14 (by decide), k 16 (by decide), k 17 (by decide), k 18 (by decide), k 19 (by decide), k 70 (by decide), n2 7 (by decide), n2 13 (by decide), n2 15 (by decide), n3]
    exact w
  · rw [k 16 (by decide)] at h
    have w := hWF.2.2.1 c h
    unfold WFc WFl at w ⊢
    rw [ecso, k 17 (by decide), k 18 (by decide), k 19 (by decide), k 20 (by decide), k 1 (by decide), k 2 (by decide), k 3 (by decide), k 8 (by decide), k 9 (by decide), k 10 (by decide), k 21 (by decide), k 22 (by decide), k 23 (by decide), k 26 (by decide), k 28 (by decide), n2 24 (by decide), n2 25 (by decide), n2 27 (by decide)]
    exact ⟨w.1, w.2.1, w.2.2.1, fun q => ⟨(w.2.2.2.1 q).1, (w.2.2.2.1 q).2.1, (w.2.2.2.1 q).2.2.1, (w.2.2.2.1 q).2.2.2.1, (w.2.2.2.1 q).2.2.2.2.1, (w.2.2.2.1 q).2.2.2.2.2.1, h49 c (by omega) (Or.inr q)⟩, w.2.2.2.2⟩
  · obtain ⟨z2, z3, z4, z5, z6, z7⟩ := hWF.2.2.2
    unfold WFz
    rw [k 1 (by decide), k 16 (by decide), k 17 (by decide), k 18 (by decide), n2 7 (by decide), n2 13 (by decide), n2 24 (by decide), n2 25 (by decide), n2 27 (by decide)]
    exact ⟨fun s h1 h2 => ⟨(z2 s h1 h2).1, h46 s h1 h2, (z2 s h1 h2).2.2⟩, fun c h1 h2 => ⟨(z3 c h1 h2).1, (z3 c h1 h2).2.1, (z3 c h1 h2).2.2.1, (z3 c h1 h2).2.2.2.1, (z3 c h1 h2).2.2.2.2.1, h49 c h2 (Or.inl h1)⟩, hout, z5, z6, z7⟩
  · intro kk hk0
    rw [h44] at hk0
    exact RKb_slot ⟨k, n2, n3⟩ (hy kk hk0) hJ (hRK kk hk0)
/-- other places of the heap may change; so may the room there is -/
theorem jj_else {ad' : Nat → Nat} (J : JJ G E B bx m ad S A C T) (hw : CW B C') (hag : ∀ t i, VA S t i → t ≠ 0 → Ag C C' (A t i)) (h0 : C.2.2.2.2.1 37 (A 2 0) 0 ≠ none → ∀ i, i ∈ [1, 2] → Ag C C' (A 0 i)) (hbx : Ag C C' bx)
    (hl : lsp m ad' C') (hro : RO (ad' 0) B S A C') : JJ G E B bx m ad' S A C' T := by
  obtain ⟨⟨w1, w2, w3⟩, ⟨hb, hss, hcc, hx⟩, hRT, hWF, hRK, hRD⟩ := J
  refine ⟨⟨hw, hl, hro⟩, ⟨?_, fun s h => ?_, fun c h => ?_, hx⟩, hRT, hWF, ?_, ?_⟩
  · have hA : ∀ i, i < 4 → Ag C C' (A 3 i) := fun i hi => hag 3 i hi (by decide)
    exact RCb_of hb hbx.1 (fun k _ => by rw [hbx.2.2.2.2.1]) (by rw [hbx.2.2.1]; exact hb.2.1.1) (by rw [hbx.2.2.1]; exact hb.2.1.2.1) (by rw [hbx.2.2.1]; exact hb.2.1.2.2) (fun _ => rfl) (fun _ => rfl) rfl (fun i hi => hag 5 i hi (by decide)) (fun i hi => ⟨(hA i hi).1, (hA i hi).2.1⟩) (hag 2 0 rfl (by decide)).1
      (fun s hs => by rw [(hA 0 (by decide)).2.2.2.2.1]; exact hb.2.2.2.1.2.2 s hs) (fun s hs => by rw [(hA 1 (by decide)).2.2.2.2.1]; exact hb.2.2.2.2.1.2.2 s hs) (fun s hs => by rw [(hA 2 (by decide)).2.2.2.2.1]; exact hb.2.2.2.2.2.1.2.2 s hs)
  · refine RCs_ag (S := S) (A := A) (C := C) ⟨fun _ _ => rfl, fun _ _ => rfl, rfl, rfl, rfl⟩ (fun t ht => ⟨rfl, ?_⟩) rfl rfl rfl (hss s h)
    simp only [List.mem_cons, List.not_mem_nil, or_false] at ht
    rcases ht with rfl | rfl | rfl | rfl | rfl | rfl <;> exact hag _ s h (by decide)
  · have wc := hWF.2.2.1 c h
    refine RCc_ag (S := S) (A := A) (C := C) (fun _ _ => rfl) (fun p _ => ⟨rfl, rfl⟩) rfl (fun t ht => ⟨rfl, ?_⟩) rfl (fun _ _ => rfl) (fun i hi => ?_) (hcc c h)
    · simp only [List.mem_cons, List.not_mem_nil, or_false] at ht
      rcases ht with rfl | rfl | rfl | rfl <;> exact hag _ c h (by decide)
    · have hi3 : i < 3 := by have := wc.1.2.1; omega
      have hq : (3 * c + i) / 3 < S.1 16 0 ∧ (3 * c + i) % 3 < S.1 20 ((3 * c + i) / 3) := by
        rw [show (3 * c + i) / 3 = c by omega, show (3 * c + i) % 3 = i by omega]; exact ⟨h, hi⟩
      refine RCl_ag (S := S) (A := A) (C := C) (fun _ _ => rfl) rfl rfl (fun t ht => ⟨rfl, ?_⟩) ((hcc c h).2.2.2.2 i hi)
      simp only [List.mem_cons, List.not_mem_nil, or_false] at ht
      rcases ht with rfl | rfl | rfl <;> exact hag _ _ hq (by decide)
  · refine RK_ag (S := S) (A := A) (C := C) ⟨fun _ _ => rfl, fun _ _ => rfl, Nat.le_refl _, fun c hc => ⟨Nat.le_refl _, Nat.le_refl _, fun _ _ => ⟨rfl, ⟨rfl, rfl, rfl⟩, Or.inr rfl⟩, fun _ _ => rfl⟩⟩ (fun t ht k hk => ⟨rfl, ?_⟩) (fun _ _ => rfl) hRK
    simp only [List.mem_cons, List.not_mem_nil, or_false] at ht
    rcases ht with rfl | rfl | rfl <;> exact hag _ k hk (by decide)
  · exact RD_ag (A := A) (C := C) ⟨rfl, hag 2 0 rfl (by decide)⟩ (fun hn i hi => ⟨rfl, h0 hn i hi⟩) hRD
end SLOT
