/-! one loop's values, one chain's output change -/
section DATB
variable {G : GT} {E B bx m s l c : Nat} {ad : Nat → Nat} {S S' : ST} {A : AT} {C C' : CT} {T T' : MT}
theorem jj_T (J : JJ G E B bx m ad S A C T) (h : RT S T') : JJ G E B bx m ad S A C T' := ⟨J.1, J.2.1, h, J.2.2.2⟩
/-- a state of the reference that is as told -/
def tOf (S : ST) : MT := (fun k j => if k ∈ rtM then im (S.1 k j) else if k ∈ rtI then S.2.2 k j else i32 (S.1 k j), S.2.1, (fun k j => dv (match k with | 7 => S.1 3 (j / 5) | 13 => vso S (j / 64) | 24 => cso S (j / 3) | 25 => cso S (j / 64 / 3) | 27 => cso S (j / 400) | 46 => vso S (j / 64 % 60) | _ => cso S (j / 64 % 60 / 3)) (S.2.1 k j)), fun _ => false)
theorem rt_tOf (S : ST) : RT S (tOf S) := by
  have hN : ∀ k, k ∈ rtN → k ∉ rtM ∧ k ∉ rtI := by decide
  have hC : ∀ k, k ∈ rtC → k ∉ rtM ∧ k ∉ rtI := by decide
  have hI : ∀ k, k ∈ rtI → k ∉ rtM := by decide
  refine ⟨fun k hk j => ?_, fun k hk => ?_, fun k hk j => ?_, fun k hk j => ?_, fun k hk j => rfl, fun j => rfl, fun j => rfl, fun j => rfl, fun j => rfl, fun j => rfl, fun j => rfl, fun j => rfl⟩
  · show (if k ∈ rtM then im (S.1 k j) else if k ∈ rtI then S.2.2 k j else i32 (S.1 k j)) = _
    rw [if_neg (hN k hk).1, if_neg (hN k hk).2]
  · show (if k ∈ rtM then im (S.1 k 0) else if k ∈ rtI then S.2.2 k 0 else i32 (S.1 k 0)) = _
    rw [if_neg (hC k hk).1, if_neg (hC k hk).2]
  · show (if k ∈ rtM then im (S.1 k j) else if k ∈ rtI then S.2.2 k j else i32 (S.1 k j)) = _
    rw [if_pos hk]
  · show (if k ∈ rtM then im (S.1 k j) else if k ∈ rtI then S.2.2 k j else i32 (S.1 k j)) = _
    rw [if_neg (hI k hk), if_pos hk]
def Dyl (S S' : ST) (l : Nat) : Prop := (∀ k j, ¬ ((k = 26 ∨ k = 71) ∧ j = l) → S'.1 k j = S.1 k j) ∧ (∀ k j, ¬ (k = 25 ∧ 64 * l ≤ j ∧ j < 64 * l + 64) → S'.2.1 k j = S.2.1 k j) ∧ S'.2.2 = S.2.2
def Hpl (A : AT) (C C' : CT) (l : Nat) : Prop := C'.1 = C.1 ∧ C'.2.1 = C.2.1 ∧ (∀ k a j, ¬ (k = 97 ∧ a = A 67 l) → C'.2.2.1 k a j = C.2.2.1 k a j) ∧ (∀ k a j, ¬ (k = 900 ∧ a = A 68 l) → C'.2.2.2.1 k a j = C.2.2.2.1 k a j) ∧ C'.2.2.2.2 = C.2.2.2.2
theorem Dyl.dy (h : Dyl S S' l) : Dy S S' :=
  ⟨fun k hk => funext fun j => h.1 k j (fun q => hk (by rcases q.1 with rfl | rfl <;> decide)), fun k hk => funext fun j => h.2.1 k j (fun q => hk (by rw [q.1]; decide)), fun k hk => by rw [h.2.2]⟩
theorem ds_same (hdy : Dy S S') (h14 : S'.1 14 s = S.1 14 s) (h70 : S'.1 70 s = S.1 70 s) (h13 : ∀ j, j < 64 → S'.2.1 13 (64 * s + j) = S.2.1 13 (64 * s + j)) (h15 : S'.2.1 15 s = S.2.1 15 s) (h11 : S'.2.2 11 s = S.2.2 11 s) (h12 : S'.2.2 12 s = S.2.2 12 s) (hle : rln S s ≤ 64)
    (c1 : C'.1 = C.1) (c2 : C'.2.1 = C.2.1) (c121 : C'.2.2.1 97 (A 121 s) 0 = C.2.2.1 97 (A 121 s) 0) (c98 : C'.2.2.2.1 900 (A 98 s) 0 = C.2.2.2.1 900 (A 98 s) 0) (c122 : C'.2.2.1 122 (A 7 s) 0 = C.2.2.1 122 (A 7 s) 0) (c123 : C'.2.2.1 123 (A 7 s) 0 = C.2.2.1 123 (A 7 s) 0) (c97 : C'.2.2.1 97 (A 118 s) 0 = C.2.2.1 97 (A 118 s) 0) (c96 : ∀ j, C'.2.2.2.1 900 (A 96 s) j = C.2.2.2.1 900 (A 96 s) j) (hd : Ds S A C s) (hw : Ws S s) : Ds S' A C' s ∧ Ws S' s := by
  obtain ⟨d1, d2, d3, d4, d5⟩ := hd
  obtain ⟨x1, x2, x3, x4, x5, x6⟩ := hw
  refine ⟨⟨?_, ?_, ?_, ?_, ?_⟩, ?_⟩
  · exact ⟨by rw [c121]; exact d1.1, by rw [c98, h15]; exact d1.2⟩
  · rw [c122, h11]; exact d2
  · rw [c123, h12]; exact d3
  · rw [c97, h70]; exact d4
  · rw [dy_rln hdy, h70, h14]
    exact ring_cong d5 (by rw [c1]) (by rw [c2]) (funext c96) (fun j hj => h13 j (by omega))
  · unfold Ws
    rw [dy_rln hdy, dy_vso hdy, hdy.1 2 (by decide), hdy.1 3 (by decide), hdy.2.2 4 (by decide), h14, h15, h70]
    exact ⟨x1, x2, x3, fun j hj => by rw [h13 j hj]; exact x4 j hj, fun j hj hj' => by rw [h13 j hj]; exact x5 j hj hj', fun q => by rw [show 64 * s = 64 * s + 0 from rfl, h13 0 (by decide)]; exact x6 q⟩
theorem jj_lop {i : Nat} (J : JJ G E B bx m ad S A C T) (h0 : c < S.1 16 0) (hi0 : i < S.1 20 c) (hl : l = 3 * c + i) (hS : Dyl S S' l) (hC : Hpl A C C' l) (hD : Dl S' A C' l) (hW : Wl S' c l) (hR : RT S' T') : JJ G E B bx m ad S' A C' T' := by
  have hJ := J
  have hdy := hS.dy
  have ecso := dy_cso hdy
  obtain ⟨⟨w1, w2, w3⟩, ⟨hb, hss, hcc, hx⟩, hRT, hWF, hRK, hRD⟩ := J
  obtain ⟨k1, k2, k3⟩ := hS
  obtain ⟨t1, t2, i1, j1, r1⟩ := hC
  have hi3 : i < 3 := by have := (hWF.2.2.1 c h0).1.2.1; omega
  have h20 : S.1 16 0 ≤ 20 := hWF.1.2.1
  have hq0 : VA S 67 l := by
    show l / 3 < S.1 16 0 ∧ l % 3 < S.1 20 (l / 3)
    rw [show l / 3 = c by omega, show l % 3 = i by omega]; exact ⟨h0, hi0⟩
  have hq1 : VA S 68 l := hq0
  have hlr : RCl S A C l := by rw [hl]; exact (hcc c h0).2.2.2.2 i hi0
  have ne : ∀ {t i t' i'}, VA S t i → VA S t' i' → (t' ≠ t ∨ i' ≠ i) → A t' i' ≠ A t i := fun h1 h2 h3 => ax_t ⟨hb, hss, hcc, hx⟩ h1 h2 h3
  have fJ : ∀ k, k ≠ 25 → S'.2.1 k = S.2.1 k := fun k hk => funext fun j => k2 k j (fun q => hk q.1)
  have fI : ∀ k, k ∉ [26, 71] → S'.1 k = S.1 k := fun k hk => funext fun j => k1 k j (fun q => hk (by rcases q.1 with rfl | rfl <;> decide))
  refine jj_dat hJ hdy ⟨t1, t2, fun k hk => funext fun a => funext fun j => i1 k a j (fun q => hk (by rw [q.1]; decide)), fun k hk => funext fun a => funext fun j => j1 k a j (fun q => hk (by rw [q.1]; decide)),
    fun a ha => funext fun j => j1 900 a j (fun q => ha 68 l hq1 (by decide) q.2), r1, fun a ha k => ⟨funext fun j => i1 k a j (fun q => ?_), funext fun j => j1 k a j (fun q => ?_)⟩⟩ (fun s' h => ?_) (fun c' h => ?_) ⟨fun s' h1 h2 j hj => ?_, fun c' h1 h2 => ⟨fun j hj => ?_, fun j hj => ?_⟩, fun j hj => ?_, fun j hj => ?_⟩ hR
  · rw [q.2, hlr.2.1] at ha; exact absurd ha (by decide)
  · rw [q.2, hlr.2.2.2.2.1] at ha; exact absurd ha (by decide)
  · have e118 : A 118 s' ≠ A 67 l := ne hq0 (show VA S 118 s' from h) (by omega)
    have e96 : A 96 s' ≠ A 68 l := ne hq1 (show VA S 96 s' from h) (by omega)
    have e98 : A 98 s' ≠ A 68 l := ne hq1 (show VA S 98 s' from h) (by omega)
    have e121 : A 121 s' ≠ A 67 l := ne hq0 (show VA S 121 s' from h) (by omega)
    exact ds_same hdy (by rw [fI 14 (by decide)]) (by rw [fI 70 (by decide)]) (fun j _ => by rw [fJ 13 (by decide)]) (by rw [fJ 15 (by decide)]) (by rw [k3]) (by rw [k3]) (rln_le hJ h) t1 t2 (i1 97 _ _ (fun q => e121 q.2)) (j1 900 _ _ (fun q => e98 q.2)) (i1 122 _ _ (fun q => absurd q.1 (by decide))) (i1 123 _ _ (fun q => absurd q.1 (by decide))) (i1 97 _ _ (fun q => e118 q.2)) (fun j => j1 900 _ _ (fun q => e96 q.2)) (ds_of (hss s' h)) (ws_of (hWF.2.1 s' h))
  · obtain ⟨d1, d2, d3, d4⟩ := dc_of (hcc c' h)
    have wc := hWF.2.2.1 c' h
    obtain ⟨x1, x2, x3⟩ := wc_of wc
    have e21 : A 21 c' ≠ A 68 l := ne hq1 (show VA S 21 c' from h) (by omega)
    refine ⟨⟨?_, ?_, ?_, fun j hj => ?_⟩, ?_, fun i' hi' => ?_⟩
    · rw [i1 22 _ _ (fun q => absurd q.1 (by decide)), fI 28 (by decide)]; exact d1
    · rw [i1 23 _ _ (fun q => absurd q.1 (by decide)), fI 28 (by decide)]; exact d2
    · rw [i1 24 _ _ (fun q => absurd q.1 (by decide)), fI 28 (by decide)]; exact d3
    · rw [j1 900 _ _ (fun q => e21 q.2), fJ 27 (by decide)]; exact d4 j hj
    · unfold Wc
      rw [fI 28 (by decide), fJ 27 (by decide), ecso, hdy.1 17 (by decide)]
      refine ⟨fun q => ⟨(x1 q).1, fun j hj => ?_, (x1 q).2.2⟩, x2, x3⟩
      by_cases e : c' = c
      · subst e
        have := (wc.2.2.2.1 q).1
        omega
      · rw [k2 25 _ (fun q => by omega)]; exact (x1 q).2.1 j hj
    · have hi3' : i' < 3 := by have := wc.1.2.1; omega
      have hq : VA S 67 (3 * c' + i') := by
        show (3 * c' + i') / 3 < S.1 16 0 ∧ (3 * c' + i') % 3 < S.1 20 ((3 * c' + i') / 3)
        rw [show (3 * c' + i') / 3 = c' by omega, show (3 * c' + i') % 3 = i' by omega]; exact ⟨h, hi'⟩
      have hq' : VA S 68 (3 * c' + i') := hq
      by_cases e : 3 * c' + i' = l
      · have ec : c' = c := by omega
        rw [e, ec]; exact ⟨hD, hW⟩
      · obtain ⟨l1, l2⟩ := dl_of ((hcc c' h).2.2.2.2 i' hi')
        have n67 : A 67 (3 * c' + i') ≠ A 67 l := ne hq0 hq (Or.inr e)
        have n68 : A 68 (3 * c' + i') ≠ A 68 l := ne hq1 hq' (Or.inr e)
        have f71 : S'.1 71 (3 * c' + i') = S.1 71 (3 * c' + i') := k1 71 _ (fun q => e q.2)
        have f26 : S'.1 26 (3 * c' + i') = S.1 26 (3 * c' + i') := k1 26 _ (fun q => e q.2)
        have f25 : ∀ j, j < 64 → S'.2.1 25 (64 * (3 * c' + i') + j) = S.2.1 25 (64 * (3 * c' + i') + j) := fun j hj => k2 25 _ (fun q => by omega)
        have wl := wc.2.2.2.2.1 i' hi'
        refine ⟨⟨?_, ?_⟩, ?_⟩
        · rw [i1 97 _ _ (fun q => n67 q.2), f71]; exact l1
        · rw [hdy.1 23 (by decide), f71, f26]
          have := wl.2.2.2.1
          exact ring_cong l2 (by rw [t1]) (by rw [t2]) (funext fun j => j1 900 _ j (fun q => n68 q.2)) (fun j hj => f25 j (by omega))
        · unfold Wl
          rw [hdy.1 23 (by decide), f26, ecso]
          exact ⟨(wl_of wl).1, fun j hj => by rw [f25 j hj]; exact (wl_of wl).2 j hj⟩
  · rw [fJ 13 (by decide)]; exact (hWF.2.2.2.1 s' h1 h2).1 j hj
  · rw [k2 25 _ (fun q => by omega)]; exact (hWF.2.2.2.2.1 c' h1 h2).2.2.2.1 j hj
  · rw [fJ 27 (by decide)]; exact (hWF.2.2.2.2.1 c' h1 h2).2.2.2.2.1 j hj
  · rw [k2 25 _ (fun q => by omega)]; exact hWF.2.2.2.2.2.2.2.1 j hj
  · rw [fJ 27 (by decide)]; exact hWF.2.2.2.2.2.2.2.2 j hj
def Dyc (S S' : ST) (c : Nat) : Prop := (∀ k j, ¬ (k = 28 ∧ j = c) → S'.1 k j = S.1 k j) ∧ (∀ k j, ¬ (k = 27 ∧ 400 * c ≤ j ∧ j < 400 * c + 400) → S'.2.1 k j = S.2.1 k j) ∧ S'.2.2 = S.2.2
def Hpc (A : AT) (C C' : CT) (c : Nat) : Prop := C'.1 = C.1 ∧ C'.2.1 = C.2.1 ∧ (∀ k a j, ¬ ((k = 22 ∨ k = 23 ∨ k = 24) ∧ a = A 1 c) → C'.2.2.1 k a j = C.2.2.1 k a j) ∧ (∀ k a j, ¬ (k = 900 ∧ a = A 21 c) → C'.2.2.2.1 k a j = C.2.2.2.1 k a j) ∧ C'.2.2.2.2 = C.2.2.2.2
theorem Dyc.dy (h : Dyc S S' c) : Dy S S' :=
  ⟨fun k hk => funext fun j => h.1 k j (fun q => hk (by rw [q.1]; decide)), fun k hk => funext fun j => h.2.1 k j (fun q => hk (by rw [q.1]; decide)), fun k hk => by rw [h.2.2]⟩
theorem jj_out (J : JJ G E B bx m ad S A C T) (h0 : c < S.1 16 0) (hS : Dyc S S' c) (hC : Hpc A C C' c) (hD : Dc S' A C' c) (hW : Wc E S' c) (hR : RT S' T') : JJ G E B bx m ad S' A C' T' := by
  have hJ := J
  have hdy := hS.dy
  have ecso := dy_cso hdy
  obtain ⟨⟨w1, w2, w3⟩, ⟨hb, hss, hcc, hx⟩, hRT, hWF, hRK, hRD⟩ := J
  obtain ⟨k1, k2, k3⟩ := hS
  obtain ⟨t1, t2, i1, j1, r1⟩ := hC
  have h20 : S.1 16 0 ≤ 20 := hWF.1.2.1
  have hcr := hcc c h0
  have ne : ∀ {t i t' i'}, VA S t i → VA S t' i' → (t' ≠ t ∨ i' ≠ i) → A t' i' ≠ A t i := fun h1 h2 h3 => ax_t ⟨hb, hss, hcc, hx⟩ h1 h2 h3
  have fJ : ∀ k, k ≠ 27 → S'.2.1 k = S.2.1 k := fun k hk => funext fun j => k2 k j (fun q => hk q.1)
  have fI : ∀ k, k ≠ 28 → S'.1 k = S.1 k := fun k hk => funext fun j => k1 k j (fun q => hk q.1)
  have gI : ∀ k a j, k ∉ [22, 23, 24] → C'.2.2.1 k a j = C.2.2.1 k a j := fun k a j hk => i1 k a j (fun q => hk (by rcases q.1 with rfl | rfl | rfl <;> decide))
  refine jj_dat hJ hdy ⟨t1, t2, fun k hk => funext fun a => funext fun j => i1 k a j (fun q => hk (by rcases q.1 with rfl | rfl | rfl <;> decide)), fun k hk => funext fun a => funext fun j => j1 k a j (fun q => hk (by rw [q.1]; decide)),
    fun a ha => funext fun j => j1 900 a j (fun q => ha 21 c h0 (by decide) q.2), r1, fun a ha k => ⟨funext fun j => i1 k a j (fun q => ?_), funext fun j => j1 k a j (fun q => ?_)⟩⟩ (fun s' h => ?_) (fun c' h => ?_) ⟨fun s' h1 h2 j hj => ?_, fun c' h1 h2 => ⟨fun j hj => ?_, fun j hj => ?_⟩, fun j hj => ?_, fun j hj => ?_⟩ hR
  · rw [q.2, hcr.1.1] at ha; exact absurd ha (by decide)
  · rw [q.2, hcr.2.2.2.1.1] at ha; exact absurd ha (by decide)
  · have e96 : A 96 s' ≠ A 21 c := ne (show VA S 21 c from h0) (show VA S 96 s' from h) (by omega)
    have e98 : A 98 s' ≠ A 21 c := ne (show VA S 21 c from h0) (show VA S 98 s' from h) (by omega)
    exact ds_same hdy (by rw [fI 14 (by decide)]) (by rw [fI 70 (by decide)]) (fun j _ => by rw [fJ 13 (by decide)]) (by rw [fJ 15 (by decide)]) (by rw [k3]) (by rw [k3]) (rln_le hJ h) t1 t2 (gI 97 _ _ (by decide)) (j1 900 _ _ (fun q => e98 q.2)) (gI 122 _ _ (by decide)) (gI 123 _ _ (by decide)) (gI 97 _ _ (by decide)) (fun j => j1 900 _ _ (fun q => e96 q.2)) (ds_of (hss s' h)) (ws_of (hWF.2.1 s' h))
  · have wc := hWF.2.2.1 c' h
    refine ⟨?_, ?_, fun i' hi' => ?_⟩
    · by_cases e : c' = c
      · rw [e]; exact hD
      · obtain ⟨d1, d2, d3, d4⟩ := dc_of (hcc c' h)
        have e1 : A 1 c' ≠ A 1 c := ne (show VA S 1 c from h0) (show VA S 1 c' from h) (Or.inr e)
        have e21 : A 21 c' ≠ A 21 c := ne (show VA S 21 c from h0) (show VA S 21 c' from h) (Or.inr e)
        have f28 : S'.1 28 c' = S.1 28 c' := k1 28 c' (fun q => e q.2)
        refine ⟨?_, ?_, ?_, fun j hj => ?_⟩
        · rw [i1 22 _ _ (fun q => e1 q.2), f28]; exact d1
        · rw [i1 23 _ _ (fun q => e1 q.2), f28]; exact d2
        · rw [i1 24 _ _ (fun q => e1 q.2), f28]; exact d3
        · rw [j1 900 _ _ (fun q => e21 q.2), k2 27 _ (fun q => by omega)]; exact d4 j hj
    · by_cases e : c' = c
      · rw [e]; exact hW
      · obtain ⟨x1, x2, x3⟩ := wc_of wc
        have f28 : S'.1 28 c' = S.1 28 c' := k1 28 c' (fun q => e q.2)
        unfold Wc
        rw [f28, fJ 25 (by decide), ecso, hdy.1 17 (by decide)]
        exact ⟨fun q => ⟨(x1 q).1, (x1 q).2.1, fun j hj => by rw [k2 27 _ (fun q => by omega)]; exact (x1 q).2.2 j hj⟩, fun j hj => by rw [k2 27 _ (fun q => by omega)]; exact x2 j hj, x3⟩
    · have hi3' : i' < 3 := by have := wc.1.2.1; omega
      have hq : VA S 68 (3 * c' + i') := by
        show (3 * c' + i') / 3 < S.1 16 0 ∧ (3 * c' + i') % 3 < S.1 20 ((3 * c' + i') / 3)
        rw [show (3 * c' + i') / 3 = c' by omega, show (3 * c' + i') % 3 = i' by omega]; exact ⟨h, hi'⟩
      obtain ⟨l1, l2⟩ := dl_of ((hcc c' h).2.2.2.2 i' hi')
      have n68 : A 68 (3 * c' + i') ≠ A 21 c := ne (show VA S 21 c from h0) hq (by omega)
      refine ⟨⟨?_, ?_⟩, ?_⟩
      · rw [gI 97 _ _ (by decide), fI 71 (by decide)]; exact l1
      · rw [fI 23 (by decide), fI 71 (by decide), fI 26 (by decide), fJ 25 (by decide)]
        exact ring_cong l2 (by rw [t1]) (by rw [t2]) (funext fun j => j1 900 _ j (fun q => n68 q.2)) (fun j _ => rfl)
      · unfold Wl
        rw [fI 23 (by decide), fI 26 (by decide), fJ 25 (by decide), ecso]
        exact wl_of (wc.2.2.2.2.1 i' hi')
  · rw [fJ 13 (by decide)]; exact (hWF.2.2.2.1 s' h1 h2).1 j hj
  · rw [fJ 25 (by decide)]; exact (hWF.2.2.2.2.1 c' h1 h2).2.2.2.1 j hj
  · rw [k2 27 _ (fun q => by omega)]; exact (hWF.2.2.2.2.1 c' h1 h2).2.2.2.2.1 j hj
  · rw [fJ 25 (by decide)]; exact hWF.2.2.2.2.2.2.2.1 j hj
  · rw [k2 27 _ (fun q => by omega)]; exact hWF.2.2.2.2.2.2.2.2 j hj
/-- the tree's row of the class holds what it will -/
theorem jj_tree {j : Nat} {x : Option Nat} (J : JJ G E B bx m ad S A C T) : JJ G E B bx m ad S A (csA C 900 (A 3 3) j x) T := by
  have hJ := J
  obtain ⟨⟨w1, w2, w3⟩, ⟨hb, hss, hcc, hx⟩, hRT, hWF, hRK, hRD⟩ := J
  have t33 : C.1 (A 3 3) = 31 := hb.2.2.2.2.2.2.1.1
  have ne : ∀ t i, VA S t i → ¬ (t = 3 ∧ i = 3) → Ag C (csA C 900 (A 3 3) j x) (A t i) := fun t i h hn => ag_csA (Ag.refl _ _) (ax_t ⟨hb, hss, hcc, hx⟩ (show VA S 3 3 from (by decide : 3 < 4)) h (by omega))
  have hbx : bx ≠ A 3 3 := fun q => by have := hb.1.1; rw [q, t33] at this; exact absurd this (by decide)
  refine ⟨⟨cw_csA w1 (by rw [t33]; decide), w2, fun z hz => ?_⟩, ⟨?_, fun s h => ?_, fun c h => ?_, hx⟩, hRT, hWF, ?_, ?_⟩
  · rw [(ne 2 0 rfl (by omega)).2.2.2.2.1 37] at hz
    exact w3 z hz
  · have hA : ∀ i, i < 3 → Ag C (csA C 900 (A 3 3) j x) (A 3 i) := fun i hi => ne 3 i (show i < 4 by omega) (by omega)
    have h37 : ∀ k, k ≠ 900 → ∀ a, (csA C 900 (A 3 3) j x).2.2.2.2.1 k a = C.2.2.2.2.1 k a := fun k hk a => funext fun y => by simp [csA, up3, hk]
    unfold RCb at hb ⊢
    rw [h37 0 (by decide), h37 1 (by decide), h37 2 (by decide), h37 3 (by decide), h37 5 (by decide), h37 7 (by decide), h37 9 (by decide), h37 10 (by decide), (hA 0 (by decide)).2.2.2.2.1 900, (hA 1 (by decide)).2.2.2.2.1 900, (hA 2 (by decide)).2.2.2.2.1 900]
    exact hb
  · refine RCs_ag (S := S) (A := A) (C := C) ⟨fun _ _ => rfl, fun _ _ => rfl, rfl, rfl, rfl⟩ (fun t ht => ⟨rfl, ?_⟩) rfl rfl rfl (hss s h)
    simp only [List.mem_cons, List.not_mem_nil, or_false] at ht
    rcases ht with rfl | rfl | rfl | rfl | rfl | rfl <;> exact ne _ s h (by omega)
  · have wc := hWF.2.2.1 c h
    refine RCc_ag (S := S) (A := A) (C := C) (fun _ _ => rfl) (fun p _ => ⟨rfl, rfl⟩) rfl (fun t ht => ⟨rfl, ?_⟩) rfl (fun _ _ => rfl) (fun i hi => ?_) (hcc c h)
    · simp only [List.mem_cons, List.not_mem_nil, or_false] at ht
      rcases ht with rfl | rfl | rfl | rfl <;> exact ne _ c h (by omega)
    · have hi3 : i < 3 := by have := wc.1.2.1; omega
      have hq : (3 * c + i) / 3 < S.1 16 0 ∧ (3 * c + i) % 3 < S.1 20 ((3 * c + i) / 3) := by
        rw [show (3 * c + i) / 3 = c by omega, show (3 * c + i) % 3 = i by omega]; exact ⟨h, hi⟩
      refine RCl_ag (S := S) (A := A) (C := C) (fun _ _ => rfl) rfl rfl (fun t ht => ⟨rfl, ?_⟩) ((hcc c h).2.2.2.2 i hi)
      simp only [List.mem_cons, List.not_mem_nil, or_false] at ht
      rcases ht with rfl | rfl | rfl <;> exact ne _ _ hq (by omega)
  · refine RK_ag (S := S) (A := A) (C := C) ⟨fun _ _ => rfl, fun _ _ => rfl, Nat.le_refl _, fun c hc => ⟨Nat.le_refl _, Nat.le_refl _, fun _ _ => ⟨rfl, ⟨rfl, rfl, rfl⟩, Or.inr rfl⟩, fun _ _ => rfl⟩⟩ (fun t ht k hk => ⟨rfl, ?_⟩) (fun _ _ => rfl) hRK
    simp only [List.mem_cons, List.not_mem_nil, or_false] at ht
    rcases ht with rfl | rfl | rfl <;> exact ne _ k hk (by omega)
  · refine RD_ag (A := A) (C := C) ⟨rfl, ne 2 0 rfl (by omega)⟩ (fun hn i hi => ⟨rfl, ?_⟩) hRD
    have e : i = 1 ∨ i = 2 := by simpa using hi
    exact ne 0 i (show i < 3 by omega) (by omega)
end DATB
