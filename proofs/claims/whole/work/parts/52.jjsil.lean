section JJSIL
variable {G : GT} {E B bx m : Nat} {ad : Nat → Nat} {S : ST} {A : AT} {C : CT} {T : MT} {c s : Nat}
def slC (C : CT) (a7 a96 n : Nat) : CT := fiC (csJ C 121 a7 0 0) a96 0 n 0
theorem silence_of (J : JJ G E B bx m ad S A C T) (hs : s < S.1 1 0) {N : Nat} (hN : 100 ≤ N) : c_Section_silence N (A 7 s) C = some (slC C (A 7 s) (A 96 s) (rln S s)) := by
  have hr := jj_s J hs
  have hle := rln_le J hs
  unfold c_Section_silence
  rw [cpJ_of (ci := 7) (rs_tag hr) (by decide) (by decide), obd_some]
  have e1 : cgA (csJ C (16 * 7 + 9) (A 7 s) 0 0) (A 7 s) 7 6 = some (some (A 118 s)) := (show cgA C (A 7 s) 7 6 = some (some (A 118 s)) from rs_states hr)
  have t118 : C.1 (A 118 s) = 7 := hr.2.2.2.1
  rw [e1, obd_some, obd_some, cob_of (ci := 6) (show (csJ C (16 * 7 + 9) (A 7 s) 0 0).1 (A 118 s) = 6 + 1 from t118), jgd_true, rowClear_of (len := rln S s) (by omega) (by omega) (show (csJ C (16 * 7 + 9) (A 7 s) 0 0).1 (A 118 s) = 7 from t118) hr.2.2.2.2.1 (show C.1 (A 96 s) = 21 from hr.2.2.2.2.2.2.1) (show C.2.1 (A 96 s) = rln S s from hr.2.2.2.2.2.2.2.1), obd_some]
  rfl
theorem jj_silence (J : JJ G E B bx m ad S A C T) (hs : s < S.1 1 0) : JJ G E B bx m ad (slS S s) A (slC C (A 7 s) (A 96 s) (rln S s)) (tsJ (tsI (zD T 13 (64 * s) (64 * s + 64)) 14 s 0) 15 s 0) := by
  have hJ := J
  obtain ⟨⟨w1, w2, w3⟩, ⟨hb, hss, hcc, hx⟩, hRT, hWF, hRK, hRD⟩ := J
  have hsr := hss s hs
  have k : ∀ k, k ≠ 14 → (slS S s).1 k = S.1 k := fun k h => slS_k h
  have j : ∀ k, k ≠ 15 → k ≠ 13 → (slS S s).2.1 k = S.2.1 k := fun k h h' => slS_J h h'
  have va : ∀ t i, VA (slS S s) t i = VA S t i := fun t i => by unfold VA; rw [k 1 (by decide), k 16 (by decide), k 20 (by decide), k 44 (by decide)]
  have ne : ∀ {t i t' i'}, VA S t i → VA S t' i' → (t' ≠ t ∨ i' ≠ i) → A t' i' ≠ A t i := fun h1 h2 h3 => ax_t ⟨hb, hss, hcc, hx⟩ h1 h2 h3
  have hag : ∀ a, a ≠ A 7 s → a ≠ A 96 s → Ag C (slC C (A 7 s) (A 96 s) (rln S s)) a := fun a h1 h2 => ag_fiC (ag_csJ (Ag.refl C a) h1) h2
  have hagA : ∀ t i, VA S t i → ¬ (t = 7 ∧ i = s) → ¬ (t = 96 ∧ i = s) → Ag C (slC C (A 7 s) (A 96 s) (rln S s)) (A t i) := fun t i h h1 h2 => hag _ (ne (show VA S 7 s from hs) h (by omega)) (ne (show VA S 96 s from hs) h (by omega))
  have hbx : Ag C (slC C (A 7 s) (A 96 s) (rln S s)) bx := hag _ (fun q => by have := hb.1.1; rw [q, hsr.1.1] at this; exact absurd this (by decide)) (fun q => by have := hb.1.1; rw [q, hsr.2.2.2.2.2.2.1] at this; exact absurd this (by decide))
  have hmem : ∀ k, k ∈ [44, 45, 47, 50, 51, 52, 53, 72, 73] → k ≠ 14 := by decide
  refine ⟨⟨?_, w2, fun z hz => ?_⟩, ⟨?_, fun s' h => ?_, fun c' h => ?_, ?_⟩, rt_sl hRT, WF_sl hWF, ?_, ?_⟩
  · exact cw_fiC (cw_csJ w1 (by rw [hsr.1.1]; decide)) (by show C.1 (A 96 s) ≠ 0; rw [hsr.2.2.2.2.2.2.1]; decide)
  · rw [(hagA 2 0 rfl (by omega) (by omega)).2.2.2.2.1] at hz
    rw [k 1 (by decide), k 16 (by decide), k 44 (by decide), k 20 (by decide)]
    exact w3 z hz
  · have hA : ∀ i, i < 4 → Ag C (slC C (A 7 s) (A 96 s) (rln S s)) (A 3 i) := fun i hi => hagA 3 i hi (by omega) (by omega)
    refine RCb_of hb hbx.1 (fun k _ => congrFun (hbx.2.2.2.2.1 k) 0) ?_ ?_ ?_ (fun _ => rfl) (fun _ => rfl) rfl (fun i hi => hagA 5 i hi (by omega) (by omega)) (fun i hi => ⟨(hA i hi).1, (hA i hi).2.1⟩) rfl (fun x h => ?_) (fun x h => ?_) (fun x h => ?_)
    · rw [k 1 (by decide)]; exact hb.2.1.1
    · rw [k 16 (by decide)]; exact hb.2.1.2.1
    · rw [k 44 (by decide)]; exact hb.2.1.2.2
    · rw [k 1 (by decide)]; exact hb.2.2.2.1.2.2 x h
    · rw [k 16 (by decide)]; exact hb.2.2.2.2.1.2.2 x h
    · rw [k 44 (by decide)]; exact hb.2.2.2.2.2.1.2.2 x h
  · rw [k 1 (by decide)] at h
    by_cases e : s' = s
    · subst e
      obtain ⟨f7, ⟨g2, g3, g4, g5, g6, g7, g8, g9⟩, gF, gR⟩ := hsr
      have n117 : A 117 s' ≠ A 96 s' := ne (show VA S 96 s' from hs) (show VA S 117 s' from hs) (by omega)
      have n7 : A 7 s' ≠ A 96 s' := ne (show VA S 96 s' from hs) (show VA S 7 s' from hs) (by omega)
      unfold RCs
      rw [slS_rln, k 2 (by decide), k 3 (by decide), k 5 (by decide), k 6 (by decide), k 8 (by decide), k 9 (by decide), k 10 (by decide), k 70 (by decide), slS_14s, slS_15s, j 7 (by decide) (by decide)]
      refine ⟨f7, ⟨g2, g3, ?_, g5, g6, g7, g8, g9⟩, ⟨gF.1, gF.2.1, fun y hy => ?_⟩, gR.1, gR.2.1, gR.2.2.1, ?_⟩
      · simp [slC, fiC, csJ, up3]
      · rw [← gF.2.2 y hy]; simp [slC, fiC, csJ, up3, n117]
      · have r := ring_clear (C := csJ C 121 (A 7 s') 0 0) (show ring (csJ C 121 (A 7 s') 0 0) (A 96 s') (rln S s') (S.1 70 s') (S.2.1 13) (64 * s') (S.1 14 s') from ⟨gR.2.2.2.1, gR.2.2.2.2.1, gR.2.2.2.2.2.1, gR.2.2.2.2.2.2.1, fun y hy => by rw [← gR.2.2.2.2.2.2.2 y hy]; simp [csJ, up3]⟩)
        refine ⟨r.1, r.2.1, r.2.2.1, Or.inl rfl, fun y hy => (r.2.2.2.2 y hy).trans ?_⟩
        have := rln_le hJ hs
        have := Nat.mod_lt (0 + y) (show 0 < rln S s' by omega)
        rw [slS_13s (by omega)]
    · have w := RCs_ag (S := S) (S' := ((slS S s).1, (fun x y => if x = 13 then S.2.1 13 y else (slS S s).2.1 x y), (slS S s).2.2)) (A := A) (A' := A) (C := C) (C' := slC C (A 7 s) (A 96 s) (rln S s)) ⟨fun x hx => by
          by_cases q : x = 14
          · subst q; exact slS_14 e
          · exact congrFun (k x q) _, fun _ _ => rfl, slS_15 e, j 7 (by decide) (by decide), rfl⟩ (fun t ht => ⟨rfl, by
          simp only [List.mem_cons, List.not_mem_nil, or_false] at ht
          rcases ht with rfl | rfl | rfl | rfl <;> exact hagA _ s' h (by omega) (by omega)⟩) rfl rfl rfl (hss s' h)
      obtain ⟨w1, w2, w3, w4, w5, w6, r1, r2, r3, r4, r5⟩ := w
      refine ⟨w1, w2, w3, w4, w5, w6, r1, r2, r3, r4, fun y hy => (r5 y hy).trans ?_⟩
      have hle : rln (slS S s) s' ≤ 64 := by rw [slS_rln]; exact rln_le hJ h
      have hy' : y < rln (slS S s) s' := hy
      have := Nat.mod_lt ((slS S s).1 14 s' + y) (show 0 < rln (slS S s) s' by omega)
      exact (slS_13 (S := S) (s := s) (j := 64 * s' + ((slS S s).1 14 s' + y) % rln (slS S s) s') (by omega)).symm
  · rw [k 16 (by decide)] at h
    have hne : ∀ l : List Nat, 14 ∉ l → ∀ x, x ∈ l → x ≠ 14 := fun l h x hx q => h (q ▸ hx)
    have wc := hWF.2.2.1 c' h
    refine RCc_ag (S := S) (A := A) (C := C) (fun x hx => by rw [k x (hne _ (by decide) x hx)]) (fun p _ => ⟨by rw [k 18 (by decide)], rfl⟩) (j 27 (by decide) (by decide)) (fun t ht => ⟨rfl, ?_⟩) rfl (fun _ _ => rfl) (fun i hi => ?_) (hcc c' h)
    · simp only [List.mem_cons, List.not_mem_nil, or_false] at ht
      rcases ht with rfl | rfl | rfl | rfl <;> exact hagA _ c' h (by omega) (by omega)
    · have hi3 : i < 3 := by have := wc.1.2.1; omega
      have hq : (3 * c' + i) / 3 < S.1 16 0 ∧ (3 * c' + i) % 3 < S.1 20 ((3 * c' + i) / 3) := by
        rw [show (3 * c' + i) / 3 = c' by omega, show (3 * c' + i) % 3 = i by omega]; exact ⟨h, hi⟩
      refine RCl_ag (S := S) (A := A) (C := C) (fun x hx => by rw [k x (hne _ (by decide) x hx)]) (by rw [j 24 (by decide) (by decide)]) (j 25 (by decide) (by decide)) (fun t ht => ⟨rfl, ?_⟩) ((hcc c' h).2.2.2.2 i hi)
      simp only [List.mem_cons, List.not_mem_nil, or_false] at ht
      rcases ht with rfl | rfl | rfl <;> exact hagA _ _ hq (by omega) (by omega)
  · intro t i t' i' h h'
    rw [va] at h h'
    exact hx t i t' i' h h'
  · refine RK_ag (S := S) (A := A) (C := C) ⟨fun x hx => k x (hmem x hx), fun x hx => j x (fun q => by subst q; revert hx; decide) (fun q => by subst q; revert hx; decide), by rw [k 16 (by decide)]; exact Nat.le_refl _, fun x h => ⟨by rw [k 17 (by decide)]; exact Nat.le_refl _, by rw [k 20 (by decide)]; exact Nat.le_refl _, fun p hp => ⟨by rw [k 18 (by decide)], ⟨by rw [k 2 (by decide)], by rw [k 3 (by decide)], rfl⟩, Or.inr (by rw [k 10 (by decide)])⟩, fun i _ => by rw [k 23 (by decide)]⟩⟩ (fun t ht x hk => ⟨rfl, ?_⟩) (fun _ _ => rfl) hRK
    simp only [List.mem_cons, List.not_mem_nil, or_false] at ht
    rcases ht with rfl | rfl | rfl <;> exact hagA _ x hk (by omega) (by omega)
  · refine RD_ag (A := A) (C := C) ⟨rfl, hagA 2 0 rfl (by omega) (by omega)⟩ (fun hn i hi => ⟨rfl, ?_⟩) hRD
    have e : i = 1 ∨ i = 2 := by simpa using hi
    exact hagA 0 i (show i < 3 by omega) (by omega) (by omega)
end JJSIL
