/-! dead cycles: what is found, the calls -/
section SIMCYC
variable {E B bx m Z : Nat} {ad : Nat → Nat} {S : ST} {A A' : AT} {C C' : CT} {T T' : MT} {f : Nat → Nat} {D o t : Nat} {F : Int64} {r l : Int32}
/-- only the tables and the count found change -/
def W3 (D o t : Nat) (C C' : CT) : Prop := C'.1 = C.1 ∧ C'.2.1 = C.2.1 ∧ (∀ k x j, ¬ (k = 900 ∧ x = o) → ¬ (k = 36 ∧ x = D) → C'.2.2.1 k x j = C.2.2.1 k x j) ∧ (∀ k x j, ¬ (k = 900 ∧ x = t) → C'.2.2.2.1 k x j = C.2.2.2.1 k x j) ∧ C'.2.2.2.2 = C.2.2.2.2
theorem W3.refl : W3 D o t C C := ⟨rfl, rfl, fun _ _ _ _ _ => rfl, fun _ _ _ _ => rfl, rfl⟩
theorem W3.trans {C'' : CT} (h : W3 D o t C C') (h' : W3 D o t C' C'') : W3 D o t C C'' := ⟨h'.1.trans h.1, h'.2.1.trans h.2.1, fun k x j q q' => (h'.2.2.1 k x j q q').trans (h.2.2.1 k x j q q'), fun k x j q => (h'.2.2.2.1 k x j q).trans (h.2.2.2.1 k x j q), h'.2.2.2.2.trans h.2.2.2.2⟩
theorem W2.w3 (h : W2 o t C C') : W3 D o t C C' := ⟨h.1, h.2.1, fun k x j q _ => h.2.2.1 k x j q, h.2.2.2.1, h.2.2.2.2⟩
theorem w3_36 {x : Int32} : W3 D o t C (csI C 36 D 0 x) := ⟨rfl, rfl, fun k y z _ q => by
  simp only [csI, up3]
  rw [if_neg (fun w => q ⟨w.1, w.2.1⟩)], fun _ _ _ _ => rfl, rfl⟩
theorem cd_w3 (h : CD C D o t F r l) (w : W3 D o t C C') : CD C' D o t F r l := by
  obtain ⟨⟨h1, h2, h3, h4, h5, h6⟩, h7, h8⟩ := h
  exact ⟨⟨by rw [w.1]; exact h1, by rw [w.2.2.2.1 33 D 0 (fun z => absurd z.1 (by decide))]; exact h2, by rw [w.2.2.1 34 D 0 (fun z => absurd z.1 (by decide)) (fun z => absurd z.1 (by decide))]; exact h3, by rw [w.2.2.1 35 D 0 (fun z => absurd z.1 (by decide)) (fun z => absurd z.1 (by decide))]; exact h4, by rw [w.2.2.2.2]; exact h5, by rw [w.2.2.2.2]; exact h6⟩, by rw [w.1, w.2.1]; exact h7, by rw [w.1, w.2.1]; exact h8⟩
theorem tl_pos (hZ : Z = 65536) {n : Nat} {s : QS} (h : QI Z n s) {w : Nat} (hw : w < s.2.1) : s.2.2.2.1 w + 4294967296 * s.2.2.2.2 w < 2 ^ 63 ∧ tl s.2.2.2.1 s.2.2.2.2 w ≠ 0 := by
  have h4 := h.2.2.2.1 w hw
  have h5 := h.2.2.2.2 w hw
  have h6 := cnt_full (g := fun i => decide (s.1 i ≠ 0)) (n := Z)
  have hb : s.2.2.2.1 w + 4294967296 * s.2.2.2.2 w < 2 ^ 63 := by omega
  refine ⟨hb, fun z => ?_⟩
  have := (j64_inj (a := s.2.2.2.1 w + 4294967296 * s.2.2.2.2 w) (b := 0) (by omega) (by decide)).mp z
  omega
/-- the tables of a run, put together -/
def GT0 (Z : Nat) (s : QS) (fo : Int32) (ow : Nat → Int32) (ta : Nat → Int64) : Prop := fo = i32 (cnt (isL Z s) Z) ∧ ∀ v, v < Z → isL Z s v = true → ow (cnt (isL Z s) v) = i32 v ∧ ta (cnt (isL Z s) v) = tl s.2.2.2.1 s.2.2.2.2 (s.1 v - (Z + 1))
def GG : GT := fun F r l fo ow ta => ∀ Z, Z = 65536 → GT0 Z (rnf Z (nx F r l) Z) fo ow ta
theorem gat7_go {N : Nat} (hZ : Z = 65536) {s : QS} (hq : QI Z Z s) {C0 : CT} (hC0 : ∀ w, w < s.2.1 → C0.2.2.2.1 900 t (s.2.2.1 w) = tl s.2.2.2.1 s.2.2.2.2 w) (hC1 : ∀ i, i < Z → (∀ w, w < s.2.1 → s.2.2.1 w ≠ i) → C0.2.2.2.1 900 t i = 0) : ∀ (q g i : Nat) (C : CT), CD C D o t F r l → C.2.2.1 36 D 0 = i32 (cnt (isL Z s) i) → (∀ j, i ≤ j → j < Z → C.2.2.2.1 900 t j = C0.2.2.2.1 900 t j) → (∀ v, v < i → isL Z s v = true → C.2.2.1 900 o (cnt (isL Z s) v) = i32 v ∧ C.2.2.2.1 900 t (cnt (isL Z s) v) = tl s.2.2.2.1 s.2.2.2.2 (s.1 v - (Z + 1))) → i + q = Z → q < g →
    ∃ C', c_DeadCycles_gatherFound_7 N g D (i32 i) C = some C' ∧ W3 D o t C C' ∧ GT0 Z s (C'.2.2.1 36 D 0) (C'.2.2.1 900 o) (C'.2.2.2.1 900 t)
  | 0, 0, _, _, _, _, _, _, _, h => absurd h (by omega)
  | 0, g + 1, i, C, hd, h36, hb, ha, hi, _ => by
    have : i = Z := by omega
    subst this
    refine ⟨C, ?_, W3.refl, h36, ha⟩
    unfold c_DeadCycles_gatherFound_7
    rw [if_pos (by rw [show (65536 : Int32) = i32 65536 from rfl, i32_le (by omega) (by omega)]; omega)]
  | q + 1, 0, _, _, _, _, _, _, _, h => absurd h (by omega)
  | q + 1, g + 1, i, C, hd, h36, hb, ha, hi, hqq => by
    have hiZ : i < Z := by omega
    have hct := cnt_full (g := isL Z s) (n := i)
    have e1 : cnt (isL Z s) (i + 1) = cnt (isL Z s) i + (if isL Z s i then 1 else 0) := rfl
    by_cases hl : isL Z s i = true
    · obtain ⟨w, w1, w2⟩ := (isL_iff hq hiZ).mp hl
      have htl : C.2.2.2.1 900 t i = tl s.2.2.2.1 s.2.2.2.2 w := by rw [hb i (Nat.le_refl _) hiZ, ← w2]; exact hC0 w w1
      have hw : s.1 i - (Z + 1) = w := by rw [← w2]; exact (isL_w hq w1).2
      have hne := (tl_pos hZ hq w1).2
      rw [hl, if_pos rfl] at e1
      have k1 : W2 o t C (csJ C 900 t (cnt (isL Z s) i) (C.2.2.2.1 900 t i)) := w2_J
      have k2 : W2 o t (csJ C 900 t (cnt (isL Z s) i) (C.2.2.2.1 900 t i)) (csI (csJ C 900 t (cnt (isL Z s) i) (C.2.2.2.1 900 t i)) 900 o (cnt (isL Z s) i) (i32 i)) := w2_I
      have hd1 := cd_w2 hd k1
      have hd2 := cd_w2 hd1 k2
      have k3 : W3 D o t (csI (csJ C 900 t (cnt (isL Z s) i) (C.2.2.2.1 900 t i)) 900 o (cnt (isL Z s) i) (i32 i)) (csI (csI (csJ C 900 t (cnt (isL Z s) i) (C.2.2.2.1 900 t i)) 900 o (cnt (isL Z s) i) (i32 i)) 36 D 0 (i32 (cnt (isL Z s) (i + 1)))) := w3_36
      have hd3 := cd_w3 hd2 k3
      have f4 : ∀ X : CT, X.1 = C.1 → X.2.2.1 36 D 0 = i32 (cnt (isL Z s) i) → cgI X D 2 4 = some (i32 (cnt (isL Z s) i)) := fun X h1 h2 => (if_pos (by rw [h1]; exact hd.1.1)).trans (congrArg some h2)
      have h36b : (csI (csJ C 900 t (cnt (isL Z s) i) (C.2.2.2.1 900 t i)) 900 o (cnt (isL Z s) i) (i32 i)).2.2.1 36 D 0 = i32 (cnt (isL Z s) i) := by
        rw [k2.2.2.1 36 D 0 (fun z => absurd z.1 (by decide))]; exact h36
      obtain ⟨C', u1, u2, u3⟩ := gat7_go (N := N) hZ hq hC0 hC1 q g (i + 1) _ hd3 (by simp [csI, up3]) (fun j h1 h2 => by
        have hne : j ≠ cnt (isL Z s) i := by omega
        rw [← hb j (by omega) h2]
        simp [csI, csJ, up3, hne]) (fun v hv hlv => by
        by_cases e : v = i
        · subst e
          refine ⟨?_, ?_⟩
          · simp [csI, csJ, up3]
          · rw [hw, ← htl]
            simp [csI, csJ, up3]
        · have hlt := cnt_lt (show v < i by omega) hlv
          have hne : cnt (isL Z s) v ≠ cnt (isL Z s) i := by omega
          obtain ⟨a1, a2⟩ := ha v (by omega) hlv
          refine ⟨?_, ?_⟩
          · rw [← a1]; simp [csI, csJ, up3, hne]
          · rw [← a2]; simp [csI, csJ, up3, hne]) (by omega) (by omega)
      refine ⟨C', ?_, ((k1.w3.trans k2.w3).trans k3).trans u2, u3⟩
      rw [← u1]
      show (if (65536 : Int32) ≤ i32 i then _ else _) = _
      rw [if_neg (by rw [show (65536 : Int32) = i32 65536 from rfl, i32_le (by omega) (by omega)]; omega), cd_cob hd, jgd_true, tally_of hd (by omega), obd_some, if_neg (by rw [htl]; exact hne), f4 C rfl h36, obd_some, jgd_true, obd_some, jgd_true, setTally_of hd (by omega), obd_some, f4 (csJ C 900 t (cnt (isL Z s) i) (C.2.2.2.1 900 t i)) rfl h36, obd_some, cd_cob hd1, jgd_true, setOwner_of hd1 (by omega), obd_some, f4 (csI (csJ C 900 t (cnt (isL Z s) i) (C.2.2.2.1 900 t i)) 900 o (cnt (isL Z s) i) (i32 i)) rfl h36b, obd_some, cpI_of (ci := 2) hd2.1.1 (by decide) (by decide), obd_some]
      unfold c_DeadCycles_gatherFound_55
      rw [show i32 (cnt (isL Z s) i) + (1 : Int32) = i32 (cnt (isL Z s) (i + 1)) from by rw [e1]; exact i32_add _ 1, show i32 i + 1 = i32 (i + 1) from i32_add i 1]
    · have hno : ∀ w, w < s.2.1 → s.2.2.1 w ≠ i := fun w hw z => hl ((isL_iff hq hiZ).mpr ⟨w, hw, z⟩)
      have h0 : C.2.2.2.1 900 t i = 0 := by rw [hb i (Nat.le_refl _) hiZ]; exact hC1 i hiZ hno
      rw [if_neg hl, Nat.add_zero] at e1
      obtain ⟨C', u1, u2, u3⟩ := gat7_go (N := N) hZ hq hC0 hC1 q g (i + 1) C hd (by rw [e1]; exact h36) (fun j h1 h2 => hb j (by omega) h2) (fun v hv hlv => ha v (by
        by_cases e : v = i
        · subst e; exact absurd hlv hl
        · omega) hlv) (by omega) (by omega)
      refine ⟨C', ?_, u2, u3⟩
      rw [← u1]
      show (if (65536 : Int32) ≤ i32 i then _ else _) = _
      rw [if_neg (by rw [show (65536 : Int32) = i32 65536 from rfl, i32_le (by omega) (by omega)]; omega), cd_cob hd, jgd_true, tally_of hd (by omega), obd_some, if_pos h0]
      unfold c_DeadCycles_gatherFound_55
      rw [show i32 i + 1 = i32 (i + 1) from i32_add i 1]
/-- the whole run, from empty tables -/
theorem run_of {N : Nat} (hN : 200000 ≤ N) (hZ : Z = 65536) (hd : CD C D o t F r l) (h0 : ∀ i, i < Z → C.2.2.1 900 o i = 0 ∧ C.2.2.2.1 900 t i = 0) : ∃ C', c_DeadCycles_look_110 N N D 0 C = some (true, C') ∧ W3 D o t C C' ∧ CD C' D o t F r l ∧ GG F r l (C'.2.2.1 36 D 0) (C'.2.2.1 900 o) (C'.2.2.2.1 900 t) := by
  have hf : ∀ i, i < Z → nx F r l i < Z := fun i _ => by rw [hZ]; exact (nx_of F r l i).2
  have hq := qi_rnf hf Z (Nat.le_refl _)
  obtain ⟨C1, u1, u2, u3⟩ := look110_go (N := N) hN hZ rfl hf Z N 0 C hd ⟨fun i hi => (h0 i hi).1.trans (if_pos rfl).symm, fun w hw => absurd hw (Nat.not_lt_zero _), fun i hi _ => (h0 i hi).2⟩ (by omega) (by omega)
  have hd1 := cd_w2 hd u3
  have k3 : W3 D o t C1 (csI C1 36 D 0 0) := w3_36
  obtain ⟨C2, w1, w2, w3⟩ := gat7_go (N := N) (D := D) (o := o) (t := t) (F := F) (r := r) (l := l) (C0 := C1) hZ hq u2.2.1 u2.2.2 Z N 0 (csI C1 36 D 0 0) (cd_w3 hd1 k3) (by simp [csI, up3]; rfl) (fun j _ hj => rfl) (fun v hv => absurd hv (Nat.not_lt_zero _)) (by omega) (by omega)
  have k := (u3.w3.trans k3).trans w2
  refine ⟨C2, ?_, k, cd_w3 hd k, fun Z' hZ' => ?_⟩
  · have u1 : c_DeadCycles_look_110 N N D 0 C = _ := u1
    rw [u1]
    have hg : c_DeadCycles_gatherFound N D C1 = some C2 := by
      unfold c_DeadCycles_gatherFound
      rw [cpI_of (ci := 2) hd1.1.1 (by decide) (by decide), obd_some]
      exact w1
    rw [hg, obd_some]
  · have : Z' = Z := by omega
    subst this
    exact w3
/-! the heap -/
theorem cw_csZ {a : Nat} {v : Bool} (hw : CW B C) (ht : C.1 a ≠ 0) : CW B (csZ C a v) := by
  refine ⟨hw.1, hw.2.1, fun x hx y z => ?_⟩
  have h1 := hw.2.1 a ht
  have h2 := hw.2.2 x hx y z
  refine ⟨h2.1, h2.2.1, h2.2.2.1, ?_⟩
  have hx' : (ck C).1 ≤ x := hx
  have : x ≠ a := by omega
  show (if x = a then v else C.2.2.2.2.2.1 x) = false
  rw [if_neg this]; exact h2.2.2.2
theorem cw_w3 (hw : CW B C) (h : W3 D o t C C') (ho : C.1 o ≠ 0) (ht : C.1 t ≠ 0) (hD : C.1 D ≠ 0) : CW B C' := by
  have eck : ck C' = ck C := congrArg (fun x : (Nat → Nat → Nat → Option Nat) × (Nat → Bool) × (Nat × Nat) => x.2.2) h.2.2.2.2
  refine ⟨by rw [eck]; exact hw.1, by rw [eck, h.1]; exact hw.2.1, fun x hx k j => ?_⟩
  rw [eck] at hx
  have h1 := (hw.2.1 o ho).2
  have h2 := (hw.2.1 t ht).2
  have h3 := (hw.2.1 D hD).2
  rw [h.2.2.1 k x j (fun z => by omega) (fun z => by omega), h.2.2.2.1 k x j (fun z => by omega), h.2.2.2.2]
  exact hw.2.2 x hx k j
theorem w3_ag {a : Nat} (h : W3 D o t C C') (h1 : a ≠ o) (h2 : a ≠ t) (h3 : a ≠ D) : Ag C C' a := ⟨by rw [h.1], by rw [h.2.1], fun k => funext fun j => h.2.2.1 k a j (fun z => h1 z.2) (fun z => h3 z.2), fun k => funext fun j => h.2.2.2.1 k a j (fun z => h2 z.2), fun k => by rw [h.2.2.2.2], by rw [h.2.2.2.2]⟩
theorem jj_deadC {G : GT} (J : JJ G E B bx m ad S A C T) (hA : ∀ t i, t ≠ 0 → A' t i = A t i) (hw : CW B C') (hag : ∀ t i, VA S t i → t ≠ 0 → t ≠ 2 → Ag C C' (A t i)) (hbx : Ag C C' bx) (t2 : C'.1 (A 2 0) = C.1 (A 2 0)) (hl : lsp m ad C') (hro : RO (ad 0) B S A' C') (hax : AX S A') (hrd : RD G A' C') (hR : RT S T') : JJ G E B bx m ad S A' C' T' := by
  obtain ⟨⟨w1, w2, w3⟩, ⟨hb, hss, hcc, hx⟩, hRT, hWF, hRK, hRD⟩ := J
  have o1 : ∀ x n, x ≠ 0 → oA A' x n = oA A x n := fun x n h => by
    cases n with
    | zero => rfl
    | succ n => exact congrArg some (hA x n h)
  refine ⟨⟨hw, hl, hro⟩, ⟨?_, fun s h => ?_, fun c h => ?_, hax⟩, hR, hWF, ?_, hrd⟩
  · have hA3 : ∀ i, i < 4 → Ag C C' (A 3 i) := fun i hi => hag 3 i hi (by decide) (by decide)
    exact RCb_of hb hbx.1 (fun k _ => by rw [hbx.2.2.2.2.1]) (by rw [hbx.2.2.1]; exact hb.2.1.1) (by rw [hbx.2.2.1]; exact hb.2.1.2.1) (by rw [hbx.2.2.1]; exact hb.2.1.2.2) (fun _ => hA 5 _ (by decide)) (fun _ => hA 3 _ (by decide)) (hA 2 0 (by decide)) (fun i hi => hag 5 i hi (by decide) (by decide)) (fun i hi => ⟨(hA3 i hi).1, (hA3 i hi).2.1⟩) t2
      (fun s hs => by rw [(hA3 0 (by decide)).2.2.2.2.1, hA 7 s (by decide)]; exact hb.2.2.2.1.2.2 s hs) (fun s hs => by rw [(hA3 1 (by decide)).2.2.2.2.1, hA 1 s (by decide)]; exact hb.2.2.2.2.1.2.2 s hs) (fun s hs => by rw [(hA3 2 (by decide)).2.2.2.2.1, hA 48 s (by decide)]; exact hb.2.2.2.2.2.1.2.2 s hs)
  · refine RCs_ag (S := S) (A := A) (C := C) ⟨fun _ _ => rfl, fun _ _ => rfl, rfl, rfl, rfl⟩ (fun t ht => ⟨hA t s (fun q => by subst q; revert ht; decide), ?_⟩) (hA 5 _ (by decide)) (o1 1 _ (by decide)) (o1 1 _ (by decide)) (hss s h)
    simp only [List.mem_cons, List.not_mem_nil, or_false] at ht
    rcases ht with rfl | rfl | rfl | rfl | rfl | rfl <;> exact hag _ s h (by decide) (by decide)
  · have wc := hWF.2.2.1 c h
    refine RCc_ag (S := S) (A := A) (C := C) (fun _ _ => rfl) (fun p _ => ⟨rfl, hA 7 _ (by decide)⟩) rfl (fun t ht => ⟨hA t c (fun q => by subst q; revert ht; decide), ?_⟩) (o1 7 _ (by decide)) (fun _ _ => hA 4 _ (by decide)) (fun i hi => ?_) (hcc c h)
    · simp only [List.mem_cons, List.not_mem_nil, or_false] at ht
      rcases ht with rfl | rfl | rfl | rfl <;> exact hag _ c h (by decide) (by decide)
    · have hi3 : i < 3 := by have := wc.1.2.1; omega
      have hq : (3 * c + i) / 3 < S.1 16 0 ∧ (3 * c + i) % 3 < S.1 20 ((3 * c + i) / 3) := by
        rw [show (3 * c + i) / 3 = c by omega, show (3 * c + i) % 3 = i by omega]; exact ⟨h, hi⟩
      refine RCl_ag (S := S) (A := A) (C := C) (fun _ _ => rfl) rfl rfl (fun t ht => ⟨hA t _ (fun q => by subst q; revert ht; decide), ?_⟩) ((hcc c h).2.2.2.2 i hi)
      simp only [List.mem_cons, List.not_mem_nil, or_false] at ht
      rcases ht with rfl | rfl | rfl <;> exact hag _ _ hq (by decide) (by decide)
  · refine RK_ag (S := S) (A := A) (C := C) ⟨fun _ _ => rfl, fun _ _ => rfl, Nat.le_refl _, fun c hc => ⟨Nat.le_refl _, Nat.le_refl _, fun _ _ => ⟨rfl, ⟨rfl, rfl, rfl⟩, Or.inr rfl⟩, fun _ _ => rfl⟩⟩ (fun t ht k hk => ⟨hA t k (fun q => by subst q; revert ht; decide), ?_⟩) (fun _ _ => hA 1 _ (by decide)) hRK
    simp only [List.mem_cons, List.not_mem_nil, or_false] at ht
    rcases ht with rfl | rfl | rfl <;> exact hag _ k hk (by decide) (by decide)
/-- ints filled -/
def fiI (C : CT) (a p n : Nat) (v : Int32) : CT := (C.1, C.2.1, fun x y z => if x = 900 ∧ y = a ∧ p ≤ z ∧ z < n then v else C.2.2.1 x y z, C.2.2.2)
theorem fiI_nil {a p : Nat} {v : Int32} : fiI C a p p v = C := by
  have : (fun x y z => if x = 900 ∧ y = a ∧ p ≤ z ∧ z < p then v else C.2.2.1 x y z) = C.2.2.1 := funext fun x => funext fun y => funext fun z => if_neg (by omega)
  unfold fiI
  rw [this]
theorem fiI_step {a p n : Nat} {v : Int32} (h : p < n) : fiI (csI C 900 a p v) a (p + 1) n v = fiI C a p n v := by
  have : (fun x y z => if x = 900 ∧ y = a ∧ p + 1 ≤ z ∧ z < n then v else (csI C 900 a p v).2.2.1 x y z) = (fun x y z => if x = 900 ∧ y = a ∧ p ≤ z ∧ z < n then v else C.2.2.1 x y z) := funext fun x => funext fun y => funext fun z => by
    simp only [csI, up3]
    by_cases h1 : x = 900 ∧ y = a
    · by_cases h2 : z = p
      · subst h2
        rw [if_neg (by omega), if_pos ⟨h1.1, h1.2, rfl⟩, if_pos ⟨h1.1, h1.2, by omega, h⟩]
      · by_cases h3 : p ≤ z ∧ z < n
        · rw [if_pos ⟨h1.1, h1.2, by omega, h3.2⟩, if_pos ⟨h1.1, h1.2, h3⟩]
        · rw [if_neg (by omega), if_neg (fun q => h2 q.2.2), if_neg (by omega)]
    · rw [if_neg (fun q => h1 ⟨q.1, q.2.1⟩), if_neg (fun q => h1 ⟨q.1, q.2.1⟩), if_neg (fun q => h1 ⟨q.1, q.2.1⟩)]
  show (C.1, C.2.1, (fun x y z => if x = 900 ∧ y = a ∧ p + 1 ≤ z ∧ z < n then v else (csI C 900 a p v).2.2.1 x y z), C.2.2.2) = fiI C a p n v
  rw [this]; rfl
theorem fillI_go {N a len : Nat} {v : Int32} (hl : len < 2 ^ 31) : ∀ (q n p : Nat) (C : CT), C.1 a = 20 → C.2.1 a = len → p + q = len → q < n → c_JArrays_fill_2_5 N n a v (i32 p) (i32 len) C = some (fiI C a p len v)
  | 0, 0, _, _, _, _, _, h => absurd h (by omega)
  | 0, n + 1, p, C, _, _, hp, _ => by
    have : p = len := by omega
    subst this
    unfold c_JArrays_fill_2_5
    rw [if_pos (Int32.le_refl _), fiI_nil]
  | q + 1, 0, _, _, _, _, _, h => absurd h (by omega)
  | q + 1, n + 1, p, C, ht, hn, hp, hq => by
    unfold c_JArrays_fill_2_5
    rw [if_neg (by rw [i32_le (by omega) (by omega)]; omega), cqI_of ht hn (by omega) hl, obd_some, show i32 p + 1 = i32 (p + 1) from i32_add p 1, fillI_go (N := N) hl q n (p + 1) _ (show (csI C 900 a p v).1 a = 20 from ht) (show (csI C 900 a p v).2.1 a = len from hn) (by omega) (by omega), fiI_step (by omega)]
theorem fillI_of {N a len : Nat} {v : Int32} (hN : len < N) (hl : len < 2 ^ 31) (ht : C.1 a = 20) (hn : C.2.1 a = len) : c_JArrays_fill_2 N (some a) v C = some (fiI C a 0 len v) := by
  unfold c_JArrays_fill_2
  rw [obd_some, cal_of (by rw [ht]; decide) hn, obd_some]
  exact fillI_go hl len N 0 C ht hn (by omega) hN
/-- the object told of another section -/
def lkC (C : CT) (D : Nat) (F : Int64) (r l : Int32) : CT := csI (csI (csJ (csZ C D true) 33 D 0 F) 34 D 0 r) 35 D 0 l
theorem lkC_ag {a : Nat} (h : a ≠ D) : Ag C (lkC C D F r l) a := by
  refine ag_csI (ag_csI (ag_csJ ⟨rfl, rfl, fun _ => rfl, fun _ => rfl, fun _ => rfl, ?_⟩ h) h) h
  show (if a = D then true else C.2.2.2.2.2.1 a) = _
  rw [if_neg h]
/-- with new tables -/
def ntC (C : CT) (D K : Nat) : CT := csA (cfr (csA (cfr C 20 65536 65536) 37 D 0 (some K)) 21 65536 65536) 38 D 0 (some (K + 1))
theorem look74_new {N : Nat} (hN : 200000 ≤ N) (hZ : Z = 65536) (hw : CW B C) (hD : C.1 D = 3) (h37 : C.2.2.2.2.1 37 D 0 = none) {a : Nat} (ha : a ≠ D) (hc7 : cob C a 7 = true) (hfac : c_Section_factor a (1 : Int32) C = some F) (hr : cgI C a 7 7 = some r) (hl : cgI C a 7 8 = some l) :
    ∃ C', c_DeadCycles_look_74 N D a C = some (true, C') ∧ W3 D (ck C).1 ((ck C).1 + 1) (ntC (lkC C D F r l) D (ck C).1) C' ∧ CD C' D (ck C).1 ((ck C).1 + 1) F r l ∧ GG F r l (C'.2.2.1 36 D 0) (C'.2.2.1 900 (ck C).1) (C'.2.2.2.1 900 ((ck C).1 + 1)) := by
  have hDk := (hw.2.1 D (by rw [hD]; decide)).2
  have n1 : D ≠ (ck C).1 := by omega
  have n2 : D ≠ (ck C).1 + 1 := by omega
  have tD : (ntC (lkC C D F r l) D (ck C).1).1 D = 3 := by
    show up1 (up1 C.1 (ck C).1 20) ((ck C).1 + 1) 21 D = 3
    simp [up1, n1, n2, hD]
  have hcd : CD (ntC (lkC C D F r l) D (ck C).1) D (ck C).1 ((ck C).1 + 1) F r l := by
    refine ⟨⟨tD, ?_, ?_, ?_, ?_, ?_⟩, ⟨?_, ?_⟩, ?_, ?_⟩
    · show (lkC C D F r l).2.2.2.1 33 D 0 = F
      simp [lkC, csI, csJ, up3]
    · show (lkC C D F r l).2.2.1 34 D 0 = r
      simp [lkC, csI, csJ, up3]
    · show (lkC C D F r l).2.2.1 35 D 0 = l
      simp [lkC, csI, csJ, up3]
    · simp [ntC, csA, cfr, up3]
    · simp [ntC, csA, cfr, up3]
    · show up1 (up1 C.1 (ck C).1 20) ((ck C).1 + 1) 21 (ck C).1 = 20
      simp [up1]
    · show up1 (up1 C.2.1 (ck C).1 65536) ((ck C).1 + 1) 65536 (ck C).1 = 65536
      simp [up1]
    · show up1 (up1 C.1 (ck C).1 20) ((ck C).1 + 1) 21 ((ck C).1 + 1) = 21
      simp [up1]
    · show up1 (up1 C.2.1 (ck C).1 65536) ((ck C).1 + 1) 65536 ((ck C).1 + 1) = 65536
      simp [up1]
  have hz : ∀ i, i < Z → (ntC (lkC C D F r l) D (ck C).1).2.2.1 900 (ck C).1 i = 0 ∧ (ntC (lkC C D F r l) D (ck C).1).2.2.2.1 900 ((ck C).1 + 1) i = 0 := fun i _ => by
    refine ⟨?_, ?_⟩
    · show (lkC C D F r l).2.2.1 900 (ck C).1 i = 0
      have : (lkC C D F r l).2.2.1 900 (ck C).1 i = C.2.2.1 900 (ck C).1 i := by simp [lkC, csI, csJ, csZ, up3]
      rw [this]
      exact (hw.2.2 _ (Nat.le_refl _) 900 i).1
    · show (lkC C D F r l).2.2.2.1 900 ((ck C).1 + 1) i = 0
      have : (lkC C D F r l).2.2.2.1 900 ((ck C).1 + 1) i = C.2.2.2.1 900 ((ck C).1 + 1) i := by simp [lkC, csI, csJ, csZ, up3]
      rw [this]
      exact (hw.2.2 _ (by omega) 900 i).2.1
  obtain ⟨C', u1, u2, u3, u4⟩ := run_of (N := N) hN hZ hcd hz
  refine ⟨C', ?_, u2, u3, u4⟩
  have c1 : cob (csZ C D true) a 7 = true := hc7
  have c2 : c_Section_factor a (1 : Int32) (csZ C D true) = some F := hfac
  have c3 : cgI (csJ (csZ C D true) 33 D 0 F) a 7 7 = some r := hr
  have c4 : cgI (csI (csJ (csZ C D true) 33 D 0 F) 34 D 0 r) a 7 8 = some l := (cgI_ag (ag_csI (Ag.refl (csJ (csZ C D true) 33 D 0 F) a) ha)).trans hl
  have cD : cob (lkC C D F r l) D 2 = true := cob_of (ci := 2) hD
  have cA : cgA (lkC C D F r l) D 2 5 = some none := (if_pos hD).trans (congrArg some h37)
  have e65 : (65536 : Int32).toNatClampNeg = 65536 := by decide
  have b1 : cnI (65536 : Int32) (lkC C D F r l) = some ((ck C).1, cfr (lkC C D F r l) 20 65536 65536) := by
    unfold cnI
    rw [e65, if_pos ⟨by decide, by decide⟩]
    rfl
  have b3 : cnJ (65536 : Int32) (csA (cfr (lkC C D F r l) 20 65536 65536) 37 D 0 (some (ck C).1)) = some ((ck C).1 + 1, cfr (csA (cfr (lkC C D F r l) 20 65536 65536) 37 D 0 (some (ck C).1)) 21 65536 65536) := by
    unfold cnJ
    rw [e65, if_pos ⟨by decide, by decide⟩]
    rfl
  have tD1 : (cfr (lkC C D F r l) 20 65536 65536).1 D = 2 + 1 := by
    show up1 C.1 (ck C).1 20 D = 3
    simp [up1, n1, hD]
  have tD2 : (cfr (csA (cfr (lkC C D F r l) 20 65536 65536) 37 D 0 (some (ck C).1)) 21 65536 65536).1 D = 2 + 1 := tD
  have hbeg : c_DeadCycles_begin N D (lkC C D F r l) = some (ntC (lkC C D F r l) D (ck C).1) := by
    unfold c_DeadCycles_begin
    rw [cA, obd_some, jon_none]
    unfold c_DeadCycles_begin_14
    rw [b1, cbd2_some, cpA_of (ci := 2) tD1 (by decide) (by decide), obd_some]
    show cbd2 (cnJ (65536 : Int32) (csA (cfr (lkC C D F r l) 20 65536 65536) 37 D 0 (some (ck C).1))) _ = _
    rw [b3, cbd2_some, cpA_of (ci := 2) tD2 (by decide) (by decide), obd_some]
    rfl
  unfold c_DeadCycles_look_74
  have z1 : cpZ C D 2 0 true = some (csZ C D true) := if_pos ⟨hD, rfl, rfl⟩
  rw [z1, obd_some, c1, jgd_true, c2, obd_some, cpJ_of (ci := 2) (show (csZ C D true).1 D = 2 + 1 from hD) (by decide) (by decide), obd_some]
  show obd (cgI (csJ (csZ C D true) 33 D 0 F) a 7 7) _ = _
  rw [c3, obd_some, cpI_of (ci := 2) (show (csJ (csZ C D true) 33 D 0 F).1 D = 2 + 1 from hD) (by decide) (by decide), obd_some]
  show obd (cgI (csI (csJ (csZ C D true) 33 D 0 F) 34 D 0 r) a 7 8) _ = _
  rw [c4, obd_some, cpI_of (ci := 2) (show (csI (csJ (csZ C D true) 33 D 0 F) 34 D 0 r).1 D = 2 + 1 from hD) (by decide) (by decide), obd_some]
  show jgd (cob (lkC C D F r l) D 2) (obd (c_DeadCycles_begin N D (lkC C D F r l)) _) = _
  rw [cD, jgd_true, hbeg, obd_some]
  exact u1
/-- with the tables there are -/
def otC (C : CT) (o t : Nat) : CT := fiC (fiI C o 0 65536 0) t 0 65536 0
theorem look74_old {N : Nat} (hN : 200000 ≤ N) (hZ : Z = 65536) (hD : C.1 D = 3) (h37 : C.2.2.2.2.1 37 D 0 = some o) (h38 : C.2.2.2.2.1 38 D 0 = some t) (ho : C.1 o = 20 ∧ C.2.1 o = 65536) (ht : C.1 t = 21 ∧ C.2.1 t = 65536) {a : Nat} (ha : a ≠ D) (hc7 : cob C a 7 = true) (hfac : c_Section_factor a (1 : Int32) C = some F) (hr : cgI C a 7 7 = some r) (hl : cgI C a 7 8 = some l) :
    ∃ C', c_DeadCycles_look_74 N D a C = some (true, C') ∧ W3 D o t (lkC C D F r l) C' ∧ CD C' D o t F r l ∧ GG F r l (C'.2.2.1 36 D 0) (C'.2.2.1 900 o) (C'.2.2.2.1 900 t) := by
  have hw3 : W3 D o t (lkC C D F r l) (otC (lkC C D F r l) o t) := ⟨rfl, rfl, fun k x j q _ => by
    show (if k = 900 ∧ x = o ∧ 0 ≤ j ∧ j < 65536 then (0 : Int32) else (lkC C D F r l).2.2.1 k x j) = _
    rw [if_neg (fun z => q ⟨z.1, z.2.1⟩)], fun k x j q => by
    show (if k = 900 ∧ x = t ∧ 0 ≤ j ∧ j < 65536 then (0 : Int64) else (lkC C D F r l).2.2.2.1 k x j) = _
    rw [if_neg (fun z => q ⟨z.1, z.2.1⟩)], rfl⟩
  have hcd0 : CD (lkC C D F r l) D o t F r l := by
    refine ⟨⟨hD, ?_, ?_, ?_, h37, h38⟩, ho, ht⟩
    · simp [lkC, csI, csJ, up3]
    · simp [lkC, csI, csJ, up3]
    · simp [lkC, csI, csJ, up3]
  have hcd := cd_w3 hcd0 hw3
  have hz : ∀ i, i < Z → (otC (lkC C D F r l) o t).2.2.1 900 o i = 0 ∧ (otC (lkC C D F r l) o t).2.2.2.1 900 t i = 0 := fun i hi => by
    refine ⟨?_, ?_⟩
    · show (if 900 = 900 ∧ o = o ∧ 0 ≤ i ∧ i < 65536 then (0 : Int32) else (lkC C D F r l).2.2.1 900 o i) = 0
      rw [if_pos ⟨rfl, rfl, Nat.zero_le _, by omega⟩]
    · show (if 900 = 900 ∧ t = t ∧ 0 ≤ i ∧ i < 65536 then (0 : Int64) else (lkC C D F r l).2.2.2.1 900 t i) = 0
      rw [if_pos ⟨rfl, rfl, Nat.zero_le _, by omega⟩]
  obtain ⟨C', u1, u2, u3, u4⟩ := run_of (N := N) hN hZ hcd hz
  refine ⟨C', ?_, hw3.trans u2, u3, u4⟩
  have c1 : cob (csZ C D true) a 7 = true := hc7
  have c2 : c_Section_factor a (1 : Int32) (csZ C D true) = some F := hfac
  have c3 : cgI (csJ (csZ C D true) 33 D 0 F) a 7 7 = some r := hr
  have c4 : cgI (csI (csJ (csZ C D true) 33 D 0 F) 34 D 0 r) a 7 8 = some l := (cgI_ag (ag_csI (Ag.refl (csJ (csZ C D true) 33 D 0 F) a) ha)).trans hl
  have cD : cob (lkC C D F r l) D 2 = true := cob_of (ci := 2) hD
  have cA : cgA (lkC C D F r l) D 2 5 = some (some o) := (if_pos hD).trans (congrArg some h37)
  have cA6 : cgA (lkC C D F r l) D 2 6 = some (some t) := (if_pos hD).trans (congrArg some h38)
  have cA6' : cgA (fiI (lkC C D F r l) o 0 65536 0) D 2 6 = some (some t) := (if_pos hD).trans (congrArg some h38)
  have hbeg : c_DeadCycles_begin N D (lkC C D F r l) = some (otC (lkC C D F r l) o t) := by
    unfold c_DeadCycles_begin
    rw [cA, obd_some, jon_some, cA6, obd_some, jon_some, obd_some, fillI_of (len := 65536) (by omega) (by decide) (show (lkC C D F r l).1 o = 20 from ho.1) (show (lkC C D F r l).2.1 o = 65536 from ho.2), obd_some, cA6', obd_some, fill_of (len := 65536) (by omega) (by decide) (show (fiI (lkC C D F r l) o 0 65536 0).1 t = 21 from ht.1) (show (fiI (lkC C D F r l) o 0 65536 0).2.1 t = 65536 from ht.2), obd_some]
    rfl
  unfold c_DeadCycles_look_74
  have z1 : cpZ C D 2 0 true = some (csZ C D true) := if_pos ⟨hD, rfl, rfl⟩
  rw [z1, obd_some, c1, jgd_true, c2, obd_some, cpJ_of (ci := 2) (show (csZ C D true).1 D = 2 + 1 from hD) (by decide) (by decide), obd_some]
  show obd (cgI (csJ (csZ C D true) 33 D 0 F) a 7 7) _ = _
  rw [c3, obd_some, cpI_of (ci := 2) (show (csJ (csZ C D true) 33 D 0 F).1 D = 2 + 1 from hD) (by decide) (by decide), obd_some]
  show obd (cgI (csI (csJ (csZ C D true) 33 D 0 F) 34 D 0 r) a 7 8) _ = _
  rw [c4, obd_some, cpI_of (ci := 2) (show (csI (csJ (csZ C D true) 33 D 0 F) 34 D 0 r).1 D = 2 + 1 from hD) (by decide) (by decide), obd_some]
  show jgd (cob (lkC C D F r l) D 2) (obd (c_DeadCycles_begin N D (lkC C D F r l)) _) = _
  rw [cD, jgd_true, hbeg, obd_some]
  exact u1
end SIMCYC
