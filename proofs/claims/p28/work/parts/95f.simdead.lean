/-! dead cycles: the calls -/
section SIMDEAD
variable {G : GT} {E B bx m s : Nat} {ad : Nat → Nat} {S : ST} {A : AT} {C C' : CT} {T T' : MT} {v : Int32}
theorem ag_trans {a : Nat} {C1 C2 C3 : CT} (h : Ag C1 C2 a) (h' : Ag C2 C3 a) : Ag C1 C3 a := ⟨h'.1.trans h.1, h'.2.1.trans h.2.1, fun k => (h'.2.2.1 k).trans (h.2.2.1 k), fun k => (h'.2.2.2.1 k).trans (h.2.2.2.1 k), fun k => (h'.2.2.2.2.1 k).trans (h.2.2.2.2.1 k), h'.2.2.2.2.2.trans h.2.2.2.2.2⟩
theorem cw_lkC {D : Nat} {F : Int64} {r l : Int32} (hw : CW B C) (hD : C.1 D ≠ 0) : CW B (lkC C D F r l) := cw_csI (cw_csI (cw_csJ (cw_csZ hw hD) hD) hD) hD
theorem lsp_eq (h : lsp m ad C) (h1 : C'.1 = C.1) (h2 : ck C' = ck C) : lsp m ad C' := by
  obtain ⟨⟨a1, a2⟩, a3, a4⟩ := h
  refine ⟨⟨by rw [h1]; exact a1, fun k hk => by rw [h1]; exact a2 k hk⟩, by rw [h2]; exact a3, fun k hk => by rw [h2]; exact a4 k hk⟩
theorem w3_ck {D o t : Nat} (h : W3 D o t C C') : ck C' = ck C := congrArg (fun x : (Nat → Nat → Nat → Option Nat) × (Nat → Bool) × (Nat × Nat) => x.2.2) h.2.2.2.2
/-- anew, with tables or without -/
theorem look74_jj {N : Nat} (hN : 200000 ≤ N) (J : JJ GG E B bx m ad S A C T) (hs : s < S.1 1 0) (h1 : S.1 2 s = 1) :
    ∃ A' C' o t, c_DeadCycles_look_74 N (A 2 0) (A 7 s) C = some (true, C') ∧ JJ GG E B bx m ad S A' C' T ∧ A' 2 0 = A 2 0 ∧ CD C' (A 2 0) o t (S.2.1 7 (5 * s + 1)) (i32 (S.1 5 s)) (i32 (S.1 6 s)) ∧
      GG (S.2.1 7 (5 * s + 1)) (i32 (S.1 5 s)) (i32 (S.1 6 s)) (C'.2.2.1 36 (A 2 0) 0) (C'.2.2.1 900 o) (C'.2.2.2.1 900 t) := by
  obtain ⟨A1, J1, e1, hl1, -⟩ := jj_norm J
  rw [← e1 2 0 (by decide), ← e1 7 s (by decide)]
  generalize hD : A1 2 0 = D at *
  have hb := jj_b J1
  have hsr := jj_s J1 hs
  obtain ⟨⟨w1, w2, w3⟩, hRC, hRT, hWF, hRK, hRD⟩ := id J1
  have tD : C.1 D = 3 := by rw [← hD]; exact hb.2.2.2.2.2.2.2
  have tD0 : C.1 D ≠ 0 := by rw [tD]; decide
  have ha : A1 7 s ≠ D := by
    intro q
    have := hsr.1.1
    rw [q, tD] at this
    exact absurd this (by decide)
  have hc7 : cob C (A1 7 s) 7 = true := cob_of (ci := 7) (rs_tag hsr)
  have hfac : c_Section_factor (A1 7 s) (1 : Int32) C = some (S.2.1 7 (5 * s + 1)) := factor_of J1 hs (k := 1) (by rw [h1]; decide)
  have hr := rs_rounding hsr
  have hl := rs_limit hsr
  have hbx : bx ≠ D := by
    intro q
    have := hb.1.1
    rw [q, tD] at this
    exact absurd this (by decide)
  have hoth : ∀ t i, VA S t i → t ≠ 0 → t ≠ 2 → A1 t i ≠ D := fun t i h h0 h2 q => by
    rw [← hD] at q
    exact h2 (hRC.2.2.2 t i 2 0 h rfl q).1
  have hbt : ∀ t i, VA S t i → t ≠ 0 → A1 t i < (ck C).1 := fun t i h h0 => (w1.2.1 _ (va_tag J1 h h0)).2
  have hbxk : bx < (ck C).1 := (w1.2.1 _ (by rw [hb.1.1]; decide)).2
  rcases hRD with ⟨q1, q2, q3⟩ | ⟨g1, g2, g3, g4, g5, g6, g7⟩
  · rw [hD] at q1 q2 q3
    obtain ⟨C', u1, u2, u3, u4⟩ := look74_new (Z := 65536) hN rfl w1 tD q1 ha hc7 hfac hr hl
    have hl0 : ∀ x, (ck C).1 ≤ x → x < (ck C).1 + 1000 → ∀ t i, VA S t i → A1 t i ≠ x := fun x h h' t i hv q => by
      have := hl1 t i hv
      omega
    generalize hq : (ck C).1 = q at *
    have eck : ck C' = ((ck C).1 + 1 + 1, (ck C).2 + 65536 + 65536) := w3_ck u2
    have hDq : D < q := by rw [← hq]; exact (w1.2.1 _ tD0).2
    have hag : ∀ a, a ≠ D → a < q → Ag C C' a := fun a h1 h2 => by
      have g1 : Ag C (lkC C D (S.2.1 7 (5 * s + 1)) (i32 (S.1 5 s)) (i32 (S.1 6 s))) a := lkC_ag h1
      have g2 : Ag (lkC C D (S.2.1 7 (5 * s + 1)) (i32 (S.1 5 s)) (i32 (S.1 6 s))) (ntC (lkC C D (S.2.1 7 (5 * s + 1)) (i32 (S.1 5 s)) (i32 (S.1 6 s))) D q) a := by
        have k1 : a ≠ q := by omega
        have k2 : a ≠ q + 1 := by omega
        unfold ntC
        refine ag_csA ?_ h1
        have e0 : ck (lkC C D (S.2.1 7 (5 * s + 1)) (i32 (S.1 5 s)) (i32 (S.1 6 s))) = ck C := rfl
        have e2 : Ag (lkC C D (S.2.1 7 (5 * s + 1)) (i32 (S.1 5 s)) (i32 (S.1 6 s))) (csA (cfr (lkC C D (S.2.1 7 (5 * s + 1)) (i32 (S.1 5 s)) (i32 (S.1 6 s))) 20 65536 65536) 37 D 0 (some q)) a := by
          refine ag_csA ⟨?_, ?_, fun _ => rfl, fun _ => rfl, fun _ => rfl, rfl⟩ h1
          · show up1 C.1 (ck C).1 20 a = C.1 a
            rw [hq]; simp [up1, k1]
          · show up1 C.2.1 (ck C).1 65536 a = C.2.1 a
            rw [hq]; simp [up1, k1]
        refine ag_trans e2 ⟨?_, ?_, fun _ => rfl, fun _ => rfl, fun _ => rfl, rfl⟩
        · show up1 (up1 C.1 (ck C).1 20) ((ck C).1 + 1) 21 a = up1 C.1 (ck C).1 20 a
          rw [hq]; simp [up1, k2]
        · show up1 (up1 C.2.1 (ck C).1 65536) ((ck C).1 + 1) 65536 a = up1 C.2.1 (ck C).1 65536 a
          rw [hq]; simp [up1, k2]
      exact ag_trans (ag_trans g1 g2) (w3_ag u2 (by omega) (by omega) h1)
    let A2 : AT := fun t i => if t = 0 ∧ i = 1 then q else if t = 0 ∧ i = 2 then q + 1 else A1 t i
    have eA : ∀ t i, t ≠ 0 → A2 t i = A1 t i := fun t i h => by
      show (if t = 0 ∧ i = 1 then q else if t = 0 ∧ i = 2 then q + 1 else A1 t i) = _
      rw [if_neg (fun z => h z.1), if_neg (fun z => h z.1)]
    have eA1 : A2 0 1 = q := rfl
    have eA2 : A2 0 2 = q + 1 := rfl
    have eA0 : A2 0 0 = A1 0 0 := rfl
    have eA20 : A2 2 0 = D := by rw [eA 2 0 (by decide)]; exact hD
    have hw' : CW B C' := by
      have k1 : CW B (ntC (lkC C D (S.2.1 7 (5 * s + 1)) (i32 (S.1 5 s)) (i32 (S.1 6 s))) D q) := by
        have k0 := cw_lkC (F := S.2.1 7 (5 * s + 1)) (r := i32 (S.1 5 s)) (l := i32 (S.1 6 s)) w1 tD0
        have n1 : D ≠ (ck C).1 := by omega
        have n2 : D ≠ (ck C).1 + 1 := by omega
        refine cw_csA (cw_fr (cw_csA (cw_fr k0) ?_)) ?_
        · show up1 C.1 (ck C).1 20 D ≠ 0
          simp [up1, n1, tD]
        · show up1 (up1 C.1 (ck C).1 20) ((ck C).1 + 1) 21 D ≠ 0
          simp [up1, n1, n2, tD]
      refine cw_w3 k1 u2 ?_ ?_ ?_
      · rw [← u2.1, u3.2.1.1]; decide
      · rw [← u2.1, u3.2.2.1]; decide
      · rw [← u2.1, u3.1.1]; decide
    refine ⟨A2, C', q, q + 1, u1, jj_deadC J1 eA hw' (fun t i h h0 h2 => hag _ (hoth t i h h0 h2) (by have := hbt t i h h0; omega)) (hag bx hbx (by omega)) (by rw [hD, u3.1.1, tD]) ?_ ?_ ?_ ?_ hRT, eA20, u3, u4⟩
    · obtain ⟨⟨a1, a2⟩, a3, a4⟩ := w2
      have kt : ∀ x, x < q → x ≠ D → C'.1 x = C.1 x := fun x h1 h2 => (hag x h2 h1).1
      have nz : ∀ x, C.1 x = 0 → x ≠ D := fun x h q => tD0 (q ▸ h)
      refine ⟨⟨by rw [kt m (by omega) (nz m a1)]; exact a1, fun k hk => by rw [kt _ (by have := a4 k hk; omega) (nz _ (a2 k hk))]; exact a2 k hk⟩, ?_, fun k hk => ?_⟩
      · rw [eck]; show m < (ck C).1 + 1 + 1; omega
      · rw [eck]; show ad k < (ck C).1 + 1 + 1; have := a4 k hk; omega
    · intro z hz
      rw [eA20, u3.1.2.2.2.2.1] at hz
      have hz : z = 0 := hz
      subst hz
      have := w3 1 (by rw [hD, q1])
      rw [eck]
      constructor
      · have := this.1
        show (ck C).1 + 1 + 1 + _ + _ + _ + _ + _ ≤ _
        omega
      · have := this.2
        show (ck C).2 + 65536 + 65536 + _ + _ + _ + _ + _ ≤ _
        omega
    · intro t i t' i' h h' heq
      have hA : ∀ t i, VA S t i → (A2 t i = A1 t i ∧ ¬ (t = 0 ∧ (i = 1 ∨ i = 2))) ∨ (t = 0 ∧ i = 1 ∧ A2 t i = q) ∨ (t = 0 ∧ i = 2 ∧ A2 t i = q + 1) := fun t i h => by
        by_cases c1 : t = 0 ∧ i = 1
        · exact Or.inr (Or.inl ⟨c1.1, c1.2, if_pos c1⟩)
        · by_cases c2 : t = 0 ∧ i = 2
          · exact Or.inr (Or.inr ⟨c2.1, c2.2, (if_neg c1).trans (if_pos c2)⟩)
          · exact Or.inl ⟨(if_neg c1).trans (if_neg c2), fun z => by
              rcases z with ⟨z1, z2 | z2⟩
              · exact c1 ⟨z1, z2⟩
              · exact c2 ⟨z1, z2⟩⟩
      have hne : ∀ t i, VA S t i → A1 t i ≠ q ∧ A1 t i ≠ q + 1 := fun t i h => ⟨hl0 q (by omega) (by omega) t i h, hl0 (q + 1) (by omega) (by omega) t i h⟩
      have n1 := hne t i h
      have n2 := hne t' i' h'
      rcases hA t i h with ⟨a1, a2⟩ | ⟨a1, a2, a3⟩ | ⟨a1, a2, a3⟩ <;> rcases hA t' i' h' with ⟨b1, b2⟩ | ⟨b1, b2, b3⟩ | ⟨b1, b2, b3⟩
      · rw [a1, b1] at heq; exact hRC.2.2.2 t i t' i' h h' heq
      · omega
      · omega
      · omega
      · omega
      · omega
      · omega
      · omega
      · omega
    · refine Or.inr ⟨by rw [eA20, eA1]; exact u3.1.2.2.2.2.1, by rw [eA20, eA2]; exact u3.1.2.2.2.2.2, by rw [eA1]; exact u3.2.1.1, by rw [eA1]; exact u3.2.1.2, by rw [eA2]; exact u3.2.2.1, by rw [eA2]; exact u3.2.2.2, fun _ => ?_⟩
      rw [eA20, eA1, eA2, u3.1.2.1, u3.1.2.2.1, u3.1.2.2.2.1]
      exact u4
  · rw [hD] at g1 g2 g7
    obtain ⟨C', u1, u2, u3, u4⟩ := look74_old (Z := 65536) hN rfl tD g1 g2 ⟨g3, g4⟩ ⟨g5, g6⟩ ha hc7 hfac hr hl
    have to0 : C.1 (A1 0 1) ≠ 0 := by rw [g3]; decide
    have tt0 : C.1 (A1 0 2) ≠ 0 := by rw [g5]; decide
    have eck : ck C' = ck C := (w3_ck u2).trans rfl
    have hag : ∀ a, a ≠ D → a ≠ A1 0 1 → a ≠ A1 0 2 → Ag C C' a := fun a h1 h2 h3 => ag_trans (lkC_ag h1) (w3_ag u2 h2 h3 h1)
    have hw' : CW B C' := cw_w3 (cw_lkC w1 tD0) u2 to0 tt0 tD0
    have v01 : VA S 0 1 := by show 1 < 3; decide
    have v02 : VA S 0 2 := by show 2 < 3; decide
    refine ⟨A1, C', A1 0 1, A1 0 2, u1, jj_deadC J1 (fun _ _ _ => rfl) hw' (fun t i h h0 h2 => hag _ (hoth t i h h0 h2) (fun z => h0 (hRC.2.2.2 t i 0 1 h v01 z).1) (fun z => h0 (hRC.2.2.2 t i 0 2 h v02 z).1)) (hag bx hbx (fun z => ?_) (fun z => ?_)) (by rw [hD, u3.1.1, tD]) (lsp_eq w2 u2.1 eck) ?_ hRC.2.2.2 ?_ hRT, hD, u3, u4⟩
    · have := hb.1.1
      rw [z, g3] at this
      exact absurd this (by decide)
    · have := hb.1.1
      rw [z, g5] at this
      exact absurd this (by decide)
    · intro z hz
      rw [hD, u3.1.2.2.2.2.1] at hz
      have := w3 z (by rw [hD, g1]; exact hz)
      rw [eck]
      exact this
    · refine Or.inr ⟨by rw [hD]; exact u3.1.2.2.2.2.1, by rw [hD]; exact u3.1.2.2.2.2.2, u3.2.1.1, u3.2.1.2, u3.2.2.1, u3.2.2.2, fun _ => ?_⟩
      rw [hD, u3.1.2.1, u3.1.2.2.1, u3.1.2.2.2.1]
      exact u4
theorem isDead_of (J : JJ G E B bx m ad S A C T) (v : Int32) : (∃ s, s < S.1 1 0 ∧ v = i32 s ∧ S.1 2 s = 1 ∧ S.1 3 s = 2 ∧ S.1 5 s ≤ 1 ∧ h_R_isDead v T = some true ∧ c_B_sectionAt bx v C = some (some (A 7 s))) ∨
    (h_R_isDead v T = some false ∧ ∃ x, c_B_sectionAt bx v C = some x ∧ ∀ N D, c_DeadCycles_look N D x C = some (false, C)) := by
  rcases sec_or J v with ⟨s, hs, rfl, e1, e2⟩ | ⟨e1, e2⟩
  · have hsr := jj_s J hs
    have ws := jj_ws J hs
    have hn := (jj_n J).1
    have h2 := jj_N J 2 (by decide) s
    have h3 := jj_N J 3 (by decide) s
    have h5 := jj_N J 5 (by decide) s
    have b2 := ws.1.1
    have b3 := ws.1.2.1
    have b5 := ws.2.1.1
    have er : h_R_isDead (i32 s) T = if i32 (S.1 2 s) = 1 then (if i32 (S.1 3 s) = 2 then (if (2 : Int32) ≤ i32 (S.1 5 s) then some false else some true) else some false) else some false := by
      unfold h_R_isDead
      rw [e1, obd_some, if_pos rfl, jrg_i32 (show s < 60 by omega) (by decide), obd_some, obd_some, obd_some, h2, h3, h5]
    have ec : i32 (S.1 2 s) ≠ (1 : Int32) ∨ (i32 (S.1 2 s) = (1 : Int32) ∧ i32 (S.1 3 s) ≠ (2 : Int32)) ∨ (i32 (S.1 2 s) = (1 : Int32) ∧ i32 (S.1 3 s) = (2 : Int32) ∧ i32 (S.1 5 s) = (2 : Int32)) → ∀ N D, c_DeadCycles_look N D (some (A 7 s)) C = some (false, C) := fun h N D => by
      unfold c_DeadCycles_look
      rw [jon_some, rs_kind hsr, obd_some]
      rcases h with c1 | ⟨c1, c2⟩ | ⟨c1, c2, c3⟩
      · rw [if_neg c1]
      · rw [if_pos c1, rs_sort hsr, obd_some, if_neg c2]
      · rw [if_pos c1, rs_sort hsr, obd_some, if_pos c2, rs_rounding hsr, obd_some, if_pos c3]
    have n1 : ∀ a : Nat, a < 100 → a ≠ 1 → i32 a ≠ (1 : Int32) := fun a ha h => i32_ne (b := 1) (by omega) (by decide) h
    have n2 : ∀ a : Nat, a < 100 → a ≠ 2 → i32 a ≠ (2 : Int32) := fun a ha h => i32_ne (b := 2) (by omega) (by decide) h
    by_cases c1 : S.1 2 s = 1
    · have d1 : i32 (S.1 2 s) = (1 : Int32) := by rw [c1]; rfl
      by_cases c2 : S.1 3 s = 2
      · have d2 : i32 (S.1 3 s) = (2 : Int32) := by rw [c2]; rfl
        by_cases c3 : S.1 5 s = 2
        · have d3 : i32 (S.1 5 s) = (2 : Int32) := by rw [c3]; rfl
          refine Or.inr ⟨?_, _, e2, ec (Or.inr (Or.inr ⟨d1, d2, d3⟩))⟩
          rw [er, if_pos d1, if_pos d2, d3]; rfl
        · refine Or.inl ⟨s, hs, rfl, c1, c2, by omega, ?_, e2⟩
          rw [er, if_pos d1, if_pos d2, if_neg (by rw [show (2 : Int32) = i32 2 from rfl, i32_le (by omega) (by omega)]; omega)]
      · have d2 := n2 _ (by omega) c2
        refine Or.inr ⟨?_, _, e2, ec (Or.inr (Or.inl ⟨d1, d2⟩))⟩
        rw [er, if_pos d1, if_neg d2]
    · have d1 := n1 _ (by omega) c1
      refine Or.inr ⟨?_, _, e2, ec (Or.inl d1)⟩
      rw [er, if_neg d1]
  · refine Or.inr ⟨?_, _, e2, fun N D => ?_⟩
    · unfold h_R_isDead
      rw [e1, obd_some, if_neg (by decide)]
    · rfl
/-- looked at -/
theorem look_jj {N : Nat} (hN : 200000 ≤ N) (J : JJ GG E B bx m ad S A C T) (hs : s < S.1 1 0) (h1 : S.1 2 s = 1) (h2 : S.1 3 s = 2) (h5 : S.1 5 s ≤ 1) :
    ∃ A' C' o t, c_DeadCycles_look N (A 2 0) (some (A 7 s)) C = some (true, C') ∧ JJ GG E B bx m ad S A' C' T ∧ A' 2 0 = A 2 0 ∧ CD C' (A 2 0) o t (S.2.1 7 (5 * s + 1)) (i32 (S.1 5 s)) (i32 (S.1 6 s)) ∧
      GG (S.2.1 7 (5 * s + 1)) (i32 (S.1 5 s)) (i32 (S.1 6 s)) (C'.2.2.1 36 (A 2 0) 0) (C'.2.2.1 900 o) (C'.2.2.2.1 900 t) := by
  have hsr := jj_s J hs
  have hb := jj_b J
  have tD : C.1 (A 2 0) = 3 := hb.2.2.2.2.2.2.2
  have hc7 : cob C (A 7 s) 7 = true := cob_of (ci := 7) (rs_tag hsr)
  have hfac : c_Section_factor (A 7 s) (1 : Int32) C = some (S.2.1 7 (5 * s + 1)) := factor_of J hs (k := 1) (by rw [h1]; decide)
  have e0 : cgZ C (A 2 0) 2 0 = some (C.2.2.2.2.2.1 (A 2 0)) := if_pos ⟨tD, rfl, rfl⟩
  have e1 : cgJ C (A 2 0) 2 1 = some (C.2.2.2.1 33 (A 2 0) 0) := if_pos tD
  have e2 : cgI C (A 2 0) 2 2 = some (C.2.2.1 34 (A 2 0) 0) := if_pos tD
  have e3 : cgI C (A 2 0) 2 3 = some (C.2.2.1 35 (A 2 0) 0) := if_pos tD
  have pre : c_DeadCycles_look N (A 2 0) (some (A 7 s)) C = if C.2.2.2.2.2.1 (A 2 0) = true then (if C.2.2.2.1 33 (A 2 0) 0 = S.2.1 7 (5 * s + 1) then (if C.2.2.1 34 (A 2 0) 0 = i32 (S.1 5 s) then (if C.2.2.1 35 (A 2 0) 0 = i32 (S.1 6 s) then some (true, C) else c_DeadCycles_look_74 N (A 2 0) (A 7 s) C) else c_DeadCycles_look_74 N (A 2 0) (A 7 s) C) else c_DeadCycles_look_74 N (A 2 0) (A 7 s) C) else c_DeadCycles_look_74 N (A 2 0) (A 7 s) C := by
    unfold c_DeadCycles_look
    rw [jon_some, rs_kind hsr, obd_some, h1, if_pos (by rfl), rs_sort hsr, obd_some, h2, if_pos (by rfl), rs_rounding hsr, obd_some, if_neg (show ¬ i32 (S.1 5 s) = (2 : Int32) from i32_ne (b := 2) (by omega) (by decide) (by omega)), e0, obd_some, e1, obd_some, hc7, jgd_true, hfac, obd_some, e2, obd_some, obd_some, e3, obd_some, rs_limit hsr, obd_some]
  obtain ⟨A', C', o, t, u⟩ := look74_jj hN J hs h1
  by_cases c1 : C.2.2.2.2.2.1 (A 2 0) = true
  · rw [if_pos c1] at pre
    by_cases c2 : C.2.2.2.1 33 (A 2 0) 0 = S.2.1 7 (5 * s + 1)
    · rw [if_pos c2] at pre
      by_cases c3 : C.2.2.1 34 (A 2 0) 0 = i32 (S.1 5 s)
      · rw [if_pos c3] at pre
        by_cases c4 : C.2.2.1 35 (A 2 0) 0 = i32 (S.1 6 s)
        · rw [if_pos c4] at pre
          rcases J.2.2.2.2.2 with ⟨q1, q2, q3⟩ | ⟨g1, g2, g3, g4, g5, g6, g7⟩
          · rw [c1] at q3; cases q3
          · refine ⟨A, C, A 0 1, A 0 2, pre, J, rfl, ⟨⟨tD, c2, c3, c4, g1, g2⟩, ⟨g3, g4⟩, g5, g6⟩, ?_⟩
            have := g7 c1
            rw [c2, c3, c4] at this
            exact this
        · rw [if_neg c4] at pre
          rw [pre]; exact ⟨A', C', o, t, u⟩
      · rw [if_neg c3] at pre
        rw [pre]; exact ⟨A', C', o, t, u⟩
    · rw [if_neg c2] at pre
      rw [pre]; exact ⟨A', C', o, t, u⟩
  · rw [if_neg c1] at pre
    rw [pre]; exact ⟨A', C', o, t, u⟩
end SIMDEAD
