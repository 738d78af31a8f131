/-! a chain remade: what was made is taken in -/
section ADOPT
variable {G : GT} {E B bx m : Nat} {ad : Nat → Nat} {S S0 S1 Z : ST} {A A0 A' : AT} {C C0 C' V V' : CT} {T : MT} {X Y : Nat → Prop} {s c n st q nl : Nat} {x : CM} {α L : Nat → Nat}
theorem pd_symm (h : Pd X Y C V) : Pd X Y V C := by
  refine ⟨⟨h.1.1.symm, h.1.2.1.symm, h.1.2.2.1.symm, h.1.2.2.2.symm⟩, fun k a j z => (h.2.1 k a j z).symm, fun k a j z z' => (h.2.2.1 k a j z z').symm, fun a ha => ?_, fun a ha => ?_⟩
  · rw [h.1.1, pd_ck h]; exact h.2.2.2.1 a ha
  · rw [h.1.1, pd_ck h]; exact h.2.2.2.2 a ha
/-- what is not made is thought far away -/
theorem jj_far (J : JJ G E B bx m ad S A C T) : ∃ A', JJ G E B bx m ad S A' C T ∧ (∀ t i, t ≠ 0 → A' t i = A t i) ∧ (ck C).1 ≤ A' 0 0 ∧ (C.2.2.2.2.1 37 (A 2 0) 0 = none → ∀ i, (ck C).1 ≤ A' 0 i) ∧ (C.2.2.2.2.1 37 (A 2 0) 0 ≠ none → A' 0 1 = A 0 1 ∧ A' 0 2 = A 0 2) := by
  have hJ := J
  obtain ⟨⟨w1, w2, w3⟩, hRC, hRT, hWF, hRK, hRD⟩ := J
  have hva : ∀ t i, VA S t i → t ≠ 0 → A t i < (ck C).1 := fun t i h h0 => (w1.2.1 _ (va_tag hJ h h0)).2
  have hd : C.2.2.2.2.1 37 (A 2 0) 0 ≠ none → ∀ i, i ∈ [1, 2] → A 0 i < (ck C).1 := by
    intro hn i hi
    rcases hRD with h | ⟨g1, g2, g3, g4, g5, g6, g7⟩
    · exact absurd h.1 hn
    · have e : i = 1 ∨ i = 2 := by simpa using hi
      rcases e with rfl | rfl
      · exact (w1.2.1 _ (by rw [g3]; decide)).2
      · exact (w1.2.1 _ (by rw [g5]; decide)).2
  let A' : AT := fun t i => if t = 0 ∧ (i = 0 ∨ C.2.2.2.2.1 37 (A 2 0) 0 = none) then (ck C).1 + i else A t i
  have e : ∀ t i, t ≠ 0 → A' t i = A t i := fun t i h => if_neg (fun z => h z.1)
  have ef : ∀ i, (i = 0 ∨ C.2.2.2.2.1 37 (A 2 0) 0 = none) → A' 0 i = (ck C).1 + i := fun i h => if_pos ⟨rfl, h⟩
  have en : ∀ i, i ≠ 0 → C.2.2.2.2.1 37 (A 2 0) 0 ≠ none → A' 0 i = A 0 i := fun i h h' => if_neg (fun z => by rcases z.2 with z | z; exact h z; exact h' z)
  refine ⟨A', jj_deadC hJ e w1 (fun _ _ _ _ _ => Ag.refl _ _) (Ag.refl _ _) rfl w2 ?_ ?_ ?_ hRT, e, by rw [ef 0 (Or.inl rfl)]; omega, fun hn i => by rw [ef i (Or.inr hn)]; omega, fun hn => ⟨en 1 (by decide) hn, en 2 (by decide) hn⟩⟩
  · intro z hz
    rw [e 2 0 (by decide)] at hz
    exact w3 z hz
  · intro t i t' i' h h' heq
    by_cases z : t = 0
    · subst z
      by_cases z' : t' = 0
      · subst z'
        refine ⟨rfl, ?_⟩
        have hi : i < 3 := h
        have hi' : i' < 3 := h'
        by_cases c1 : i = 0 ∨ C.2.2.2.2.1 37 (A 2 0) 0 = none
        · rw [ef i c1] at heq
          by_cases c2 : i' = 0 ∨ C.2.2.2.2.1 37 (A 2 0) 0 = none
          · rw [ef i' c2] at heq; omega
          · rw [en i' (fun z => c2 (Or.inl z)) (fun z => c2 (Or.inr z))] at heq
            have := hd (fun z => c2 (Or.inr z)) i' (by have : i' ≠ 0 := fun z => c2 (Or.inl z); have : i' = 1 ∨ i' = 2 := by omega
                                                       simpa using this)
            omega
        · rw [en i (fun z => c1 (Or.inl z)) (fun z => c1 (Or.inr z))] at heq
          have hlt := hd (fun z => c1 (Or.inr z)) i (by have : i ≠ 0 := fun z => c1 (Or.inl z); have : i = 1 ∨ i = 2 := by omega
                                                        simpa using this)
          by_cases c2 : i' = 0 ∨ C.2.2.2.2.1 37 (A 2 0) 0 = none
          · rw [ef i' c2] at heq; omega
          · rw [en i' (fun z => c2 (Or.inl z)) (fun z => c2 (Or.inr z))] at heq
            exact (hRC.2.2.2 0 i 0 i' h h' heq).2
      · rw [e t' i' z'] at heq
        have hlt := hva t' i' h' z'
        by_cases c1 : i = 0 ∨ C.2.2.2.2.1 37 (A 2 0) 0 = none
        · rw [ef i c1] at heq; omega
        · rw [en i (fun z => c1 (Or.inl z)) (fun z => c1 (Or.inr z))] at heq
          exact hRC.2.2.2 0 i t' i' h h' heq
    · rw [e t i z] at heq
      have hlt := hva t i h z
      by_cases z' : t' = 0
      · subst z'
        by_cases c1 : i' = 0 ∨ C.2.2.2.2.1 37 (A 2 0) 0 = none
        · rw [ef i' c1] at heq; omega
        · rw [en i' (fun z => c1 (Or.inl z)) (fun z => c1 (Or.inr z))] at heq
          exact hRC.2.2.2 t i 0 i' h h' heq
      · rw [e t' i' z'] at heq
        exact hRC.2.2.2 t i t' i' h h' heq
  · refine RD_ag (A := A) (C := C) ⟨e 2 0 (by decide), Ag.refl _ _⟩ (fun hn i hi => ⟨en i (fun z => ?_) hn, Ag.refl _ _⟩) hRD
    subst z; revert hi; decide
/-- a chain that is being made, at q -/
def OM (C : CT) (q n : Nat) (α : Nat → Nat) (nl : Nat) (L : Nat → Nat) : Prop :=
  (C.1 q = 2 ∧ C.2.2.2.2.1 17 q 0 = some (q + 1) ∧ C.2.2.1 18 q 0 = i32 n ∧ C.2.2.2.2.1 19 q 0 = some (q + 2) ∧ C.2.2.1 20 q 0 = i32 nl ∧ C.2.2.2.2.1 21 q 0 = some (q + 3) ∧ C.2.2.1 22 q 0 = 0 ∧ C.2.2.1 23 q 0 = 0 ∧ C.2.2.1 24 q 0 = 0 ∧ C.2.2.2.2.1 25 q 0 = none) ∧
  (C.1 (q + 1) = 37 ∧ C.2.1 (q + 1) = 10 ∧ ∀ p, p < 10 → C.2.2.2.2.1 900 (q + 1) p = if p < n then some (α p) else none) ∧
  (C.1 (q + 2) = 34 ∧ C.2.1 (q + 2) = 3 ∧ ∀ i, i < 3 → C.2.2.2.2.1 900 (q + 2) i = if i < nl then some (L i) else none) ∧
  (C.1 (q + 3) = 21 ∧ C.2.1 (q + 3) = 400 ∧ ∀ j, C.2.2.2.1 900 (q + 3) j = 0)
def LM (C : CT) (l f t ln : Nat) (v : Int64) : Prop := (C.1 l = 5 ∧ C.2.2.1 64 l 0 = i32 f ∧ C.2.2.1 65 l 0 = i32 t ∧ C.2.2.2.1 66 l 0 = v ∧ C.2.2.2.2.1 67 l 0 = some (l + 1)) ∧
  (C.1 (l + 1) = 7 ∧ C.2.2.2.2.1 96 (l + 1) 0 = some (l + 2) ∧ C.2.2.1 97 (l + 1) 0 = 0 ∧ C.1 (l + 2) = 21 ∧ C.2.1 (l + 2) = ln ∧ ∀ k, C.2.2.2.1 900 (l + 2) k = 0)
theorem om_ag (h : OM C q n α nl L) (h0 : Ag C C' q) (h1 : Ag C C' (q + 1)) (h2 : Ag C C' (q + 2)) (h3 : Ag C C' (q + 3)) : OM C' q n α nl L := by
  unfold OM at h ⊢
  simp only [h0.1, h0.2.2.1, h0.2.2.2.2.1, h1.1, h1.2.1, h1.2.2.2.2.1, h2.1, h2.2.1, h2.2.2.2.2.1, h3.1, h3.2.1, h3.2.2.2.1]
  exact h
theorem lm_ag {l f t ln : Nat} {v : Int64} (h : LM C l f t ln v) (h0 : Ag C C' l) (h1 : Ag C C' (l + 1)) (h2 : Ag C C' (l + 2)) : LM C' l f t ln v := by
  unfold LM at h ⊢
  simp only [h0.1, h0.2.2.1, h0.2.2.2.1, h0.2.2.2.2.1, h1.1, h1.2.2.1, h1.2.2.2.2.1, h2.1, h2.2.1, h2.2.2.2.1]
  exact h
/-- what was registered -/
def rgC (C : CT) (q n a31 bx : Nat) : CT := csI (csA (csI C 16 q 0 (i32 n)) 900 a31 n (some q)) 6 bx 0 (i32 n + 1)
theorem reg_run (hb : RCb S A C bx) (hq : C.1 q = 2) (h20 : S.1 16 0 < 20) : c_B_registered bx (some q) C = some (i32 (S.1 16 0), rgC C q (S.1 16 0) (A 3 1) bx) := by
  have hne : q ≠ bx := fun z => by have := hb.1.1; rw [← z, hq] at this; exact absurd this (by decide)
  have hn3 : q ≠ A 3 1 := fun z => by have := hb.2.2.2.2.1.1; rw [← z, hq] at this; exact absurd this (by decide)
  have g8 : ∀ a, a ≠ q → Ag C (csI C (16 * 1 + 0) q 0 (i32 (S.1 16 0))) a := fun a ha => ag_csI (Ag.refl _ _) ha
  unfold c_B_registered
  rw [rb_chainCount hb, obd_some, if_neg (i32_nonneg (by omega)), obd_some, rb_chains hb, obd_some, obd_some, cal_of (n := 20) (by rw [hb.2.2.2.2.1.1]; decide) hb.2.2.2.2.1.2.1, obd_some, if_pos (by rw [i32_lt (by omega) (by omega)]; omega), obd_some, obd_some, cpI_of (ci := 1) hq (by decide) (by decide), obd_some,
    cgA_ag (g8 bx (Ne.symm hne)), rb_chains hb, obd_some, cgI_ag (g8 bx (Ne.symm hne)), rb_chainCount hb, obd_some, obd_some, cqA_of (n := 20) (by exact hb.2.2.2.2.1.1) (by decide) (show (csI C (16 * 1 + 0) q 0 (i32 (S.1 16 0))).1 q = 1 + 1 from hq) (by exact hb.2.2.2.2.1.2.1) h20 (by decide), obd_some]
  have e1 : cgI (csA (csI C (16 * 1 + 0) q 0 (i32 (S.1 16 0))) 900 (A 3 1) (S.1 16 0) (some q)) bx 0 6 = some (i32 (S.1 16 0)) := (cgI_ag (g8 bx (Ne.symm hne))).trans (rb_chainCount hb)
  rw [e1, obd_some, cpI_of (ci := 0) (by exact hb.1.1) (by decide) (by decide), obd_some]
  have e2 : cgI (csI (csA (csI C (16 * 1 + 0) q 0 (i32 (S.1 16 0))) 900 (A 3 1) (S.1 16 0) (some q)) (16 * 0 + 6) bx 0 (i32 (S.1 16 0) + 1)) q 1 0 = some (i32 (S.1 16 0)) := by
    refine (if_pos (show C.1 q = 1 + 1 from hq)).trans (congrArg some ?_)
    simp [csI, csA, up3]
  rw [e2, obd_some]
  rfl
end ADOPT
