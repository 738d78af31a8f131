section SIMLOOP
variable {G : GT} {E B bx m : Nat} {ad : Nat → Nat} {S : ST} {A : AT} {C : CT} {T : MT} {c f t ln : Nat} {v : Int64}
def lpC (C : CT) (f t ln : Nat) (v : Int64) : CT := csA (csA (cfr (cfr (csJ (csI (csI (cfr C 5 0 4) 64 (ck C).1 0 (i32 f)) 65 (ck C).1 0 (i32 t)) 66 (ck C).1 0 v) 7 0 2) 21 ln ln) 96 ((ck C).1 + 1) 0 (some ((ck C).1 + 2))) 67 (ck C).1 0 (some ((ck C).1 + 1))
theorem lpC_agr : Agr (ck C).1 C (lpC C f t ln v) := by
  unfold lpC
  refine Agr.trans (q' := (ck C).1) ?_ (agr_csA (Nat.le_refl _)) (Nat.le_refl _)
  refine Agr.trans (q' := (ck C).1) ?_ (agr_csA (Nat.le_add_right _ _)) (Nat.le_refl _)
  refine Agr.trans (q' := (ck C).1) ?_ (agr_fr (by show (ck C).1 ≤ (ck C).1 + 1 + 1; omega)) (Nat.le_refl _)
  refine Agr.trans (q' := (ck C).1) ?_ (agr_fr (by show (ck C).1 ≤ (ck C).1 + 1; omega)) (Nat.le_refl _)
  refine Agr.trans (q' := (ck C).1) ?_ (agr_csJ (Nat.le_refl _)) (Nat.le_refl _)
  refine Agr.trans (q' := (ck C).1) ?_ (agr_csI (Nat.le_refl _)) (Nat.le_refl _)
  refine Agr.trans (q' := (ck C).1) ?_ (agr_csI (Nat.le_refl _)) (Nat.le_refl _)
  exact agr_fr (Nat.le_refl _)
theorem linit_of (hl : ln ≤ 64) : c_Loop_init (ck C).1 (i32 f) (i32 t) (i32 ln) v (cfr C 5 0 4) = some (lpC C f t ln v) := by
  have n2 : ∀ q : Nat, (q = q + 1 + 1) = False := fun q => eq_false (by omega)
  unfold c_Loop_init
  rw [cpI_of (ci := 4) (by simp [tg_fr]) (by decide) (by decide), obd_some, cpI_of (ci := 4) (by simp [tg_I, tg_fr]) (by decide) (by decide), obd_some, cpJ_of (ci := 4) (by simp [tg_I, tg_fr]) (by decide) (by decide), obd_some]
  unfold cnew c_Row_init
  dsimp only
  rw [if_pos (i32_ge0 (by omega))]
  unfold c_Row_init_14
  rw [cnJ_of (by omega), cbd2_some, cpA_of (ci := 6) (by simp [tg_fr, ck_fr, tg_I, tg_J, ck_I, ck_J]) (by decide) (by decide), obd_some, obd_some, cpA_of (ci := 4) (by simp [tg_A, tg_fr, ck_fr, tg_I, tg_J, ck_I, ck_J, n2]) (by decide) (by decide), obd_some]
  rfl
theorem lpC_facts (hw : CW B C) :
    let X := lpC C f t ln v
    let q := (ck C).1
    (ck X = (q + 3, (ck C).2 + 4 + 2 + ln) ∧ CW B X) ∧
    (X.1 q = 5 ∧ X.2.2.1 64 q 0 = i32 f ∧ X.2.2.1 65 q 0 = i32 t ∧ X.2.2.2.1 66 q 0 = v ∧ X.2.2.2.2.1 67 q 0 = some (q + 1)) ∧
    (X.1 (q + 1) = 7 ∧ X.2.2.2.2.1 96 (q + 1) 0 = some (q + 2) ∧ X.2.2.1 97 (q + 1) 0 = 0 ∧ X.1 (q + 2) = 21 ∧ X.2.1 (q + 2) = ln ∧ ∀ k, X.2.2.2.1 900 (q + 2) k = 0) := by
  intro X q
  have n2 : ∀ q : Nat, (q = q + 1 + 1) = False := fun q => eq_false (by omega)
  have g := hw.2.2
  have f1 := fun k j => g (q + 1) (Nat.le_add_right _ _) k j
  have f2 := fun k j => g (q + 2) (Nat.le_add_right _ _) k j
  refine ⟨⟨rfl, ?_⟩, ⟨?_, ?_, ?_, ?_, ?_⟩, ?_, ?_, ?_, ?_, ?_, ?_⟩
  · refine cw_csA (cw_csA (cw_fr (cw_fr (cw_csJ (cw_csI (cw_csI (cw_fr hw) ?_) ?_) ?_))) ?_) ?_ <;> simp [tg_A, tg_I, tg_J, tg_fr, ck_fr, ck_I, ck_J, ck_A, n2]
  all_goals first
    | (simp [X, q, lpC, tg_A, tg_I, tg_J, tg_fr, ck_fr, ck_I, ck_J, ck_A, n2] ; done)
    | (simp [X, q, lpC, ln_A, ln_I, ln_J, ln_fr, ck_fr, ck_I, ck_J, ck_A] ; done)
    | (simp [X, q, lpC, csI, csJ, csA, cfr, up3, up1, ck] ; done)
    | exact (f1 97 0).1
    | (simp only [X, lpC, csI, csJ, csA, cfr, up3]; simp; exact (f1 _ _).1)
    | (intro k; exact (f2 900 k).2.1)
    | (intro k; simp only [X, lpC, csI, csJ, csA, cfr, up3]; simp; exact (f2 _ _).2.1)
def tiC (C : CT) (a19 a1 n f t ln : Nat) (v : Int64) : CT := csI (csA (lpC C f t ln v) 900 a19 n (some (ck C).1)) 20 a1 0 (i32 n + 1)
theorem tie_of (J : JJ G E B bx m ad S A C T) (hc : c < S.1 16 0) (h3 : S.1 20 c < 3) : c_Chain_tie (A 1 c) (some (ck C).1) (lpC C f t ln v) = some (tiC C (A 19 c) (A 1 c) (S.1 20 c) f t ln v) := by
  have w1 := J.1.1
  have hr := jj_c J hc
  have hag : ∀ a, a < (ck C).1 → Ag C (lpC C f t ln v) a := fun a ha => lpC_agr.ag ha
  have l1 : A 1 c < (ck C).1 := (w1.2.1 _ (by rw [hr.1.1]; decide)).2
  have l19 : A 19 c < (ck C).1 := (w1.2.1 _ (by rw [hr.2.2.1.1]; decide)).2
  have hq := (lpC_facts (f := f) (t := t) (ln := ln) (v := v) w1).2.1.1
  unfold c_Chain_tie
  rw [cgI_ag (hag _ l1), rc_loopCount hr, obd_some, if_neg (i32_nonneg (by omega)), obd_some, cgA_ag (hag _ l1), rc_loops hr, obd_some, obd_some, cal_of (n := 3) (by rw [(hag _ l19).1, hr.2.2.1.1]; decide) (by rw [(hag _ l19).2.1]; exact hr.2.2.1.2.1), obd_some, if_neg (by rw [i32_le (by omega) (by omega)]; omega), obd_some, obd_some, obd_some, obd_some,
    cqA_of (ci := 4) (n := 3) (by rw [(hag _ l19).1]; exact hr.2.2.1.1) (by decide) hq (by rw [(hag _ l19).2.1]; exact hr.2.2.1.2.1) h3 (by decide), obd_some]
  have e1 : cgI (csA (lpC C f t ln v) 900 (A 19 c) (S.1 20 c) (some (ck C).1)) (A 1 c) 1 4 = some (i32 (S.1 20 c)) := (cgI_ag (hag _ l1)).trans (rc_loopCount hr)
  rw [e1, obd_some, cpI_of (ci := 1) (by show (lpC C f t ln v).1 (A 1 c) = 1 + 1; rw [(hag _ l1).1]; exact hr.1.1) (by decide) (by decide), obd_some]
  rfl
theorem RCl_agr {S' : ST} {A' : AT} {C' : CT} {l : Nat} (hs : ∀ k, k ∈ [21, 22, 23, 26, 71] → S'.1 k l = S.1 k l) (h24 : S'.2.1 24 l = S.2.1 24 l) (h25 : ∀ j, j < 64 → S'.2.1 25 (64 * l + j) = S.2.1 25 (64 * l + j)) (h64 : S.1 23 l ≤ 64) (ha : ∀ t, t ∈ [4, 67, 68] → A' t l = A t l ∧ Ag C C' (A t l)) (h : RCl S A C l) : RCl S' A' C' l := by
  have w := RCl_ag (S := S) (S' := (S'.1, fun k j => if k = 25 then S.2.1 25 j else S'.2.1 k j, S'.2.2)) (A := A) (A' := A') (C := C) (C' := C') hs h24 rfl ha h
  refine ⟨w.1, w.2.1, w.2.2.1, w.2.2.2.1, w.2.2.2.2.1, w.2.2.2.2.2.1, w.2.2.2.2.2.2.1, w.2.2.2.2.2.2.2.1, fun k hk => ?_⟩
  have e := w.2.2.2.2.2.2.2.2 k hk
  refine e.trans (h25 _ ?_).symm
  have hk' : k < S'.1 23 l := hk
  rw [hs 23 (by decide)] at hk'
  have e23 := hs 23 (by decide)
  show (S'.1 26 l + k) % S'.1 23 l < 64
  rw [e23]
  have := Nat.mod_lt (S'.1 26 l + k) (show 0 < S.1 23 l by omega)
  omega
end SIMLOOP
