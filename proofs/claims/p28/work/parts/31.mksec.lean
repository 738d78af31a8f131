/-! a section is made -/
/-- what stays: all that lies below an address -/
def Agr (q : Nat) (C C' : CT) : Prop := ∀ a, a < q → C'.1 a = C.1 a ∧ C'.2.1 a = C.2.1 a ∧ (∀ k j, C'.2.2.1 k a j = C.2.2.1 k a j) ∧ (∀ k j, C'.2.2.2.1 k a j = C.2.2.2.1 k a j) ∧ (∀ k j, C'.2.2.2.2.1 k a j = C.2.2.2.2.1 k a j) ∧ C'.2.2.2.2.2.1 a = C.2.2.2.2.2.1 a
theorem Agr.rfl' {q : Nat} {C : CT} : Agr q C C := fun _ _ => ⟨rfl, rfl, fun _ _ => rfl, fun _ _ => rfl, fun _ _ => rfl, rfl⟩
theorem Agr.trans {q q' : Nat} {C C' C'' : CT} (h1 : Agr q C C') (h2 : Agr q' C' C'') (hq : q ≤ q') : Agr q C C'' := fun a ha => by
  obtain ⟨a1, a2, a3, a4, a5, a6⟩ := h1 a ha
  obtain ⟨b1, b2, b3, b4, b5, b6⟩ := h2 a (by omega)
  exact ⟨b1.trans a1, b2.trans a2, fun k j => (b3 k j).trans (a3 k j), fun k j => (b4 k j).trans (a4 k j), fun k j => (b5 k j).trans (a5 k j), b6.trans a6⟩
theorem agr_fr {q : Nat} {C : CT} {t n s : Nat} (hq : q ≤ (ck C).1) : Agr q C (cfr C t n s) := fun a ha => by
  have : a ≠ (ck C).1 := by omega
  exact ⟨by simp [cfr, up1, this], by simp [cfr, up1, this], fun _ _ => rfl, fun _ _ => rfl, fun _ _ => rfl, rfl⟩
theorem agr_csI {q : Nat} {C : CT} {k b j : Nat} {v : Int32} (hq : q ≤ b) : Agr q C (csI C k b j v) := fun a ha => by
  have : a ≠ b := by omega
  exact ⟨rfl, rfl, fun x y => by simp [csI, up3, this], fun _ _ => rfl, fun _ _ => rfl, rfl⟩
theorem agr_csJ {q : Nat} {C : CT} {k b j : Nat} {v : Int64} (hq : q ≤ b) : Agr q C (csJ C k b j v) := fun a ha => by
  have : a ≠ b := by omega
  exact ⟨rfl, rfl, fun _ _ => rfl, fun x y => by simp [csJ, up3, this], fun _ _ => rfl, rfl⟩
theorem agr_csA {q : Nat} {C : CT} {k b j : Nat} {v : Option Nat} (hq : q ≤ b) : Agr q C (csA C k b j v) := fun a ha => by
  have : a ≠ b := by omega
  exact ⟨rfl, rfl, fun _ _ => rfl, fun _ _ => rfl, fun x y => by simp [csA, up3, this], rfl⟩
/-- the fresh section at q with its rest (a row and that one's cell), its row of factors, its row of states and that one's cells behind it -/
def secC (C : CT) (num kd so ln : Int32) (nums : Option Nat) (n rl : Nat) : CT :=
  csA (csA (cfr (cfr (csA (cfr (csA (csI (csI (csI (csI (csI (csA (csA (cfr (cfr (cfr C 8 0 15) 7 0 2) 21 1 1) 96 ((ck C).1 + 1) 0 (some ((ck C).1 + 2))) 121 (ck C).1 0 (some ((ck C).1 + 1))) 125 (ck C).1 0 (-1)) 112 (ck C).1 0 num) 113 (ck C).1 0 kd) 114 (ck C).1 0 so) 115 (ck C).1 0 ln) 116 (ck C).1 0 nums) 21 n n) 117 (ck C).1 0 (some ((ck C).1 + 3))) 7 0 2) 21 rl rl) 96 ((ck C).1 + 4) 0 (some ((ck C).1 + 5))) 118 (ck C).1 0 (some ((ck C).1 + 4))
theorem secC_agr {C : CT} {num kd so ln : Int32} {nums : Option Nat} {n rl : Nat} : Agr (ck C).1 C (secC C num kd so ln nums n rl) := by
  unfold secC
  refine Agr.trans (q' := (ck C).1) ?_ (agr_csA (Nat.le_refl _)) (Nat.le_refl _)
  refine Agr.trans (q' := (ck C).1) ?_ (agr_csA (Nat.le_add_right _ _)) (Nat.le_refl _)
  refine Agr.trans (q' := (ck C).1) ?_ (agr_fr (by show (ck C).1 ≤ (ck C).1 + 1 + 1 + 1 + 1 + 1; omega)) (Nat.le_refl _)
  refine Agr.trans (q' := (ck C).1) ?_ (agr_fr (by show (ck C).1 ≤ (ck C).1 + 1 + 1 + 1 + 1; omega)) (Nat.le_refl _)
  refine Agr.trans (q' := (ck C).1) ?_ (agr_csA (Nat.le_refl _)) (Nat.le_refl _)
  refine Agr.trans (q' := (ck C).1) ?_ (agr_fr (by show (ck C).1 ≤ (ck C).1 + 1 + 1 + 1; omega)) (Nat.le_refl _)
  refine Agr.trans (q' := (ck C).1) ?_ (agr_csA (Nat.le_refl _)) (Nat.le_refl _)
  refine Agr.trans (q' := (ck C).1) ?_ (agr_csI (Nat.le_refl _)) (Nat.le_refl _)
  refine Agr.trans (q' := (ck C).1) ?_ (agr_csI (Nat.le_refl _)) (Nat.le_refl _)
  refine Agr.trans (q' := (ck C).1) ?_ (agr_csI (Nat.le_refl _)) (Nat.le_refl _)
  refine Agr.trans (q' := (ck C).1) ?_ (agr_csI (Nat.le_refl _)) (Nat.le_refl _)
  refine Agr.trans (q' := (ck C).1) ?_ (agr_csI (Nat.le_refl _)) (Nat.le_refl _)
  refine Agr.trans (q' := (ck C).1) ?_ (agr_csA (Nat.le_refl _)) (Nat.le_refl _)
  refine Agr.trans (q' := (ck C).1) ?_ (agr_csA (Nat.le_add_right _ _)) (Nat.le_refl _)
  refine Agr.trans (q' := (ck C).1) ?_ (agr_fr (by show (ck C).1 ≤ (ck C).1 + 1 + 1; omega)) (Nat.le_refl _)
  refine Agr.trans (q' := (ck C).1) ?_ (agr_fr (by show (ck C).1 ≤ (ck C).1 + 1; omega)) (Nat.le_refl _)
  exact agr_fr (Nat.le_refl _)
theorem cnJ_of {C : CT} {n : Nat} (h : n ≤ 100000) : cnJ (i32 n) C = some ((ck C).1, cfr C 21 n n) := by
  unfold cnJ
  rw [i32_nat (by omega), if_pos ⟨i32_nonneg (by omega), by omega⟩]
theorem i32_ge0 {n : Nat} (h : n < 2 ^ 31) : 0 ≤ i32 n := Int32.not_lt.mp (i32_nonneg h)
theorem jsr_of {k j : Nat} (hk : k < 4) (hj : j < 16) : jsr k (i32 j) = some (sST k j) := by
  unfold jsr
  rw [if_pos hk, jrg_i32 hj (by decide)]
  rfl
theorem sFAC_eq : ∀ kd, kd < 16 → sST 0 kd = i32 (nfac kd) := by decide
theorem sCEL_eq : ∀ kd, kd < 16 → (ringy kd = true → sST 1 kd = -1) ∧ (ringy kd = false → sST 1 kd = i32 (nrow kd 0)) := by decide
theorem nrow_flat : ∀ kd, ringy kd = false → ∀ ln, nrow kd ln = nrow kd 0 := by
  intro kd h ln
  unfold nrow
  split <;> first | rfl | (exfalso; revert h; decide)
theorem tg_I {C : CT} {k a j b : Nat} {v : Int32} : (csI C k a j v).1 b = C.1 b := rfl
theorem tg_J {C : CT} {k a j b : Nat} {v : Int64} : (csJ C k a j v).1 b = C.1 b := rfl
theorem tg_A {C : CT} {k a j b : Nat} {v : Option Nat} : (csA C k a j v).1 b = C.1 b := rfl
theorem tg_fr {C : CT} {t n s b : Nat} : (cfr C t n s).1 b = if b = (ck C).1 then t else C.1 b := rfl
theorem ln_I {C : CT} {k a j b : Nat} {v : Int32} : (csI C k a j v).2.1 b = C.2.1 b := rfl
theorem ln_J {C : CT} {k a j b : Nat} {v : Int64} : (csJ C k a j v).2.1 b = C.2.1 b := rfl
theorem ln_A {C : CT} {k a j b : Nat} {v : Option Nat} : (csA C k a j v).2.1 b = C.2.1 b := rfl
theorem ln_fr {C : CT} {t n s b : Nat} : (cfr C t n s).2.1 b = if b = (ck C).1 then n else C.2.1 b := rfl
theorem ck_I {C : CT} {k a j : Nat} {v : Int32} : ck (csI C k a j v) = ck C := rfl
theorem ck_J {C : CT} {k a j : Nat} {v : Int64} : ck (csJ C k a j v) = ck C := rfl
theorem ck_A {C : CT} {k a j : Nat} {v : Option Nat} : ck (csA C k a j v) = ck C := rfl
theorem ck_fr {C : CT} {t n s : Nat} : ck (cfr C t n s) = ((ck C).1 + 1, (ck C).2 + s) := rfl
theorem jsl_eq {k : Nat} (h : k < 4) : jsl k = some 16 := if_pos h
theorem rowInit_of {X : CT} {r n : Nat} (hn : n ≤ 100000) (hr : X.1 r = 7) (hne : r ≠ (ck X).1) : c_Row_init r (i32 n) X = some (csA (cfr X 21 n n) 96 r 0 (some (ck X).1)) := by
  show _ = some (csA (cfr X 21 n n) (16 * 6 + 0) r 0 (some (ck X).1))
  unfold c_Row_init
  rw [if_pos (i32_ge0 (by omega))]
  unfold c_Row_init_14
  rw [cnJ_of hn, cbd2_some, cpA_of (ci := 6) (by rw [tg_fr, if_neg hne]; exact hr) (by decide) (by decide), obd_some]
theorem init_of {C : CT} {num ln : Int32} {kd so : Nat} {nums : Option Nat} {rl : Nat} (hk : kd < 16) (hrl : rl = nrow kd ln) (hl : ringy kd = true → ln = i32 rl) (h64 : rl ≤ 64) :
    c_Section_init (ck C).1 num (i32 kd) (i32 so) ln nums (cfr C 8 0 15) = some (secC C num (i32 kd) (i32 so) ln nums (nfac kd) rl) := by
  have h5 := nfac_5 kd
  have n2 : ∀ q : Nat, (q = q + 1 + 1) = False := fun q => eq_false (by omega)
  have n3 : ∀ q : Nat, (q = q + 1 + 1 + 1) = False := fun q => eq_false (by omega)
  have n4 : ∀ q : Nat, (q = q + 1 + 1 + 1 + 1) = False := fun q => eq_false (by omega)
  have e1 : ¬ i32 kd < 0 := i32_nonneg (by omega)
  have e2 : i32 kd < 16 := (i32_lt (b := 16) (by omega) (by decide)).mpr hk
  have e3 : jsr 0 (i32 kd) = some (i32 (nfac kd)) := by rw [jsr_of (by decide) hk, sFAC_eq kd hk]
  have e4 : 0 ≤ i32 (nfac kd) := i32_ge0 (by omega)
  have e5 : ∀ X : CT, cnJ (i32 (nfac kd)) X = some ((ck X).1, cfr X 21 (nfac kd) (nfac kd)) := fun X => cnJ_of (by omega)
  have e7 : 0 ≤ i32 rl := i32_ge0 (by omega)
  have e8 : ∃ z, jsr 1 (i32 kd) = some z ∧ (if 0 ≤ z then z else ln) = i32 rl := by
    rw [jsr_of (by decide) hk]
    refine ⟨_, rfl, ?_⟩
    cases hr : ringy kd with
    | true => rw [(sCEL_eq kd hk).1 hr, if_neg (by decide)]; exact hl hr
    | false =>
      have hn : nrow kd 0 = rl := by rw [hrl]; exact (nrow_flat kd hr ln).symm
      rw [(sCEL_eq kd hk).2 hr, hn, if_pos e7]
  obtain ⟨z, e8, e9⟩ := e8
  have key : ∀ X : CT, X.1 (ck C).1 = 8 → (ck X).1 = (ck C).1 + 4 → c_Section_init_109 (ck C).1 ln z X = some (csA (csA (cfr (cfr X 7 0 2) 21 rl rl) 96 ((ck C).1 + 4) 0 (some ((ck C).1 + 5))) 118 (ck C).1 0 (some ((ck C).1 + 4))) := by
    intro X hX hc
    unfold c_Section_init_109 cnew
    rw [hc]
    have h128 : ∀ y, y = i32 rl → c_Section_init_128 y ((ck C).1 + 4) ((ck C).1 + 4) (ck C).1 (cfr X (6 + 1) 0 (jnfl 6)) = some (csA (csA (cfr (cfr X 7 0 2) 21 rl rl) 96 ((ck C).1 + 4) 0 (some ((ck C).1 + 5))) 118 (ck C).1 0 (some ((ck C).1 + 4))) := by
      intro y hy
      subst hy
      unfold c_Section_init_128
      rw [show cfr X (6 + 1) 0 (jnfl 6) = cfr X 7 0 2 from rfl, rowInit_of (by omega) (by rw [tg_fr, hc, if_pos rfl]) (by rw [ck_fr, hc]; show (ck C).1 + 4 ≠ (ck C).1 + 4 + 1; omega), obd_some, cpA_of (ci := 7) (by simp [tg_A, tg_fr, ck_fr, hc, hX] <;> omega) (by decide) (by decide), obd_some, ck_fr, hc]
    dsimp only
    by_cases q : 0 ≤ z
    · rw [if_pos q]; rw [if_pos q] at e9; exact h128 z e9
    · rw [if_neg q]; rw [if_neg q] at e9; exact h128 ln e9
  have r0 : c_Row_init ((ck C).1 + 1) (1 : Int32) (cfr (cfr C 8 0 15) 7 0 2) = some (csA (cfr (cfr (cfr C 8 0 15) 7 0 2) 21 1 1) 96 ((ck C).1 + 1) 0 (some ((ck C).1 + 2))) :=
    rowInit_of (n := 1) (by decide) (by simp [tg_fr, ck_fr, n2, n3, n4]) (by simp [ck_fr, n2, n3, n4])
  unfold c_Section_init cnew
  dsimp only
  rw [show (ck (cfr C 8 0 15)).1 = (ck C).1 + 1 from rfl, show cfr (cfr C 8 0 15) (6 + 1) 0 (jnfl 6) = cfr (cfr C 8 0 15) 7 0 2 from rfl, r0, obd_some, cpA_of (ci := 7) (by simp [tg_A, tg_fr, ck_fr, n2, n3, n4]) (by decide) (by decide), obd_some,
    cpI_of (by simp [tg_A, tg_fr, ck_fr, n2, n3, n4]) (by decide) (by decide), obd_some, cpI_of (by simp [tg_A, tg_I, tg_fr, ck_fr, n2, n3, n4]) (by decide) (by decide), obd_some, cpI_of (by simp [tg_A, tg_I, tg_fr, ck_fr, n2, n3, n4]) (by decide) (by decide), obd_some, cpI_of (by simp [tg_A, tg_I, tg_fr, ck_fr, n2, n3, n4]) (by decide) (by decide), obd_some, cpI_of (by simp [tg_A, tg_I, tg_fr, ck_fr, n2, n3, n4]) (by decide) (by decide), obd_some, cpA_of (by simp [tg_A, tg_I, tg_fr, ck_fr, n2, n3, n4]) (by decide) (by decide), obd_some, if_neg e1, jsl_eq (by decide), obd_some, if_pos e2, e3, obd_some]
  unfold c_Section_init_69
  rw [if_pos e4]
  unfold c_Section_init_83
  rw [e5, cbd2_some, cpA_of (ci := 7) (by simp [tg_A, tg_I, tg_fr, ck_fr, ck_I, ck_A, n2, n3, n4]) (by decide) (by decide), obd_some, if_neg e1, jsl_eq (by decide), obd_some, if_pos e2, e8, obd_some]
  rw [key _ (by simp [tg_A, tg_I, tg_fr, ck_fr, ck_I, ck_A, n2, n3, n4]) (by simp [ck_fr, ck_I, ck_A, n2, n3, n4])]
  rfl

/-- what the fresh section holds -/
theorem secC_facts {B : Nat} {C : CT} {num kd so ln : Int32} {nums : Option Nat} {n rl : Nat} (hw : CW B C) :
    let X := secC C num kd so ln nums n rl
    let q := (ck C).1
    (ck X = (q + 6, (ck C).2 + 18 + n + 2 + rl) ∧ CW B X) ∧
    (X.1 q = 8 ∧ X.2.2.1 112 q 0 = num ∧ X.2.2.1 113 q 0 = kd ∧ X.2.2.1 114 q 0 = so ∧ X.2.2.1 115 q 0 = ln ∧ X.2.2.2.2.1 116 q 0 = nums ∧ X.2.2.2.2.1 117 q 0 = some (q + 3) ∧ X.2.2.2.2.1 118 q 0 = some (q + 4)) ∧
    (X.2.2.1 119 q 0 = 0 ∧ X.2.2.1 120 q 0 = 0 ∧ (X.2.2.2.2.1 121 q 0 = some (q + 1) ∧ X.1 (q + 1) = 7 ∧ X.2.2.2.2.1 96 (q + 1) 0 = some (q + 2) ∧ X.2.2.1 97 (q + 1) 0 = 0 ∧ X.1 (q + 2) = 21 ∧ X.2.1 (q + 2) = 1 ∧ X.2.2.2.1 900 (q + 2) 0 = 0) ∧
      X.2.2.1 122 q 0 = 0 ∧ X.2.2.1 123 q 0 = 0 ∧ X.2.2.2.2.1 124 q 0 = none ∧ X.2.2.1 125 q 0 = -1 ∧ X.2.2.2.2.1 126 q 0 = none) ∧
    (X.1 (q + 3) = 21 ∧ X.2.1 (q + 3) = n ∧ ∀ k, X.2.2.2.1 900 (q + 3) k = 0) ∧
    (X.1 (q + 4) = 7 ∧ X.2.2.2.2.1 96 (q + 4) 0 = some (q + 5) ∧ X.2.2.1 97 (q + 4) 0 = 0 ∧ X.1 (q + 5) = 21 ∧ X.2.1 (q + 5) = rl ∧ ∀ k, X.2.2.2.1 900 (q + 5) k = 0) := by
  intro X q
  have n2 : ∀ q : Nat, (q = q + 1 + 1) = False := fun q => eq_false (by omega)
  have n3 : ∀ q : Nat, (q = q + 1 + 1 + 1) = False := fun q => eq_false (by omega)
  have n4 : ∀ q : Nat, (q = q + 1 + 1 + 1 + 1) = False := fun q => eq_false (by omega)
  have n5 : ∀ q : Nat, (q = q + 1 + 1 + 1 + 1 + 1) = False := fun q => eq_false (by omega)
  have f := hw.2.2
  have f0 := fun k j => f q (Nat.le_refl _) k j
  have f1 := fun k j => f (q + 1) (Nat.le_add_right _ _) k j
  have f2 := fun k j => f (q + 2) (Nat.le_add_right _ _) k j
  have f3 := fun k j => f (q + 3) (Nat.le_add_right _ _) k j
  have f4 := fun k j => f (q + 4) (Nat.le_add_right _ _) k j
  have f5 := fun k j => f (q + 5) (Nat.le_add_right _ _) k j
  have ec : ck X = (q + 6, (ck C).2 + 18 + n + 2 + rl) := by
    refine Prod.ext ?_ ?_
    · show (ck C).1 + 1 + 1 + 1 + 1 + 1 + 1 = (ck C).1 + 6
      omega
    · show (ck C).2 + 15 + 2 + 1 + n + 2 + rl = (ck C).2 + 18 + n + 2 + rl
      omega
  refine ⟨⟨ec, ?_⟩, ⟨?_, ?_, ?_, ?_, ?_, ?_, ?_, ?_⟩, ⟨?_, ?_, ⟨?_, ?_, ?_, ?_, ?_, ?_, ?_⟩, ?_, ?_, ?_, ?_, ?_⟩, ⟨?_, ?_, ?_⟩, ?_, ?_, ?_, ?_, ?_, ?_⟩
  · refine cw_csA (cw_csA (cw_fr (cw_fr (cw_csA (cw_fr (cw_csA (cw_csI (cw_csI (cw_csI (cw_csI (cw_csI (cw_csA (cw_csA (cw_fr (cw_fr (cw_fr hw))) ?_) ?_) ?_) ?_) ?_) ?_) ?_) ?_)) ?_))) ?_) ?_ <;> simp [tg_A, tg_I, tg_fr, ck_fr, ck_I, ck_A, n2, n3, n4, n5]
  all_goals first
    | (simp [X, q, secC, tg_A, tg_I, tg_fr, ck_fr, ck_I, ck_A, n2, n3, n4, n5] ; done)
    | (simp [X, q, secC, ln_A, ln_I, ln_fr, ck_fr, ck_I, ck_A] ; done)
    | (simp [X, q, secC, tg_A, tg_I, tg_fr, ln_A, ln_I, ln_fr, ck_fr, ck_I, ck_A, csI, csA, cfr, up3, up1, ck] ; done)
    | (simp only [X, secC, csI, csA, cfr, up3]; simp; first | exact (f0 _ _).1 | exact (f0 _ _).2.1 | exact (f0 _ _).2.2.1 | exact (f1 _ _).1 | exact (f4 _ _).1)
    | exact (f0 121 0).2.1
    | exact (f1 97 0).1
    | exact (f4 97 0).1
    | exact (f2 900 0).2.1
    | (intro k; simp only [X, secC, csI, csA, cfr, up3]; first | exact (f3 _ _).2.1 | exact (f5 _ _).2.1)
