/-! a chain remade: the heap beside the coupling's -/
section BESIDE
variable {G : GT} {E B bx m : Nat} {ad : Nat → Nat} {S S0 S' : ST} {A A' : AT} {C C' V V' : CT} {T : MT} {X Y X' Y' : Nat → Prop} {s c st : Nat}
/-- two heaps that differ at most in where some sections stand, what some sections hold, what some chains are held by -/
def Pd (X Y : Nat → Prop) (C V : CT) : Prop := (C.1 = V.1 ∧ C.2.1 = V.2.1 ∧ C.2.2.2.1 = V.2.2.2.1 ∧ C.2.2.2.2.2 = V.2.2.2.2.2) ∧ (∀ k a j, ¬ (k = 125 ∧ X a) → C.2.2.1 k a j = V.2.2.1 k a j) ∧
  (∀ k a j, ¬ ((k = 124 ∨ k = 126) ∧ X a) → ¬ (k = 25 ∧ Y a) → C.2.2.2.2.1 k a j = V.2.2.2.2.1 k a j) ∧ (∀ a, X a → V.1 a = 8 ∧ a < (ck V).1) ∧ ∀ a, Y a → V.1 a = 2 ∧ a < (ck V).1
theorem pd_ck (h : Pd X Y C V) : ck C = ck V := congrArg (fun x : (Nat → Bool) × (Nat × Nat) => x.2) h.1.2.2.2
theorem pd_none : Pd (fun _ => False) (fun _ => False) C C := ⟨⟨rfl, rfl, rfl, rfl⟩, fun _ _ _ _ => rfl, fun _ _ _ _ _ => rfl, fun _ h => h.elim, fun _ h => h.elim⟩
theorem pd_I {k a j : Nat} {v : Int32} (h : Pd X Y C V) : Pd X Y (csI C k a j v) (csI V k a j v) := ⟨⟨h.1.1, h.1.2.1, h.1.2.2.1, h.1.2.2.2⟩, fun x y z q => by
  show (if x = k ∧ y = a ∧ z = j then v else C.2.2.1 x y z) = (if x = k ∧ y = a ∧ z = j then v else V.2.2.1 x y z)
  rw [h.2.1 x y z q], h.2.2.1, h.2.2.2.1, h.2.2.2.2⟩
theorem pd_J {k a j : Nat} {v : Int64} (h : Pd X Y C V) : Pd X Y (csJ C k a j v) (csJ V k a j v) := ⟨⟨h.1.1, h.1.2.1, (by
  show up3 C.2.2.2.1 k a j v = up3 V.2.2.2.1 k a j v
  rw [h.1.2.2.1]), h.1.2.2.2⟩, h.2.1, h.2.2.1, h.2.2.2.1, h.2.2.2.2⟩
theorem pd_A {k a j : Nat} {v : Option Nat} (h : Pd X Y C V) : Pd X Y (csA C k a j v) (csA V k a j v) := ⟨⟨h.1.1, h.1.2.1, h.1.2.2.1, h.1.2.2.2⟩, h.2.1, fun x y z q q' => by
  show (if x = k ∧ y = a ∧ z = j then v else C.2.2.2.2.1 x y z) = (if x = k ∧ y = a ∧ z = j then v else V.2.2.2.2.1 x y z)
  rw [h.2.2.1 x y z q q'], h.2.2.2.1, h.2.2.2.2⟩
theorem pd_fr {t n z : Nat} (h : Pd X Y C V) : Pd X Y (cfr C t n z) (cfr V t n z) := by
  have e := pd_ck h
  have et : ∀ a, a < (ck V).1 → (cfr V t n z).1 a = V.1 a := fun a ha => if_neg (show ¬ a = (ck V).1 by omega)
  refine ⟨⟨?_, ?_, h.1.2.2.1, ?_⟩, h.2.1, h.2.2.1, fun a ha => ?_, fun a ha => ?_⟩
  · show up1 C.1 (ck C).1 t = up1 V.1 (ck V).1 t
    rw [h.1.1, e]
  · show up1 C.2.1 (ck C).1 n = up1 V.2.1 (ck V).1 n
    rw [h.1.2.1, e]
  · show (C.2.2.2.2.2.1, ((ck C).1 + 1, (ck C).2 + z)) = (V.2.2.2.2.2.1, ((ck V).1 + 1, (ck V).2 + z))
    rw [e, h.1.2.2.2]
  · obtain ⟨u1, u2⟩ := h.2.2.2.1 a ha
    exact ⟨(et a u2).trans u1, by show a < (ck V).1 + 1; omega⟩
  · obtain ⟨u1, u2⟩ := h.2.2.2.2 a ha
    exact ⟨(et a u2).trans u1, by show a < (ck V).1 + 1; omega⟩
theorem pd_more (h : Pd X Y C V) (hx : ∀ a, X a → X' a) (hy : ∀ a, Y a → Y' a) (tx : ∀ a, X' a → V.1 a = 8 ∧ a < (ck V).1) (ty : ∀ a, Y' a → V.1 a = 2 ∧ a < (ck V).1) : Pd X' Y' C V :=
  ⟨h.1, fun k a j q => h.2.1 k a j (fun z => q ⟨z.1, hx a z.2⟩), fun k a j q q' => h.2.2.1 k a j (fun z => q ⟨z.1, hx a z.2⟩) (fun z => q' ⟨z.1, hy a z.2⟩), tx, ty⟩
/-- what only one of them writes, where they may differ -/
theorem pd_l124 {k a : Nat} {v : Option Nat} (h : Pd X Y C V) (hx : X a) (hk : k = 124 ∨ k = 126) : Pd X Y (csA C k a 0 v) V := ⟨h.1, h.2.1, fun x y z q q' => by
  show (if x = k ∧ y = a ∧ z = 0 then v else C.2.2.2.2.1 x y z) = _
  rw [if_neg (fun w => q ⟨by rw [w.1]; exact hk, by rw [w.2.1]; exact hx⟩)]
  exact h.2.2.1 x y z q q', h.2.2.2⟩
theorem pd_l125 {a : Nat} {v : Int32} (h : Pd X Y C V) (hx : X a) : Pd X Y (csI C 125 a 0 v) V := ⟨h.1, fun x y z q => by
  show (if x = 125 ∧ y = a ∧ z = 0 then v else C.2.2.1 x y z) = _
  rw [if_neg (fun w => q ⟨w.1, by rw [w.2.1]; exact hx⟩)]
  exact h.2.1 x y z q, h.2.2⟩
theorem pd_l25 {a : Nat} {v : Option Nat} (h : Pd X Y C V) (hy : Y a) : Pd X Y (csA C 25 a 0 v) V := ⟨h.1, h.2.1, fun x y z q q' => by
  show (if x = 25 ∧ y = a ∧ z = 0 then v else C.2.2.2.2.1 x y z) = _
  rw [if_neg (fun w => q' ⟨w.1, by rw [w.2.1]; exact hy⟩)]
  exact h.2.2.1 x y z q q', h.2.2.2⟩
theorem pd_ag {a : Nat} (h : Pd X Y C V) (hx : ¬ X a) (hy : ¬ Y a) : Ag V C a := ⟨congrFun h.1.1 a, congrFun h.1.2.1 a, fun k => funext fun j => h.2.1 k a j (fun z => hx z.2), fun k => by rw [h.1.2.2.1], fun k => funext fun j => h.2.2.1 k a j (fun z => hx z.2) (fun z => hy z.2), by rw [h.1.2.2.2]⟩
theorem pd_agt {a : Nat} (h : Pd X Y C V) (h8 : V.1 a ≠ 8) (h2 : V.1 a ≠ 2) : Ag V C a := pd_ag h (fun q => h8 (h.2.2.2.1 a q).1) (fun q => h2 (h.2.2.2.2 a q).1)
theorem pd_RCs (h : Pd X Y C V) (hs : RCs S A V s) (hx : ¬ X (A 7 s)) : RCs S A C s := by
  refine RCs_ag (S := S) (A := A) (C := V) ⟨fun _ _ => rfl, fun _ _ => rfl, rfl, rfl, rfl⟩ (fun t ht => ⟨rfl, ?_⟩) rfl rfl rfl hs
  simp only [List.mem_cons, List.not_mem_nil, or_false] at ht
  rcases ht with rfl | rfl | rfl | rfl | rfl | rfl
  · exact pd_ag h hx (fun q => by have := (h.2.2.2.2 _ q).1; rw [hs.1.1] at this; exact absurd this (by decide))
  · exact pd_agt h (by rw [hs.2.2.1.1]; decide) (by rw [hs.2.2.1.1]; decide)
  · exact pd_agt h (by rw [hs.2.2.2.1]; decide) (by rw [hs.2.2.2.1]; decide)
  · exact pd_agt h (by rw [hs.2.2.2.2.2.2.1]; decide) (by rw [hs.2.2.2.2.2.2.1]; decide)
  · exact pd_agt h (by rw [hs.2.1.2.2.1.2.1]; decide) (by rw [hs.2.1.2.2.1.2.1]; decide)
  · exact pd_agt h (by rw [hs.2.1.2.2.1.2.2.2.2.1]; decide) (by rw [hs.2.1.2.2.1.2.2.2.2.1]; decide)
theorem pd_RCl {l : Nat} (h : Pd X Y C V) (hl : RCl S A V l) : RCl S A C l := by
  refine RCl_ag (S := S) (A := A) (C := V) (fun _ _ => rfl) rfl rfl (fun t ht => ⟨rfl, ?_⟩) hl
  simp only [List.mem_cons, List.not_mem_nil, or_false] at ht
  rcases ht with rfl | rfl | rfl
  · exact pd_agt h (by rw [hl.1.1]; decide) (by rw [hl.1.1]; decide)
  · exact pd_agt h (by rw [hl.2.1]; decide) (by rw [hl.2.1]; decide)
  · exact pd_agt h (by rw [hl.2.2.2.2.1]; decide) (by rw [hl.2.2.2.2.1]; decide)
theorem pd_RCc (h : Pd X Y C V) (hc : RCc S A V c) (hy : ¬ Y (A 1 c)) : RCc S A C c := by
  refine RCc_ag (S := S) (A := A) (C := V) (fun _ _ => rfl) (fun _ _ => ⟨rfl, rfl⟩) rfl (fun t ht => ⟨rfl, ?_⟩) rfl (fun _ _ => rfl) (fun i hi => pd_RCl h (hc.2.2.2.2 i hi)) hc
  simp only [List.mem_cons, List.not_mem_nil, or_false] at ht
  rcases ht with rfl | rfl | rfl | rfl
  · exact pd_ag h (fun q => by have := (h.2.2.2.1 _ q).1; rw [hc.1.1] at this; exact absurd this (by decide)) hy
  · exact pd_agt h (by rw [hc.2.1.1]; decide) (by rw [hc.2.1.1]; decide)
  · exact pd_agt h (by rw [hc.2.2.1.1]; decide) (by rw [hc.2.2.1.1]; decide)
  · exact pd_agt h (by rw [hc.2.2.2.1.1]; decide) (by rw [hc.2.2.2.1.1]; decide)
theorem pd_RCb (h : Pd X Y C V) (hb : RCb S A V bx) : RCb S A C bx := by
  have hbx : Ag V C bx := pd_agt h (by rw [hb.1.1]; decide) (by rw [hb.1.1]; decide)
  have h3 : ∀ i, i < 4 → Ag V C (A 3 i) := fun i hi => by
    have e : i = 0 ∨ i = 1 ∨ i = 2 ∨ i = 3 := by omega
    have d := hb.2.2.2
    rcases e with rfl | rfl | rfl | rfl
    · exact pd_agt h (by rw [d.1.1]; decide) (by rw [d.1.1]; decide)
    · exact pd_agt h (by rw [d.2.1.1]; decide) (by rw [d.2.1.1]; decide)
    · exact pd_agt h (by rw [d.2.2.1.1]; decide) (by rw [d.2.2.1.1]; decide)
    · exact pd_agt h (by rw [d.2.2.2.1.1]; decide) (by rw [d.2.2.2.1.1]; decide)
  have h5 : ∀ i, i < 3 → Ag V C (A 5 i) := fun i hi => by
    have e : i = 0 ∨ i = 1 ∨ i = 2 := by omega
    have d := hb.2.2.1
    rcases e with rfl | rfl | rfl
    · exact pd_agt h (by rw [d.2.1.1]; decide) (by rw [d.2.1.1]; decide)
    · exact pd_agt h (by rw [d.2.2.1]; decide) (by rw [d.2.2.1]; decide)
    · exact pd_agt h (by rw [d.1]; decide) (by rw [d.1]; decide)
  refine RCb_of hb hbx.1 (fun k _ => congrFun (hbx.2.2.2.2.1 k) 0) ?_ ?_ ?_ (fun _ => rfl) (fun _ => rfl) rfl h5 (fun i hi => ⟨(h3 i hi).1, (h3 i hi).2.1⟩) (congrFun h.1.1 _) (fun x hx => ?_) (fun x hx => ?_) (fun x hx => ?_)
  · rw [hbx.2.2.1]; exact hb.2.1.1
  · rw [hbx.2.2.1]; exact hb.2.1.2.1
  · rw [hbx.2.2.1]; exact hb.2.1.2.2
  · rw [(h3 0 (by decide)).2.2.2.2.1]; exact hb.2.2.2.1.2.2 x hx
  · rw [(h3 1 (by decide)).2.2.2.2.1]; exact hb.2.2.2.2.1.2.2 x hx
  · rw [(h3 2 (by decide)).2.2.2.2.1]; exact hb.2.2.2.2.2.1.2.2 x hx
theorem pd_CW (h : Pd X Y C V) (hw : CW B V) : CW B C := by
  have e := pd_ck h
  refine ⟨by rw [e]; exact hw.1, fun a ha => ?_, fun a ha k j => ?_⟩
  · rw [h.1.1] at ha; rw [e]; exact hw.2.1 a ha
  · rw [e] at ha
    have hx : ¬ X a := fun q => by have := (h.2.2.2.1 a q).2; omega
    have hy : ¬ Y a := fun q => by have := (h.2.2.2.2 a q).2; omega
    obtain ⟨u1, u2, u3, u4, u5, u6⟩ := pd_ag h hx hy
    rw [u3, u4, u5, u6]
    exact hw.2.2 a ha k j
/-! the runs on it -/
theorem newSection_run (hb : RCb S A C bx) (hw : CW B C) (h60 : S.1 1 0 < 60) {kd so : Nat} {ln : Int32} (hk : kd < 16) (hl : lenok kd ln) :
    c_B_newSection bx (i32 kd) (i32 so) ln (some (A 5 so)) C = some (some (ck C).1, nsC C bx (A 3 0) (S.1 1 0) kd so ln (some (A 5 so))) := by
  have hle := len_le hl
  obtain ⟨⟨f1, f2⟩, f3, f4, f5, f6⟩ := secC_facts (num := i32 (S.1 1 0)) (kd := i32 kd) (so := i32 so) (ln := ln) (nums := some (A 5 so)) (n := nfac kd) (rl := nrow kd ln) hw
  have hag : ∀ a, a < (ck C).1 → Ag C (secC C (i32 (S.1 1 0)) (i32 kd) (i32 so) ln (some (A 5 so)) (nfac kd) (nrow kd ln)) a := fun a ha => secC_agr.ag ha
  have hbx : bx < (ck C).1 := (hw.2.1 bx (by rw [hb.1.1]; decide)).2
  have h30 : A 3 0 < (ck C).1 := (hw.2.1 _ (by rw [hb.2.2.2.1.1]; decide)).2
  have n5 := nfac_5 kd
  have hab : Ag C (cfr C 8 0 15) bx := (agr_fr (Nat.le_refl _)).ag hbx
  unfold c_B_newSection
  rw [rb_sectionCount hb, obd_some, if_neg (i32_nonneg (by omega)), obd_some, rb_sections hb, obd_some, obd_some, cal_of (n := 60) (by rw [hb.2.2.2.1.1]; decide) hb.2.2.2.1.2.1, obd_some, if_pos (by rw [i32_lt (by omega) (by omega)]; omega)]
  unfold cnew
  dsimp only
  rw [show cfr C (7 + 1) 0 (jnfl 7) = cfr C 8 0 15 from rfl, cgI_ag hab, rb_sectionCount hb, obd_some, init_of (rl := nrow kd ln) hk rfl (fun q => (hle.2 q).1) hle.1, obd_some, cgA_ag (hag bx hbx), rb_sections hb, obd_some, cgI_ag (hag bx hbx), rb_sectionCount hb, obd_some, obd_some,
    cqA_of (n := 60) (by rw [(hag _ h30).1]; exact hb.2.2.2.1.1) (by decide) f3.1 (by rw [(hag _ h30).2.1]; exact hb.2.2.2.1.2.1) h60 (by decide), obd_some]
  have e1 : cgI (csA (secC C (i32 (S.1 1 0)) (i32 kd) (i32 so) ln (some (A 5 so)) (nfac kd) (nrow kd ln)) 900 (A 3 0) (S.1 1 0) (some (ck C).1)) bx 0 4 = some (i32 (S.1 1 0)) := (cgI_ag (hag bx hbx)).trans (rb_sectionCount hb)
  rw [e1, obd_some, cpI_of (by show (secC C (i32 (S.1 1 0)) (i32 kd) (i32 so) ln (some (A 5 so)) (nfac kd) (nrow kd ln)).1 bx = 0 + 1; rw [(hag bx hbx).1]; exact hb.1.1) (by decide) (by decide), obd_some]
  rfl
theorem pd_ns {bx' a3 n kd so : Nat} {ln : Int32} {nums : Option Nat} (h : Pd X Y C V) : Pd X Y (nsC C bx' a3 n kd so ln nums) (nsC V bx' a3 n kd so ln nums) := by
  unfold nsC secC
  rw [pd_ck h]
  exact pd_I (pd_A (pd_A (pd_A (pd_fr (pd_fr (pd_A (pd_fr (pd_A (pd_I (pd_I (pd_I (pd_I (pd_I (pd_A (pd_A (pd_fr (pd_fr (pd_fr h))))))))))))))))))
theorem factorR (hr : RCs S A C s) {k : Nat} (hk : k < nfac (S.1 2 s)) : c_Section_factor (A 7 s) (i32 k) C = some (S.2.1 7 (5 * s + k)) := by
  have h5 := nfac_5 (S.1 2 s)
  unfold c_Section_factor
  rw [if_neg (i32_nonneg (by omega)), rs_factors hr, obd_some, obd_some, cal_of (n := nfac (S.1 2 s)) (by rw [hr.2.2.1.1]; decide) hr.2.2.1.2.1, obd_some, if_pos (by rw [i32_lt (by omega) (by omega)]; omega), obd_some, obd_some, caJ_of hr.2.2.1.1 hr.2.2.1.2.1 hk (by omega), obd_some, hr.2.2.1.2.2 k hk]
theorem factorCountR (hr : RCs S A C s) : c_Section_factorCount (A 7 s) C = some (i32 (nfac (S.1 2 s))) := by
  unfold c_Section_factorCount
  rw [rs_factors hr, obd_some, obd_some, cal_of (by rw [hr.2.2.1.1]; decide) hr.2.2.1.2.1, obd_some]
theorem wholeR (hr : RCs S A C s) : c_Section_takesWhole (A 7 s) C = some (g_R_isPlain (i32 (S.1 2 s))) := by
  unfold c_Section_takesWhole c_Section_takesWhole_18 g_R_isPlain g_R_isPlain_12
  rw [rs_kind hr, obd_some]
  by_cases h : i32 (S.1 2 s) = (9 : Int32)
  · rw [if_pos h, if_pos h]
  · rw [if_neg h, if_neg h, obd_some]
    by_cases h2 : i32 (S.1 2 s) = (10 : Int32)
    · rw [if_pos h2, if_pos h2]
    · rw [if_neg h2, if_neg h2]
theorem setFactorR (hr : RCs S A C s) {j : Nat} (hj : j < nfac (S.1 2 s)) (v : Int64) : c_Section_setFactor (A 7 s) (i32 j) v C = some (csJ C 900 (A 117 s) j v) := by
  have h5 := nfac_5 (S.1 2 s)
  have hal : cal C (A 117 s) = some (i32 (nfac (S.1 2 s))) := cal_of (by rw [hr.2.2.1.1]; decide) hr.2.2.1.2.1
  unfold c_Section_setFactor
  rw [if_neg (i32_nonneg (by omega)), rs_factors hr, obd_some, obd_some, hal, obd_some, if_neg (by rw [i32_le (by omega) (by omega)]; omega), obd_some, obd_some, cqJ_of hr.2.2.1.1 hr.2.2.1.2.1 hj (by omega), obd_some]
theorem memberR (hr : RCc S A C c) (h10 : S.1 17 c ≤ 10) {p : Nat} (hp : p < 2 ^ 31) : c_Chain_memberAt (A 1 c) (i32 p) C = some (if p < S.1 17 c then some (A 7 (S.1 18 (10 * c + p))) else none) := by
  unfold c_Chain_memberAt
  rw [if_neg (i32_nonneg hp), rc_size hr, obd_some]
  by_cases h : p < S.1 17 c
  · rw [if_neg (by rw [i32_le (by omega) hp]; omega), rc_members hr, obd_some, obd_some, cal_of (n := 10) (by rw [hr.2.1.1]; decide) hr.2.1.2.1, obd_some, if_pos (by rw [i32_lt hp (by omega)]; omega), obd_some, obd_some,
      caA_of (ci := 7) (n := 10) hr.2.1.1 (by decide) hr.2.1.2.1 (by omega) (by decide), obd_some, hr.2.1.2.2 p (by omega)]
  · rw [if_pos (by rw [i32_le (by omega) hp]; omega), if_neg h]; rfl
theorem loopAtR (hr : RCc S A C c) (h3 : S.1 20 c ≤ 3) {i : Nat} (hi : i < 2 ^ 31) : c_Chain_loopAt (A 1 c) (i32 i) C = some (if i < S.1 20 c then some (A 4 (3 * c + i)) else none) := by
  unfold c_Chain_loopAt
  rw [if_neg (i32_nonneg hi), rc_loopCount hr, obd_some]
  by_cases h : i < S.1 20 c
  · rw [if_neg (by rw [i32_le (by omega) hi]; omega), rc_loops hr, obd_some, obd_some, cal_of (n := 3) (by rw [hr.2.2.1.1]; decide) hr.2.2.1.2.1, obd_some, if_pos (by rw [i32_lt hi (by omega)]; omega), obd_some, obd_some,
      caA_of (ci := 4) (n := 3) hr.2.2.1.1 (by decide) hr.2.2.1.2.1 (by omega) (by decide), obd_some, hr.2.2.1.2.2 i (by omega)]
  · rw [if_pos (by rw [i32_le (by omega) hi]; omega), if_neg h]; rfl
/-! the room -/
/-- what the counters may have come to, by bounds -/
def RQ (u w : Nat) (S : ST) (A : AT) (C : CT) : Prop := ∀ z, z = (match C.2.2.2.2.1 37 (A 2 0) 0 with | none => 1 | some _ => 0) →
  (ck C).1 + 10 * (60 - S.1 1 0) + 40 * (20 - S.1 16 0) + 10 * (8 - S.1 44 0) + 2 * z + 10 * sm (fun c => 3 - S.1 20 c) (S.1 16 0) ≤ u ∧ (ck C).2 + 300 * (60 - S.1 1 0) + 2000 * (20 - S.1 16 0) + 20000 * (8 - S.1 44 0) + 131072 * z + 100 * sm (fun c => 3 - S.1 20 c) (S.1 16 0) ≤ w
theorem ro_rp {D : Nat} : RO D B S A C ↔ RQ (B + 5000 + D) (1500000 + 1000 * D) S A C := Iff.rfl
theorem ro_same {u w : Nat} (h : RQ u w S A C) (h1 : S'.1 1 0 = S.1 1 0) (h16 : S'.1 16 0 = S.1 16 0) (h44 : S'.1 44 0 = S.1 44 0) (h20 : ∀ c, c < S.1 16 0 → S'.1 20 c = S.1 20 c) (hA : A' 2 0 = A 2 0) (hd : C'.2.2.2.2.1 37 (A 2 0) 0 = C.2.2.2.2.1 37 (A 2 0) 0) (hc : ck C' = ck C) : RQ u w S' A' C' := by
  intro z hz
  rw [hA, hd] at hz
  have := h z hz
  rw [h1, h16, h44, hc, sm_congr (f := fun c => 3 - S'.1 20 c) (g := fun c => 3 - S.1 20 c) (fun c hc => by
    show 3 - S'.1 20 c = 3 - S.1 20 c
    rw [h20 c hc])]
  exact this
theorem ro_sec {u w kd so bx' a3 n : Nat} {ln : Int32} {nums : Option Nat} (h : RQ u w S A C) (h60 : S.1 1 0 < 60) (hl : lenok kd ln) (hA : A' 2 0 = A 2 0) (hd : (nsC C bx' a3 n kd so ln nums).2.2.2.2.1 37 (A 2 0) 0 = C.2.2.2.2.1 37 (A 2 0) 0) : RQ u w (secS S kd so ln) A' (nsC C bx' a3 n kd so ln nums) := by
  intro z hz
  rw [hA, hd] at hz
  have := h z hz
  have hle := len_le hl
  have n5 := nfac_5 kd
  have ec : ck (nsC C bx' a3 n kd so ln nums) = ((ck C).1 + 6, (ck C).2 + 18 + nfac kd + 2 + nrow kd ln) := by
    refine Prod.ext ?_ ?_
    · show (ck C).1 + 1 + 1 + 1 + 1 + 1 + 1 = (ck C).1 + 6
      omega
    · show (ck C).2 + 15 + 2 + 1 + nfac kd + 2 + nrow kd ln = (ck C).2 + 18 + nfac kd + 2 + nrow kd ln
      omega
  have k16 : (secS S kd so ln).1 16 = S.1 16 := secS_k (by decide) (by decide)
  have k20 : (secS S kd so ln).1 20 = S.1 20 := secS_k (by decide) (by decide)
  have k44 : (secS S kd so ln).1 44 = S.1 44 := secS_k (by decide) (by decide)
  rw [ec, secS_1, k16, k44, k20]
  show (ck C).1 + 6 + _ + _ + _ + _ + _ ≤ _ ∧ (ck C).2 + 18 + nfac kd + 2 + nrow kd ln + _ + _ + _ + _ + _ ≤ _
  have := hle.1
  omega
end BESIDE
