/-! a chain remade: what is being made -/
section OPENC
variable {G : GT} {E B bx m : Nat} {ad ad0 : Nat → Nat} {S S0 S' : ST} {A A0 A' : AT} {C C0 C' V V' : CT} {T T0 : MT} {X Y : Nat → Prop} {s c n st q q1 p nl so : Nat} {α L : Nat → Nat} {a7 : Nat}
theorem rq_mono {u w u' w' : Nat} (h : RQ u w S A C) (h1 : u ≤ u') (h2 : w ≤ w') : RQ u' w' S A C := fun z hz => ⟨Nat.le_trans (h z hz).1 h1, Nat.le_trans (h z hz).2 h2⟩
theorem rcb_up (hb : RCb S A C bx) (hw : CW B C) (h : Agr (ck C).1 C C') : RCb S A C' bx := by
  have lt : ∀ a, C.1 a ≠ 0 → Ag C C' a := fun a ha => h.ag (hw.2.1 a ha).2
  have hbx : Ag C C' bx := lt bx (by rw [hb.1.1]; decide)
  have d := hb.2.2.2
  have h3 : ∀ i, i < 4 → Ag C C' (A 3 i) := fun i hi => by
    have e : i = 0 ∨ i = 1 ∨ i = 2 ∨ i = 3 := by omega
    rcases e with rfl | rfl | rfl | rfl
    · exact lt _ (by rw [d.1.1]; decide)
    · exact lt _ (by rw [d.2.1.1]; decide)
    · exact lt _ (by rw [d.2.2.1.1]; decide)
    · exact lt _ (by rw [d.2.2.2.1.1]; decide)
  have d5 := hb.2.2.1
  have h5 : ∀ i, i < 3 → Ag C C' (A 5 i) := fun i hi => by
    have e : i = 0 ∨ i = 1 ∨ i = 2 := by omega
    rcases e with rfl | rfl | rfl
    · exact lt _ (by rw [d5.2.1.1]; decide)
    · exact lt _ (by rw [d5.2.2.1]; decide)
    · exact lt _ (by rw [d5.1]; decide)
  refine RCb_of hb hbx.1 (fun k _ => congrFun (hbx.2.2.2.2.1 k) 0) ?_ ?_ ?_ (fun _ => rfl) (fun _ => rfl) rfl h5 (fun i hi => ⟨(h3 i hi).1, (h3 i hi).2.1⟩) (lt _ (by rw [d.2.2.2.2]; decide)).1 (fun x hx => ?_) (fun x hx => ?_) (fun x hx => ?_)
  · rw [hbx.2.2.1]; exact hb.2.1.1
  · rw [hbx.2.2.1]; exact hb.2.1.2.1
  · rw [hbx.2.2.1]; exact hb.2.1.2.2
  · rw [(h3 0 (by decide)).2.2.2.2.1]; exact d.1.2.2 x hx
  · rw [(h3 1 (by decide)).2.2.2.2.1]; exact d.2.1.2.2 x hx
  · rw [(h3 2 (by decide)).2.2.2.2.1]; exact d.2.2.1.2.2 x hx
theorem lsp_up (h : lsp m ad V) (hag : ∀ a, a < (ck V).1 → V.1 a = 0 → V'.1 a = V.1 a) (hle : (ck V).1 ≤ (ck V').1) : lsp m ad V' := by
  obtain ⟨⟨a1, a2⟩, a3, a4⟩ := h
  refine ⟨⟨by rw [hag m a3 a1]; exact a1, fun k hk => by rw [hag _ (a4 k hk) (a2 k hk)]; exact a2 k hk⟩, by omega, fun k hk => by have := a4 k hk; omega⟩
/-- writes to what is no thing of the coupling -/
theorem jj_un (J : JJ G E B bx m ad S A V T) (hag : ∀ a, a < (ck V).1 → a ≠ q → a ≠ q1 → Ag V V' a) (hw : CW B V') (hle : (ck V).1 ≤ (ck V').1) (tq : V.1 q = 2) (tq1 : V.1 q1 = 37 ∨ V.1 q1 = 34) (hU : ∀ t i, VA S t i → t ≠ 0 → A t i ≠ q ∧ A t i ≠ q1) (hro : RO (ad 0) B S A V') : JJ G E B bx m ad S A V' T := by
  have hb := jj_b J
  have hwV := J.1.1
  have hbt := hb.1.1
  have lt : ∀ t i, VA S t i → t ≠ 0 → A t i < (ck V).1 := fun t i h h0 => (hwV.2.1 _ (va_tag J h h0)).2
  have q10 : V.1 q1 ≠ 0 := by rcases tq1 with z | z <;> rw [z] <;> decide
  refine jj_else J hw (fun t i h h0 => hag _ (lt t i h h0) (hU t i h h0).1 (hU t i h h0).2) (fun hn i hi => ?_) (hag bx (hwV.2.1 bx (by rw [hbt]; decide)).2 (fun z => ?_) (fun z => ?_)) (lsp_up J.1.2.1 (fun a ha hz => (hag a ha (fun z => by rw [z, tq] at hz; cases hz) (fun z => q10 (by rw [← z]; exact hz))).1) hle) hro
  · have htg : V.1 (A 0 i) = 20 ∨ V.1 (A 0 i) = 21 := by
      rcases J.2.2.2.2.2 with z | ⟨g1, g2, g3, g4, g5, g6, g7⟩
      · exact absurd z.1 hn
      · have e : i = 1 ∨ i = 2 := by simpa using hi
        rcases e with rfl | rfl
        · exact Or.inl g3
        · exact Or.inr g5
    refine hag _ (hwV.2.1 _ (by rcases htg with w | w <;> rw [w] <;> decide)).2 (fun z => ?_) (fun z => ?_)
    · rw [z, tq] at htg; rcases htg with w | w <;> exact absurd w (by decide)
    · rw [z] at htg; rcases htg with w | w <;> rcases tq1 with v | v <;> rw [v] at w <;> exact absurd w (by decide)
  · rw [z, tq] at hbt; exact absurd hbt (by decide)
  · rw [z] at hbt; rcases tq1 with v | v <;> rw [v] at hbt <;> exact absurd hbt (by decide)
/-- one begun -/
theorem pd_ch (h : Pd X Y C V) : Pd X Y (chC C) (chC V) := by
  unfold chC
  rw [pd_ck h]
  exact pd_A (pd_fr (pd_A (pd_fr (pd_A (pd_fr (pd_I (pd_fr h)))))))
theorem jj_open (J : JJ G E B bx m ad S A V T) : JJ G E B bx m (adS ad (ad 0 + 20)) S A (chC V) T := by
  have hb := jj_b J
  have hwV := J.1.1
  obtain ⟨⟨f1, f2⟩, -⟩ := chC_facts hwV
  have lt : ∀ t i, VA S t i → t ≠ 0 → A t i < (ck V).1 := fun t i h h0 => (hwV.2.1 _ (va_tag J h h0)).2
  have hag : ∀ a, a < (ck V).1 → Ag V (chC V) a := fun a ha => chC_agr.ag ha
  have a0 : adS ad (ad 0 + 20) 0 = ad 0 + 20 := if_pos rfl
  refine jj_else J f2 (fun t i h h0 => hag _ (lt t i h h0)) (fun hn i hi => ?_) (hag bx (hwV.2.1 bx (by rw [hb.1.1]; decide)).2) (lsp_ad (lsp_up J.1.2.1 (fun a ha _ => (hag a ha).1) (by rw [f1]; show (ck V).1 ≤ (ck V).1 + 4; omega))) ?_
  · rcases J.2.2.2.2.2 with z | ⟨g1, g2, g3, g4, g5, g6, g7⟩
    · exact absurd z.1 hn
    · have e : i = 1 ∨ i = 2 := by simpa using hi
      rcases e with rfl | rfl
      · exact hag _ (hwV.2.1 _ (by rw [g3]; decide)).2
      · exact hag _ (hwV.2.1 _ (by rw [g5]; decide)).2
  · rw [a0]
    intro z hz
    rw [(hag _ (lt 2 0 rfl (by decide))).2.2.2.2.1] at hz
    have := J.1.2.2 z hz
    rw [f1]
    show (ck V).1 + 4 + _ + _ + _ + _ + _ ≤ _ ∧ (ck V).2 + 10 + 10 + 3 + 400 + _ + _ + _ + _ + _ ≤ _
    omega
theorem rq_open {u w : Nat} (J : JJ G E B bx m ad S A V T) (h : RQ u w S A V) : RQ (u + 4) (w + 423) S A (chC V) := by
  have hwV := J.1.1
  have lt := (hwV.2.1 _ (va_tag J (show VA S 2 0 from rfl) (by decide))).2
  obtain ⟨⟨f1, f2⟩, -⟩ := chC_facts hwV
  intro z hz
  rw [(chC_agr.ag lt).2.2.2.2.1] at hz
  have := h z hz
  rw [f1]
  show (ck V).1 + 4 + _ + _ + _ + _ + _ ≤ _ ∧ (ck V).2 + 10 + 10 + 3 + 400 + _ + _ + _ + _ + _ ≤ _
  omega
theorem om_open (hw : CW B C) : OM (chC C) (ck C).1 0 α 0 L := by
  obtain ⟨-, f1, f2, f3, f4⟩ := chC_facts hw
  refine ⟨⟨f1.1, f1.2.1, f1.2.2.1, f1.2.2.2.1, f1.2.2.2.2.1, f1.2.2.2.2.2.1, f1.2.2.2.2.2.2.1, f1.2.2.2.2.2.2.2.1, f1.2.2.2.2.2.2.2.2.1, f1.2.2.2.2.2.2.2.2.2⟩, ⟨f2.1, f2.2.1, fun p _ => (f2.2.2 p).trans (if_neg (Nat.not_lt_zero _)).symm⟩, ⟨f3.1, f3.2.1, fun i _ => (f3.2.2 i).trans (if_neg (Nat.not_lt_zero _)).symm⟩, f4.1, f4.2.1, f4.2.2⟩
/-- a member more -/
theorem join_run (hO : OM C q p α nl L) (ht : C.1 a7 = 8) (hp : p < 10) : c_Chain_join q (some a7) C = some (jnC C (q + 1) q a7 p) := by
  obtain ⟨⟨o1, o2, o3, o4, o5, o6, o7⟩, ⟨y1, y2, y3⟩, -⟩ := hO
  have e18 : cgI C q 1 2 = some (i32 p) := (if_pos o1).trans (congrArg some o3)
  have e17 : cgA C q 1 1 = some (some (q + 1)) := (if_pos o1).trans (congrArg some o2)
  unfold c_Chain_join
  rw [e18, obd_some, if_neg (i32_nonneg (by omega)), obd_some, e17, obd_some, obd_some, cal_of (n := 10) (by rw [y1]; decide) y2, obd_some, if_neg (by rw [i32_le (by omega) (by omega)]; omega), obd_some, obd_some, obd_some, obd_some,
    cqA_of (ci := 7) (n := 10) y1 (by decide) ht y2 (by omega) (by decide), obd_some, cpA_of (ci := 7) (by exact ht) (by decide) (by decide), obd_some]
  have e1 : cgI (csA (csA C 900 (q + 1) p (some a7)) (16 * 7 + 12) a7 0 (some q)) q 1 2 = some (i32 p) := (show cgI C q 1 2 = some (i32 p) from e18)
  rw [e1, obd_some, cpI_of (ci := 7) (by exact ht) (by decide) (by decide), obd_some]
  have e2 : cgI (csI (csA (csA C 900 (q + 1) p (some a7)) (16 * 7 + 12) a7 0 (some q)) (16 * 7 + 13) a7 0 (i32 p)) q 1 2 = some (i32 p) := by
    rw [cgI_csI_ne (by decide)]
    exact e1
  rw [e2, obd_some, cpI_of (ci := 1) (by exact o1) (by decide) (by decide), obd_some]
  rfl
theorem pd_join (P : Pd X Y C V) (hx : X a7) : Pd X Y (jnC C (q + 1) q a7 p) (csI (csA V 900 (q + 1) p (some a7)) 18 q 0 (i32 p + 1)) := pd_I (pd_l125 (pd_l124 (pd_A P) hx (Or.inl rfl)) hx)
theorem om_join (hO : OM C q p α nl L) (h0 : a7 ≠ q) : OM (jnC C (q + 1) q a7 p) q (p + 1) (fun r => if r = p then a7 else α r) nl L := by
  obtain ⟨⟨o1, o2, o3, o4, o5, o6, o7, o8, o9, o10⟩, ⟨y1, y2, y3⟩, ⟨z1, z2, z3⟩, w1, w2, w3⟩ := hO
  have h0' := Ne.symm h0
  have hq1 : q ≠ q + 1 := by omega
  have hq2 : q + 2 ≠ q + 1 := by omega
  refine ⟨⟨o1, ?_, ?_, ?_, ?_, ?_, ?_, ?_, ?_, ?_⟩, ⟨y1, y2, fun r hr => ?_⟩, ⟨z1, z2, fun i hi => ?_⟩, w1, w2, w3⟩
  · simpa [jnC, csI, csA, up3] using o2
  · rw [← i32_add]; simp [jnC, csI, csA, up3]; rfl
  · simpa [jnC, csI, csA, up3] using o4
  · simpa [jnC, csI, csA, up3] using o5
  · simpa [jnC, csI, csA, up3] using o6
  · simpa [jnC, csI, csA, up3] using o7
  · simpa [jnC, csI, csA, up3] using o8
  · simpa [jnC, csI, csA, up3] using o9
  · simpa [jnC, csI, csA, up3] using o10
  · by_cases e : r = p
    · subst e
      show _ = if r < r + 1 then some (if r = r then a7 else α r) else none
      rw [if_pos (by omega), if_pos rfl]
      simp [jnC, csI, csA, up3]
    · show _ = if r < p + 1 then some (if r = p then a7 else α r) else none
      have e1 : (jnC C (q + 1) q a7 p).2.2.2.2.1 900 (q + 1) r = C.2.2.2.2.1 900 (q + 1) r := by simp [jnC, csI, csA, up3, e]
      rw [e1, y3 r hr]
      by_cases g : r < p
      · rw [if_pos g, if_pos (by omega), if_neg e]
      · rw [if_neg g, if_neg (by omega)]
  · have e1 : (jnC C (q + 1) q a7 p).2.2.2.2.1 900 (q + 2) i = C.2.2.2.2.1 900 (q + 2) i := by simp [jnC, csI, csA, up3, hq2]
    rw [e1]; exact z3 i hi
/-- a loop more -/
theorem tie_run {f t ln i : Nat} {v : Int64} (hw : CW B C) (hO : OM C q n α i L) (h3 : i < 3) : c_Chain_tie q (some (ck C).1) (lpC C f t ln v) = some (tiC C (q + 2) q i f t ln v) := by
  obtain ⟨⟨o1, o2, o3, o4, o5, o6, o7, o8, o9, o10⟩, -, ⟨z1, z2, z3⟩, -⟩ := hO
  have hag : ∀ a, a < (ck C).1 → Ag C (lpC C f t ln v) a := fun a ha => lpC_agr.ag ha
  have l1 : q < (ck C).1 := (hw.2.1 _ (by rw [o1]; decide)).2
  have l19 : q + 2 < (ck C).1 := (hw.2.1 _ (by rw [z1]; decide)).2
  have hq := (lpC_facts (f := f) (t := t) (ln := ln) (v := v) hw).2.1.1
  have e20 : cgI C q 1 4 = some (i32 i) := (if_pos o1).trans (congrArg some o5)
  have e19 : cgA C q 1 3 = some (some (q + 2)) := (if_pos o1).trans (congrArg some o4)
  unfold c_Chain_tie
  rw [cgI_ag (hag _ l1), e20, obd_some, if_neg (i32_nonneg (by omega)), obd_some, cgA_ag (hag _ l1), e19, obd_some, obd_some, cal_of (n := 3) (by rw [(hag _ l19).1, z1]; decide) (by rw [(hag _ l19).2.1]; exact z2), obd_some, if_neg (by rw [i32_le (by omega) (by omega)]; omega), obd_some, obd_some, obd_some, obd_some,
    cqA_of (ci := 4) (n := 3) (by rw [(hag _ l19).1]; exact z1) (by decide) hq (by rw [(hag _ l19).2.1]; exact z2) h3 (by decide), obd_some]
  have e1 : cgI (csA (lpC C f t ln v) 900 (q + 2) i (some (ck C).1)) q 1 4 = some (i32 i) := (cgI_ag (hag _ l1)).trans e20
  rw [e1, obd_some, cpI_of (ci := 1) (by show (lpC C f t ln v).1 q = 1 + 1; rw [(hag _ l1).1]; exact o1) (by decide) (by decide), obd_some]
  rfl
theorem pd_ti {a19 a1 i f t ln : Nat} {v : Int64} (h : Pd X Y C V) : Pd X Y (tiC C a19 a1 i f t ln v) (tiC V a19 a1 i f t ln v) := by
  unfold tiC lpC
  rw [pd_ck h]
  exact pd_I (pd_A (pd_A (pd_A (pd_fr (pd_fr (pd_J (pd_I (pd_I (pd_fr h)))))))))
theorem ti_ag {i f t ln : Nat} {v : Int64} {a : Nat} (ha : a < (ck C).1) (h0 : a ≠ q) (h2 : a ≠ q + 2) : Ag C (tiC C (q + 2) q i f t ln v) a := by
  unfold tiC
  exact ag_csI (ag_csA (lpC_agr.ag ha) h2) h0
theorem om_tie {i f t ln : Nat} {v : Int64} (hw : CW B C) (hO : OM C q n α i L) (h3 : i < 3) : OM (tiC C (q + 2) q i f t ln v) q n α (i + 1) (fun r => if r = i then (ck C).1 else L r) := by
  have hO' := hO
  obtain ⟨⟨o1, o2, o3, o4, o5, o6, o7, o8, o9, o10⟩, ⟨y1, y2, y3⟩, ⟨z1, z2, z3⟩, w1, w2, w3⟩ := hO
  have lt : ∀ a, C.1 a ≠ 0 → a < (ck C).1 := fun a ha => (hw.2.1 a ha).2
  have g0 : Ag C (lpC C f t ln v) q := lpC_agr.ag (lt q (by rw [o1]; decide))
  have g1 : Ag C (lpC C f t ln v) (q + 1) := lpC_agr.ag (lt _ (by rw [y1]; decide))
  have g2 : Ag C (lpC C f t ln v) (q + 2) := lpC_agr.ag (lt _ (by rw [z1]; decide))
  have g3 : Ag C (lpC C f t ln v) (q + 3) := lpC_agr.ag (lt _ (by rw [w1]; decide))
  have hb : OM (lpC C f t ln v) q n α i L := om_ag hO' g0 g1 g2 g3
  unfold tiC
  generalize lpC C f t ln v = D at *
  obtain ⟨⟨o1, o2, o3, o4, o5, o6, o7, o8, o9, o10⟩, ⟨y1, y2, y3⟩, ⟨z1, z2, z3⟩, w1, w2, w3⟩ := hb
  have hq2 : q + 1 ≠ q + 2 := by omega
  refine ⟨⟨o1, ?_, ?_, ?_, ?_, ?_, ?_, ?_, ?_, ?_⟩, ⟨y1, y2, fun r hr => ?_⟩, ⟨z1, z2, fun r hr => ?_⟩, w1, w2, w3⟩
  · simpa [csI, csA, up3] using o2
  · simpa [csI, csA, up3] using o3
  · simpa [csI, csA, up3] using o4
  · rw [← i32_add]; simp [csI, csA, up3]; rfl
  · simpa [csI, csA, up3] using o6
  · simpa [csI, csA, up3] using o7
  · simpa [csI, csA, up3] using o8
  · simpa [csI, csA, up3] using o9
  · simpa [csI, csA, up3] using o10
  · have e1 : (csI (csA D 900 (q + 2) i (some (ck C).1)) 20 q 0 (i32 i + 1)).2.2.2.2.1 900 (q + 1) r = D.2.2.2.2.1 900 (q + 1) r := by simp [csI, csA, up3, hq2]
    rw [e1]; exact y3 r hr
  · by_cases e : r = i
    · subst e
      show _ = if r < r + 1 then some (if r = r then (ck C).1 else L r) else none
      rw [if_pos (by omega), if_pos rfl]
      simp [csI, csA, up3]
    · show _ = if r < i + 1 then some (if r = i then (ck C).1 else L r) else none
      have e1 : (csI (csA D 900 (q + 2) i (some (ck C).1)) 20 q 0 (i32 i + 1)).2.2.2.2.1 900 (q + 2) r = D.2.2.2.2.1 900 (q + 2) r := by simp [csI, csA, up3, e]
      rw [e1, z3 r hr]
      by_cases g : r < i
      · rw [if_pos g, if_pos (by omega), if_neg e]
      · rw [if_neg g, if_neg (by omega)]
theorem lm_new {i f t ln : Nat} {v : Int64} (hw : CW B C) (hq : q + 2 < (ck C).1) : LM (tiC C (q + 2) q i f t ln v) (ck C).1 f t ln v := by
  obtain ⟨-, f1, f2⟩ := lpC_facts (f := f) (t := t) (ln := ln) (v := v) hw
  have hb : LM (lpC C f t ln v) (ck C).1 f t ln v := ⟨f1, f2⟩
  have g : ∀ a, (ck C).1 ≤ a → Ag (lpC C f t ln v) (tiC C (q + 2) q i f t ln v) a := fun a ha => by
    unfold tiC
    exact ag_csI (ag_csA (Ag.refl _ _) (by omega)) (by omega)
  exact lm_ag hb (g _ (Nat.le_refl _)) (g _ (by omega)) (g _ (by omega))
/-- the loops -/
theorem loops_go (J0 : JJ G E B bx m ad0 S0 A0 C0 T0) (s3 : st < 3) (hc : c < S0.1 16 0) (h0 : S0.1 17 c ≠ 0) (hx : Ex S0 S) (hYc : ¬ Y (A 1 c)) (hnl : S0.1 20 c = nl) {N : Nat} {ad' : Nat → Nat} : ∀ (r g i u w : Nat) (V C : CT) (L : Nat → Nat), JJ G E B bx m ad' S A V (tOf S) → Pd X Y C V → OM C q n α i L → (∀ j, j < i → LM C (L j) (S0.1 22 (3 * c + j)) (S0.1 21 (3 * c + j)) (S0.1 23 (3 * c + j)) (trB (cso S0 c) st false (S0.2.1 24 (3 * c + j))) ∧ (∀ t k, VA S t k → t ≠ 0 → A t k < L j) ∧ q + 3 < L j ∧ L j + 2 < (ck C).1) → (∀ j k, j < k → k < i → L j + 2 < L k) → (∀ t k, VA S t k → t ≠ 0 → A t k ≠ q ∧ A t k ≠ q + 2) → q + 3 < (ck C).1 →
    RQ u w S A V → u + 3 * r ≤ B + 5000 + ad' 0 → w + 70 * r ≤ 1500000 + 1000 * ad' 0 → i + r = nl → r < g →
    ∃ V' C' L', c_B_remakeLoops_13 N g bx (A 1 c) (some q) (some (A 5 st)) (some (A 5 (cso S0 c))) (i32 i) C = some C' ∧ JJ G E B bx m ad' S A V' (tOf S) ∧ Pd X Y C' V' ∧ OM C' q n α nl L' ∧ (∀ j, j < nl → LM C' (L' j) (S0.1 22 (3 * c + j)) (S0.1 21 (3 * c + j)) (S0.1 23 (3 * c + j)) (trB (cso S0 c) st false (S0.2.1 24 (3 * c + j))) ∧ (∀ t k, VA S t k → t ≠ 0 → A t k < L' j) ∧ q + 3 < L' j ∧ L' j + 2 < (ck C').1) ∧ (∀ j k, j < k → k < nl → L' j + 2 < L' k) ∧
      (∀ a, a < (ck C).1 → a ≠ q → a ≠ q + 2 → Ag C C' a) ∧ (ck C).1 ≤ (ck C').1 ∧ ∀ u' w', RQ u' w' S A V → RQ (u' + 3 * r) (w' + 70 * r) S A V'
  | 0, 0, _, _, _, _, _, _, _, _, _, _, _, _, _, _, _, _, _, h => absurd h (by omega)
  | 0, g + 1, i, u, w, V, C, L, J, P, hO, hL, hLd, hU, hqc, hR, hu, hw', hi, _ => by
    have e : i = nl := by omega
    subst e
    have w0 := (jj_wc J0 hc).1.2.1
    have hcr : RCc S A C c := pd_RCc P (jj_c J (by have := hx.1.2; omega)) hYc
    have e20 : S.1 20 c = i := ((hx.2.2 c hc).1 20 (by decide)).trans hnl
    refine ⟨V, C, L, ?_, J, P, hO, hL, hLd, fun a _ _ _ => Ag.refl _ _, Nat.le_refl _, fun _ _ h => h⟩
    unfold c_B_remakeLoops_13
    rw [rc_loopCount hcr, obd_some, e20, if_pos (Int32.le_refl _)]
  | r + 1, 0, _, _, _, _, _, _, _, _, _, _, _, _, _, _, _, _, _, h => absurd h (by omega)
  | r + 1, g + 1, i, u, w, V, C, L, J, P, hO, hL, hLd, hU, hqc, hR, hu, hw', hi, hg => by
    have wc0 := jj_wc J0 hc
    have w0 := wc0.1.2.1
    have hcS : c < S.1 16 0 := by have := hx.1.2; omega
    have hcr : RCc S A C c := pd_RCc P (jj_c J hcS) hYc
    have xc := hx.2.2 c hc
    have e20 : S.1 20 c = nl := (xc.1 20 (by decide)).trans hnl
    have hwV := J.1.1
    have hwC := pd_CW P hwV
    have eck := pd_ck P
    have hl := hcr.2.2.2.2 i (by omega)
    have hso : cso S0 c < 3 := so_lt J0 (wc0.2.1 0 (by omega)).1
    have wl := wc0.2.2.2.2.1 i (by omega)
    have xl := xc.2.2 i (by omega)
    have e21 := xl.1 21 (by decide)
    have e22 := xl.1 22 (by decide)
    have e23 := xl.1 23 (by decide)
    have e24 := xl.2
    have hb : RCb S A C bx := pd_RCb P (jj_b J)
    have agr6 : Agr (ck C).1 C (cfr C 5 0 4) := agr_fr (Nat.le_refl _)
    have hb6 : RCb S A (cfr C 5 0 4) bx := rcb_up hb hwC agr6
    have lt : ∀ a, C.1 a ≠ 0 → a < (ck C).1 := fun a ha => (hwC.2.1 a ha).2
    have g4 : Ag C (cfr C 5 0 4) (A 4 (3 * c + i)) := agr6.ag (lt _ (by rw [hl.1.1]; decide))
    have g67 : Ag C (cfr C 5 0 4) (A 67 (3 * c + i)) := agr6.ag (lt _ (by rw [hl.2.1]; decide))
    have g68 : Ag C (cfr C 5 0 4) (A 68 (3 * c + i)) := agr6.ag (lt _ (by rw [hl.2.2.2.2.1]; decide))
    have htr := translated_of (pl := false) hb6 hso s3 wl.2.2.2.2.2.1
    have hli := linit_of (C := C) (f := S0.1 22 (3 * c + i)) (t := S0.1 21 (3 * c + i)) (ln := S0.1 23 (3 * c + i)) (v := trB (cso S0 c) st false (S0.2.1 24 (3 * c + i))) wl.2.2.2.1
    have hti := tie_run (f := S0.1 22 (3 * c + i)) (t := S0.1 21 (3 * c + i)) (ln := S0.1 23 (3 * c + i)) (v := trB (cso S0 c) st false (S0.2.1 24 (3 * c + i))) hwC hO (by omega)
    have hck : ck (tiC V (q + 2) q i (S0.1 22 (3 * c + i)) (S0.1 21 (3 * c + i)) (S0.1 23 (3 * c + i)) (trB (cso S0 c) st false (S0.2.1 24 (3 * c + i)))) = ((ck V).1 + 3, (ck V).2 + 4 + 2 + S0.1 23 (3 * c + i)) := rfl
    have hckC : ck (tiC C (q + 2) q i (S0.1 22 (3 * c + i)) (S0.1 21 (3 * c + i)) (S0.1 23 (3 * c + i)) (trB (cso S0 c) st false (S0.2.1 24 (3 * c + i)))) = ((ck C).1 + 3, (ck C).2 + 4 + 2 + S0.1 23 (3 * c + i)) := rfl
    have tq : V.1 q = 2 := by rw [← P.1.1]; exact hO.1.1
    have tq2 : V.1 (q + 2) = 34 := by rw [← P.1.1]; exact hO.2.2.1.1
    have tD := hwV.2.1 (A 2 0) (va_tag J (show VA S 2 0 from rfl) (by decide))
    have hRn : ∀ u w, RQ u w S A V → RQ (u + 3) (w + 70) S A (tiC V (q + 2) q i (S0.1 22 (3 * c + i)) (S0.1 21 (3 * c + i)) (S0.1 23 (3 * c + i)) (trB (cso S0 c) st false (S0.2.1 24 (3 * c + i)))) := by
      intro u w hR z hz
      have hu2 := hU 2 0 rfl (by decide)
      rw [(ti_ag (C := V) tD.2 hu2.1 hu2.2).2.2.2.2.1] at hz
      have := hR z hz
      have := wl.2.2.2.1
      rw [hck]
      show (ck V).1 + 3 + _ + _ + _ + _ + _ ≤ _ ∧ (ck V).2 + 4 + 2 + S0.1 23 (3 * c + i) + _ + _ + _ + _ + _ ≤ _
      omega
    have hwn : CW B (tiC V (q + 2) q i (S0.1 22 (3 * c + i)) (S0.1 21 (3 * c + i)) (S0.1 23 (3 * c + i)) (trB (cso S0 c) st false (S0.2.1 24 (3 * c + i)))) := by
      obtain ⟨⟨f1, f2⟩, -⟩ := lpC_facts (f := S0.1 22 (3 * c + i)) (t := S0.1 21 (3 * c + i)) (ln := S0.1 23 (3 * c + i)) (v := trB (cso S0 c) st false (S0.2.1 24 (3 * c + i))) hwV
      have lV : ∀ a, V.1 a ≠ 0 → (lpC V (S0.1 22 (3 * c + i)) (S0.1 21 (3 * c + i)) (S0.1 23 (3 * c + i)) (trB (cso S0 c) st false (S0.2.1 24 (3 * c + i)))).1 a ≠ 0 := fun a ha => by
        rw [(lpC_agr.ag (hwV.2.1 a ha).2).1]; exact ha
      unfold tiC
      exact cw_csI (cw_csA f2 (lV _ (by rw [tq2]; decide))) (lV q (by rw [tq]; decide))
    have J' : JJ G E B bx m ad' S A (tiC V (q + 2) q i (S0.1 22 (3 * c + i)) (S0.1 21 (3 * c + i)) (S0.1 23 (3 * c + i)) (trB (cso S0 c) st false (S0.2.1 24 (3 * c + i)))) (tOf S) := jj_un (q := q) (q1 := q + 2) J (fun a ha h1 h2 => ti_ag ha h1 h2) hwn (by rw [hck]; show (ck V).1 ≤ (ck V).1 + 3; omega) tq (Or.inr tq2) hU (rq_mono (hRn u w hR) (by omega) (by omega))
    have hL' : ∀ j, j < i + 1 → LM (tiC C (q + 2) q i (S0.1 22 (3 * c + i)) (S0.1 21 (3 * c + i)) (S0.1 23 (3 * c + i)) (trB (cso S0 c) st false (S0.2.1 24 (3 * c + i)))) ((fun j => if j = i then (ck C).1 else L j) j) (S0.1 22 (3 * c + j)) (S0.1 21 (3 * c + j)) (S0.1 23 (3 * c + j)) (trB (cso S0 c) st false (S0.2.1 24 (3 * c + j))) ∧ (∀ t k, VA S t k → t ≠ 0 → A t k < (fun j => if j = i then (ck C).1 else L j) j) ∧ q + 3 < (fun j => if j = i then (ck C).1 else L j) j ∧ (fun j => if j = i then (ck C).1 else L j) j + 2 < (ck (tiC C (q + 2) q i (S0.1 22 (3 * c + i)) (S0.1 21 (3 * c + i)) (S0.1 23 (3 * c + i)) (trB (cso S0 c) st false (S0.2.1 24 (3 * c + i))))).1 := fun j hj => by
      by_cases e : j = i
      · subst e
        show LM _ (if j = j then (ck C).1 else L j) _ _ _ _ ∧ (∀ t k, VA S t k → t ≠ 0 → A t k < (if j = j then (ck C).1 else L j)) ∧ q + 3 < (if j = j then (ck C).1 else L j) ∧ (if j = j then (ck C).1 else L j) + 2 < _
        rw [if_pos rfl, hckC]
        exact ⟨lm_new hwC (by omega), fun t k h h0 => by rw [eck]; exact (hwV.2.1 _ (va_tag J h h0)).2, hqc, by show (ck C).1 + 2 < (ck C).1 + 3; omega⟩
      · obtain ⟨v1, v2, v3, v4⟩ := hL j (by omega)
        show LM _ (if j = i then (ck C).1 else L j) _ _ _ _ ∧ (∀ t k, VA S t k → t ≠ 0 → A t k < (if j = i then (ck C).1 else L j)) ∧ q + 3 < (if j = i then (ck C).1 else L j) ∧ (if j = i then (ck C).1 else L j) + 2 < _
        rw [if_neg e, hckC]
        exact ⟨lm_ag v1 (ti_ag (by omega) (by omega) (by omega)) (ti_ag (by omega) (by omega) (by omega)) (ti_ag (by omega) (by omega) (by omega)), v2, v3, by show L j + 2 < (ck C).1 + 3; omega⟩
    have hLd' : ∀ j k, j < k → k < i + 1 → (fun j => if j = i then (ck C).1 else L j) j + 2 < (fun j => if j = i then (ck C).1 else L j) k := fun j k hj hk => by
      show (if j = i then (ck C).1 else L j) + 2 < (if k = i then (ck C).1 else L k)
      by_cases e : k = i
      · subst e
        rw [if_pos rfl, if_neg (by omega)]
        exact (hL j (by omega)).2.2.2
      · rw [if_neg e, if_neg (by omega)]
        exact hLd j k hj (by omega)
    obtain ⟨V', C', L', u1, u2, u3, u4, u5, u6, u7, u8, u9⟩ := loops_go J0 s3 hc h0 hx hYc hnl (N := N) r g (i + 1) (u + 3) (w + 70) _ _ (fun j => if j = i then (ck C).1 else L j) J' (pd_ti P) (om_tie hwC hO (by omega)) hL' hLd' hU (by rw [hckC]; show q + 3 < (ck C).1 + 3; omega) (hRn u w hR) (by omega) (by omega) (by omega) (by omega)
    refine ⟨V', C', L', ?_, u2, u3, u4, u5, u6, fun a ha h1 h2 => ag_trans (ti_ag ha h1 h2) (u7 a (by rw [hckC]; show a < (ck C).1 + 3; omega) h1 h2), ?_, fun u' w' h => rq_mono (u9 _ _ (hRn u' w' h)) (by omega) (by omega)⟩
    · rw [← u1]
      show obd (cgI C (A 1 c) 1 4) _ = _
      rw [rc_loopCount hcr, obd_some, e20, if_neg (by rw [i32_le (by omega) (by omega)]; omega), cob_of (rc_tag hcr), jgd_true, loopAtR hcr (by omega) (by omega), if_pos (by omega), obd_some, jon_some, jon_some]
      unfold cnew
      dsimp only
      rw [show cfr C (4 + 1) 0 (jnfl 4) = cfr C 5 0 4 from rfl, cgI_ag g4, rl_from hl, obd_some, cgI_ag g4, rl_to hl, obd_some, cgA_ag g4, rl_past hl, obd_some, obd_some]
      have ts : c_Row_size (A 67 (3 * c + i)) (cfr C 5 0 4) = some (i32 (S.1 23 (3 * c + i))) := by
        unfold c_Row_size
        rw [cgA_ag g67, rl_cells hl, obd_some, obd_some, cal_of (n := S.1 23 (3 * c + i)) (by rw [g68.1, hl.2.2.2.2.1]; decide) (by rw [g68.2.1]; exact hl.2.2.2.2.2.1), obd_some]
      rw [cob_of (ci := 6) (by rw [g67.1]; exact hl.2.1), jgd_true, ts, obd_some, cgJ_ag g4, rl_factor hl, obd_some, cob_of (ci := 0) (rb_tag hb6), jgd_true, e21, e22, e23, e24, htr, obd_some, hli, obd_some, obd_some, cob_of (ci := 1) (by rw [(lpC_agr.ag (lt q (by rw [hO.1.1]; decide))).1]; exact hO.1.1), jgd_true, hti, obd_some]
      unfold c_B_remakeLoops_82
      rw [show i32 i + 1 = i32 (i + 1) from i32_add i 1]
    · rw [hckC] at u8
      have u8 : (ck C).1 + 3 ≤ (ck C').1 := u8
      omega
end OPENC
