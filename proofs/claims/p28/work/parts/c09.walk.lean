/-! THE LAW'S ACCOUNT, walked (printed by wip/p28/walk.py) -/
abbrev K517 : Type := Nat → Nat → Int32 → Nat → Nat → Nat → Nat → Nat → Nat → Bool → Int32 → Int32 → Int64 → Int64 → Nat → Nat → Nat → Nat → Nat → Nat → Nat → Int32 → Int32 → Nat → Int32 → JMem → Option (Bool × JMem)
abbrev K553 : Type := Nat → Nat → Int32 → Nat → Nat → Nat → Nat → Nat → Nat → Int32 → Int32 → Int64 → Int64 → Nat → Nat → Nat → Nat → Nat → Nat → Nat → Int32 → Int32 → Nat → Int32 → Int64 → Int64 → Int32 → JMem → Option (Bool × JMem)
abbrev K634 : Type := Nat → Nat → Int32 → Nat → Nat → Nat → Nat → Nat → Nat → Int32 → Int32 → Int64 → Int64 → Nat → Nat → Nat → Nat → Nat → Nat → Nat → Int32 → Int32 → Nat → Int32 → Int64 → Int64 → Int32 → Int32 → Int32 → Int64 → Int64 → Int32 → JMem → Option (Bool × JMem)
abbrev K1485 : Type := Nat → Nat → Int32 → Nat → Nat → Nat → Nat → Nat → Nat → Bool → Int32 → Int32 → Int64 → Int64 → Nat → Nat → Nat → Nat → Nat → Nat → Nat → Int32 → Int32 → Nat → Int32 → Int32 → JMem → Option (Bool × JMem)
abbrev K94 : Type := Nat → Nat → Int32 → Nat → Nat → Nat → Nat → Nat → Nat → Bool → Int32 → JMem → Option (Bool × JMem)

/-- the whole memory of the law's run -/
def mu (C : CT) (la : Nat → Nat) (h0 : Nat → Option JCell) (V : LV) : JMem := (ovC C (lmem la V h0 15), ck C)
theorem up2_id {α : Type} (f : Nat → Nat → α) (k j : Nat) : up2 f k j (f k j) = f := funext fun x => funext fun y => by
  unfold up2
  by_cases h : x = k ∧ y = j
  · rw [if_pos h, h.1, h.2]
  · rw [if_neg h]
theorem vI_id (V : LV) (q j : Nat) : vI V q j (V.1 q j) = V := Prod.ext (up2_id _ _ _) rfl
theorem vJ_id (V : LV) (q j : Nat) : vJ V q j (V.2 q j) = V := Prod.ext rfl (up2_id _ _ _)
theorem vI_at (V : LV) (q j : Nat) (x : Int32) : (vI V q j x).1 q j = x := up2_same _ _ _ _
theorem vJ_at (V : LV) (q j : Nat) (x : Int64) : (vJ V q j x).2 q j = x := up2_same _ _ _ _
theorem vI_q {V : LV} {q q' j : Nat} {x : Int32} (h : q' ≠ q) (y : Nat) : (vI V q j x).1 q' y = V.1 q' y := up2_k _ _ _ _ h
theorem vJ_q {V : LV} {q q' j : Nat} {x : Int64} (h : q' ≠ q) (y : Nat) : (vJ V q j x).2 q' y = V.2 q' y := up2_k _ _ _ _ h
theorem vI_j {V : LV} {q j j' : Nat} {x : Int32} (h : j' ≠ j) : (vI V q j x).1 q j' = V.1 q j' := up2_j _ _ _ h
theorem vJ_j {V : LV} {q j j' : Nat} {x : Int64} (h : j' ≠ j) : (vJ V q j x).2 q j' = V.2 q j' := up2_j _ _ _ h
theorem fit_ay {lim : Nat} (hl : lim ≤ 1) (q : Int64) : g_L_fit q (i32 lim) = ay lim q := by
  unfold ay g_L_fit g_Shorts_isShort
  have e18 : ¬ (q < -32768 → False) ∨ (32767 : Int64) < q → g_L_fit_18 q (i32 lim) = g_Shorts_limited q (i32 lim) := by
    intro hq
    unfold g_L_fit_18 g_Shorts_limited
    rcases (show lim = 0 ∨ lim = 1 by omega) with h | h
    · subst h
      rw [if_neg (show ¬ i32 0 = (1 : Int32) by decide), if_pos (show i32 0 = (0 : Int32) from rfl)]
      unfold g_Shorts_cut
      rcases hq with hq | hq
      · have hq : q < -32768 := Classical.byContradiction fun z => hq z
        rw [Int64.lt_iff_toInt_lt] at hq
        have z1 : (-32768 : Int64).toInt = -32768 := by decide
        rw [if_pos (by rw [Int64.le_iff_toInt_le]; have : (0 : Int64).toInt = 0 := rfl; omega), if_pos (by rw [Int64.le_iff_toInt_le]; have : (32767 : Int64).toInt = 32767 := by decide
                                                                                                           omega), if_neg (by rw [Int64.le_iff_toInt_le]; omega)]
      · rw [Int64.lt_iff_toInt_lt] at hq
        have z1 : (32767 : Int64).toInt = 32767 := by decide
        rw [if_neg (by rw [Int64.le_iff_toInt_le]; have : (0 : Int64).toInt = 0 := rfl; omega), if_neg (by rw [Int64.le_iff_toInt_le]; omega)]
    · subst h
      rw [if_pos (show i32 1 = (1 : Int32) from rfl), if_neg (show ¬ i32 1 = (0 : Int32) by decide)]
  by_cases h1 : q < -32768
  · rw [if_pos h1, if_pos h1, if_neg (by decide)]
    exact e18 (Or.inl fun z => z h1)
  · rw [if_neg h1, if_neg h1]
    by_cases h2 : (32767 : Int64) < q
    · rw [if_pos h2, if_pos h2, if_neg (by decide)]
      exact e18 (Or.inr h2)
    · rw [if_neg h2, if_neg h2, if_pos rfl]
/-- the law's arrays after a sum has been cut -/
def cutV (V : LV) (k how : Nat) (x : Int64) : LV := vI (vJ V 10 k (are how (V.2 10 k) x)) 11 k (aov (aq how (V.2 10 k) x) (V.1 11 k))
section WALK
variable {G : GT} {N M B bx k how lim kd : Nat} {SA : Nat → Nat} {la : Nat → Nat} {S : ST} {C : CT} {V : LV} {h0 : Nat → Option JCell} {k517 : K517} {k553 : K553} {k634 : K634}
  {v3 v11 v12 v24 v25 v27 v33 v34 v41 : Int32} {v13 v15 v28 v30 v35 v37 x q : Int64}
theorem lrI {q j : Nat} {v : Int32} (h : LX G B bx la 15 S C) (hq : q < 15) (hl : llg q = false) (hj : jrg (lln q) v = some j) : jaI (mu C la h0 V).1 (la q) v = some (V.1 q j) := lx_rdI h hq hl hj
theorem lrJ {q j : Nat} {v : Int32} (h : LX G B bx la 15 S C) (hq : q < 15) (hl : llg q = true) (hj : jrg (lln q) v = some j) : jaJ (mu C la h0 V).1 (la q) v = some (V.2 q j) := lx_rdJ h hq hl hj
theorem lpI {q j : Nat} {v x : Int32} (h : LX G B bx la 15 S C) (hq : q < 15) (hl : llg q = false) (hj : jrg (lln q) v = some j) : jpA B .int (la q) v (.int x) (mu C la h0 V) = some (mu C la h0 (vI V q j x)) := lx_ptI h hq hl hj
theorem lpJ {q j : Nat} {v : Int32} {x : Int64} (h : LX G B bx la 15 S C) (hq : q < 15) (hl : llg q = true) (hj : jrg (lln q) v = some j) : jpA B .long (la q) v (.long x) (mu C la h0 V) = some (mu C la h0 (vJ V q j x)) := lx_ptJ h hq hl hj
theorem jr4 {q : Nat} (hk : k < 4) (hq : 4 ≤ lln q) : jrg (lln q) (i32 k) = some k := jrg_i32 (by omega) (by have := lln_le q; omega)
theorem w1008 (h : LX G B bx la 15 S C) (hk : k < 4) (hl : V.1 3 k = i32 lim) (hl1 : lim ≤ 1) (hkd : V.1 1 k = i32 kd) (hk16 : kd < 16) :
    g_L_law_1008 N M B SA k517 k553 k634 (la 0) bx v3 (la 1) (la 2) (la 3) (la 4) (la 5) (la 6) v11 v12 v13 v15 (la 7) (la 8) (la 9) (la 10) (la 11) (la 12) (la 13) v24 v25 (la 14) v27 v28 v30 (i32 k) v33 v34 v37 v41 q (mu C la h0 V) = k634 (la 0) bx v3 (la 1) (la 2) (la 3) (la 4) (la 5) (la 6) v11 v12 v13 v15 (la 7) (la 8) (la 9) (la 10) (la 11) (la 12) (la 13) v24 v25 (la 14) v27 (if v33 ≤ v41 then v28 else ay lim q) v30 (i32 k) v33 v34 (ay lim q) (if v33 ≤ v41 ∧ kd = 5 ∧ v41 = v33 then ay lim q else v37) (v41 + 1) (mu C la h0 V) := by
  unfold g_L_law_1008
  rw [lrI (q := 3) h (by decide) rfl (jr4 hk (by decide)), obd_some, hl, fit_ay hl1]
  by_cases h1 : v33 ≤ v41
  · rw [if_pos h1, if_pos h1, lrI (q := 1) h (by decide) rfl (jr4 hk (by decide)), obd_some, hkd]
    by_cases h2 : kd = 5
    · rw [if_pos (by rw [h2]; rfl)]
      by_cases h3 : v41 = v33
      · rw [if_pos h3, if_pos ⟨h1, h2, h3⟩]; rfl
      · rw [if_neg h3, if_neg (fun z => h3 z.2.2)]; rfl
    · rw [if_neg (show ¬ i32 kd = (5 : Int32) from i32_ne (b := 5) (by omega) (by decide) h2), if_neg (fun z => h2 z.2.1)]; rfl
  · rw [if_neg h1, if_neg h1, if_neg (fun z => h1 z.1)]; rfl
theorem w981 (h : LX G B bx la 15 S C) (hk : k < 4) (hl : V.1 3 k = i32 lim) (hl1 : lim ≤ 1) (hkd : V.1 1 k = i32 kd) (hk16 : kd < 16) :
    g_L_law_981 N M B SA k517 k553 k634 (la 0) bx v3 (la 1) (la 2) (la 3) (la 4) (la 5) (la 6) v11 v12 v13 v15 (la 7) (la 8) (la 9) (la 10) (la 11) (la 12) (la 13) v24 v25 (la 14) v27 v28 v30 (i32 k) v33 v34 v37 v41 q (mu C la h0 V) = k634 (la 0) bx v3 (la 1) (la 2) (la 3) (la 4) (la 5) (la 6) v11 v12 v13 v15 (la 7) (la 8) (la 9) (la 10) (la 11) (la 12) (la 13) v24 v25 (la 14) v27 (if v33 ≤ v41 then v28 else ay lim q) v30 (i32 k) v33 v34 (ay lim q) (if v33 ≤ v41 ∧ kd = 5 ∧ v41 = v33 then ay lim q else v37) (v41 + 1) (mu C la h0 (vI V 11 k (aov q (V.1 11 k)))) := by
  have hin : ∀ b, g_Shorts_isShort q = b → vI V 11 k (aov q (V.1 11 k)) = if b = true then V else vI V 11 k (V.1 11 k + 1) := fun b hb => by
    unfold aov
    rw [hb]
    cases b with
    | true => rw [if_pos rfl, if_pos rfl, vI_id]
    | false => rw [if_neg (by decide), if_neg (by decide)]
  have w999 : g_L_law_999 N M B SA k517 k553 k634 (la 0) bx v3 (la 1) (la 2) (la 3) (la 4) (la 5) (la 6) v11 v12 v13 v15 (la 7) (la 8) (la 9) (la 10) (la 11) (la 12) (la 13) v24 v25 (la 14) v27 v28 v30 (i32 k) v33 v34 v37 v41 q (mu C la h0 V) = k634 (la 0) bx v3 (la 1) (la 2) (la 3) (la 4) (la 5) (la 6) v11 v12 v13 v15 (la 7) (la 8) (la 9) (la 10) (la 11) (la 12) (la 13) v24 v25 (la 14) v27 (if v33 ≤ v41 then v28 else ay lim q) v30 (i32 k) v33 v34 (ay lim q) (if v33 ≤ v41 ∧ kd = 5 ∧ v41 = v33 then ay lim q else v37) (v41 + 1) (mu C la h0 (vI V 11 k (V.1 11 k + 1))) := by
    unfold g_L_law_999
    rw [lrI (q := 11) h (by decide) rfl (jr4 hk (by decide)), obd_some, lpI (q := 11) h (by decide) rfl (jr4 hk (by decide)), obd_some]
    exact w1008 h hk ((vI_q (by decide) _).trans hl) hl1 ((vI_q (by decide) _).trans hkd) hk16
  unfold g_L_law_981
  by_cases h1 : q < -32768
  · rw [if_pos h1, w999, hin false (by unfold g_Shorts_isShort; rw [if_pos h1]), if_neg (show ¬ false = true by decide)]
  · rw [if_neg h1]
    by_cases h2 : (32767 : Int64) < q
    · rw [if_neg (Int64.not_le.mpr h2), w999, hin false (by unfold g_Shorts_isShort; rw [if_neg h1, if_pos h2]), if_neg (show ¬ false = true by decide)]
    · rw [if_pos (Int64.not_lt.mp h2), w1008 h hk hl hl1 hkd hk16, hin true (by unfold g_Shorts_isShort; rw [if_neg h1, if_neg h2]), if_pos (show true = true from rfl)]
theorem w911 (h : LX G B bx la 15 S C) (hk : k < 4) (hh : V.1 2 k = i32 how) (hh2 : how ≤ 2) (hl : V.1 3 k = i32 lim) (hl1 : lim ≤ 1) (hkd : V.1 1 k = i32 kd) (hk16 : kd < 16) :
    g_L_law_911 N M B SA k517 k553 k634 (la 0) bx v3 (la 1) (la 2) (la 3) (la 4) (la 5) (la 6) v11 v12 v13 v15 (la 7) (la 8) (la 9) (la 10) (la 11) (la 12) (la 13) v24 v25 (la 14) v27 v28 v30 (i32 k) v33 v34 v37 v41 x (mu C la h0 V) = k634 (la 0) bx v3 (la 1) (la 2) (la 3) (la 4) (la 5) (la 6) v11 v12 v13 v15 (la 7) (la 8) (la 9) (la 10) (la 11) (la 12) (la 13) v24 v25 (la 14) v27 (if v33 ≤ v41 then v28 else ay lim (aq how (V.2 10 k) x)) v30 (i32 k) v33 v34 (ay lim (aq how (V.2 10 k) x)) (if v33 ≤ v41 ∧ kd = 5 ∧ v41 = v33 then ay lim (aq how (V.2 10 k) x) else v37) (v41 + 1) (mu C la h0 (cutV V k how x)) := by
  have r2 : ∀ V : LV, V.1 2 k = i32 how → jaI (mu C la h0 V).1 (la 2) (i32 k) = some (i32 how) := fun V hV => by rw [lrI (q := 2) h (by decide) rfl (jr4 hk (by decide)), hV]
  have n2 : how ≠ 2 → ¬ i32 how = (2 : Int32) := fun z => i32_ne (b := 2) (by omega) (by decide) z
  have n0 : how ≠ 0 → ¬ i32 how = (0 : Int32) := fun z => i32_ne (b := 0) (by omega) (by decide) z
  have w956 : g_L_law_956 N M B SA k517 k553 k634 (la 0) bx v3 (la 1) (la 2) (la 3) (la 4) (la 5) (la 6) v11 v12 v13 v15 (la 7) (la 8) (la 9) (la 10) (la 11) (la 12) (la 13) v24 v25 (la 14) v27 v28 v30 (i32 k) v33 v34 v37 v41 (asu how (V.2 10 k) x) (aq how (V.2 10 k) x) (mu C la h0 V) = k634 (la 0) bx v3 (la 1) (la 2) (la 3) (la 4) (la 5) (la 6) v11 v12 v13 v15 (la 7) (la 8) (la 9) (la 10) (la 11) (la 12) (la 13) v24 v25 (la 14) v27 (if v33 ≤ v41 then v28 else ay lim (aq how (V.2 10 k) x)) v30 (i32 k) v33 v34 (ay lim (aq how (V.2 10 k) x)) (if v33 ≤ v41 ∧ kd = 5 ∧ v41 = v33 then ay lim (aq how (V.2 10 k) x) else v37) (v41 + 1) (mu C la h0 (cutV V k how x)) := by
    unfold g_L_law_956
    rw [r2 V hh, obd_some]
    by_cases e : how = 2
    · rw [if_pos (by rw [e]; rfl), lpJ (q := 10) h (by decide) rfl (jr4 hk (by decide)), obd_some]
      have ec : cutV V k how x = vI (vJ V 10 k (asu how (V.2 10 k) x - 16384 * aq how (V.2 10 k) x)) 11 k (aov (aq how (V.2 10 k) x) ((vJ V 10 k (asu how (V.2 10 k) x - 16384 * aq how (V.2 10 k) x)).1 11 k)) := by
        unfold cutV are
        rw [if_pos e, Int64.mul_comm (16384 : Int64)]
        rfl
      rw [ec]
      exact w981 h hk hl hl1 hkd hk16
    · rw [if_neg (n2 e)]
      have ec : cutV V k how x = vI V 11 k (aov (aq how (V.2 10 k) x) (V.1 11 k)) := by
        unfold cutV are
        rw [if_neg e, vJ_id]
      rw [ec]
      exact w981 h hk hl hl1 hkd hk16
  have w930 : g_L_law_930 N M B SA k517 k553 k634 (la 0) bx v3 (la 1) (la 2) (la 3) (la 4) (la 5) (la 6) v11 v12 v13 v15 (la 7) (la 8) (la 9) (la 10) (la 11) (la 12) (la 13) v24 v25 (la 14) v27 v28 v30 (i32 k) v33 v34 v37 v41 (asu how (V.2 10 k) x) (mu C la h0 V) = k634 (la 0) bx v3 (la 1) (la 2) (la 3) (la 4) (la 5) (la 6) v11 v12 v13 v15 (la 7) (la 8) (la 9) (la 10) (la 11) (la 12) (la 13) v24 v25 (la 14) v27 (if v33 ≤ v41 then v28 else ay lim (aq how (V.2 10 k) x)) v30 (i32 k) v33 v34 (ay lim (aq how (V.2 10 k) x)) (if v33 ≤ v41 ∧ kd = 5 ∧ v41 = v33 then ay lim (aq how (V.2 10 k) x) else v37) (v41 + 1) (mu C la h0 (cutV V k how x)) := by
    rw [← w956]
    unfold g_L_law_930
    rw [r2 V hh, obd_some]
    unfold aq g_Shorts_rounded
    by_cases e : how = 0
    · rw [if_pos (by rw [e]; rfl), if_pos (by rw [e]; rfl)]
    · rw [if_neg (n0 e), if_neg (n0 e)]
  rw [← w930]
  unfold g_L_law_911
  rw [r2 V hh, obd_some]
  unfold asu
  by_cases e : how = 2
  · rw [if_pos (by rw [e]; rfl), if_pos e, lrJ (q := 10) h (by decide) rfl (jr4 hk (by decide)), obd_some]
  · rw [if_neg (n2 e), if_neg e]
end WALK
