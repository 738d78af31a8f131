/-! all samples; the chain made anew; the second run; what was kept -/
def smp (xs : Nat → Int32) (t : Nat) : Int64 := Int32.toInt64 (Int16.toInt32 (Int32.toInt16 (xs (10 + t) >>> ((i32 t &&& (7 : Int32)) &&& 31))))
theorem s16_vb (y : Int16) : vb 2 (Int32.toInt64 (Int16.toInt32 y)) := by
  have h1 := Int16.le_toInt y
  have h2 := Int16.toInt_lt y
  have e : (Int32.toInt64 (Int16.toInt32 y)).toInt = y.toInt := by rw [Int32.toInt_toInt64, Int16.toInt_toInt32]
  refine ⟨?_, ?_⟩
  · rw [Int64.le_iff_toInt_le, e]
    have : (-32768 : Int64).toInt = -32768 := by decide
    omega
  · rw [Int64.le_iff_toInt_le, e]
    have : (32767 : Int64).toInt = 32767 := by decide
    omega
theorem smp_vb (xs : Nat → Int32) (t : Nat) : vb 2 (smp xs t) := s16_vb _
/-- nothing yet -/
def X00 : CY := (fun _ => (fun _ => 0, 0, 0, 0, 0), (fun _ => 0, 0), (fun _ => 0, 0))
def aR (P : PA) (xs : Nat → Int32) : Nat → CY
  | 0 => X00
  | t + 1 => (aF P (aR P xs t) (smp xs t)).2
def aO (P : PA) (xs : Nat → Int32) (t : Nat) : Int64 := (aF P (aR P xs t) (smp xs t)).1
section RUNS
variable {G : GT} {N M B bx k f j n t : Nat} {SA : Nat → Nat} {la : Nat → Nat} {S S0 : ST} {C : CT} {V : LV} {h0 : Nat → Option JCell}
  {v3 v11 v12 v24 v25 v27 : Int32} {v13 v15 v28 v30 x : Int64} {μ : JMem} {P : PA} {X : CY} {q0 q1 : LY} {φ : Nat → Nat} {xs : Nat → Int32}
theorem i40 (ht : t < 40) : ¬ (40 : Int32) ≤ i32 t := by rw [show (40 : Int32) = i32 40 from rfl, i32_le (by decide) (by omega)]; omega
theorem runs_law (hs : CS B SA h0) (hN : 100 ≤ N) : ∀ (q t f : Nat) (S : ST) (C : CT) (V : LV) (v24 v25 : Int32), t + q = 40 → LX G B bx la 15 S C → FC P S (aR P xs t) t → LC P φ V → AR P (aR P xs t) V v25 → LR V 0 v24 P.2.2.2.2.1 (aR P xs t).2.1 → (∀ j, j < 60 → V.1 0 j = xs j) → (∀ j, j < t → V.1 14 j = (aO P xs j).toInt32 ∧ vb 2 (aO P xs j)) →
    ∃ S' C' V', g_L_law_517 N (M + 1) B SA (f + 1 + q) (la 0) bx (i32 P.1.1) (la 1) (la 2) (la 3) (la 4) (la 5) (la 6) true (i32 P.2.2.2.2.1) (i32 P.2.2.2.2.2) P.2.2.1 P.2.2.2.1 (la 7) (la 8) (la 9) (la 10) (la 11) (la 12) (la 13) v24 v25 (la 14) (i32 t) (mu C la h0 V) =
        g_L_law_1563 N (M + 1) B SA (la 0) bx (i32 P.1.1) (la 1) (la 2) (la 3) true (la 14) (mu C' la h0 V') ∧
      LX G B bx la 15 S' C' ∧ Dy S S' ∧ FC P S' (aR P xs 40) 40 ∧ LC P φ V' ∧ (∀ j, j < 60 → V'.1 0 j = xs j) ∧ ∀ j, j < 40 → V'.1 14 j = (aO P xs j).toInt32 ∧ vb 2 (aO P xs j)
  | 0, t, f, S, C, V, v24, v25, ht, h, hF, hc, hA, l0, hx, ho => by
    have et : t = 40 := by omega
    subst et
    refine ⟨S, C, V, ?_, h, Dy.refl S, hF, hc, hx, ho⟩
    rw [Nat.add_zero, g_L_law_517, if_pos (by decide)]
  | q + 1, t, f, S, C, V, v24, v25, ht, h, hF, hc, hA, l0, hx, ho => by
    obtain ⟨S1, C1, V1, w24, w25, x1, x2, x3, x4, x5, x6, x7, x8, x9, xA⟩ := samp_law (N := N) (M := M) (SA := SA) (k517 := g_L_law_517 N (M + 1) B SA (f + 1 + q)) (x := smp xs t) (h0 := h0) h hs hN hF (by omega) hc hA l0 (smp_vb xs t)
    obtain ⟨S2, C2, V2, y1, y2, y3, y4, y5, y6, y7⟩ := runs_law hs hN q (t + 1) f S1 C1 V1 w24 w25 (by omega) x2 x4 x5 x6 x7 (fun j hj => (x9 j).trans (hx j hj)) (fun j hj => by
      by_cases e : j = t
      · subst e
        refine ⟨(xA j).trans (if_pos rfl), x8⟩
      · rw [xA j, if_neg e]; exact ho j (by omega))
    refine ⟨S2, C2, V2, ?_, y2, x3.trans y3, y4, y5, y6, y7⟩
    rw [show f + 1 + (q + 1) = (f + 1 + q) + 1 by omega, g_L_law_517, if_neg (i40 (by omega)), if_pos rfl, show (10 : Int32) + i32 t = i32 (10 + t) from i32_add 10 t, lrI (q := 0) h (by decide) rfl (jrg_i32 (show 10 + t < 60 by omega) (by decide)), obd_some, hx _ (by omega), jlet_eq]
    exact x1.trans y1
/-- what the keep left, and the first chain's shape: enough for what was kept to come back -/
def KF (n : Nat) (S : ST) : Prop := (S.1 44 0 = 1 ∧ S.1 45 0 = 0 ∧ S.1 72 0 = 1 ∧ S.1 73 0 = 0 ∧ S.1 51 0 = n ∧ S.1 52 0 = 2) ∧ S.1 17 0 = n ∧ S.1 20 0 = 2 ∧ ∀ k, k < n → S.1 18 k = k ∧ S.1 10 k = 0
theorem kf_dy {n : Nat} {S' : ST} (h : KF n S) (d : Dy S S') : KF n S' := by
  unfold KF at h ⊢
  rw [d.1 44 (by decide), d.1 45 (by decide), d.1 72 (by decide), d.1 73 (by decide), d.1 51 (by decide), d.1 52 (by decide), d.1 17 (by decide), d.1 20 (by decide), d.1 18 (by decide), d.1 10 (by decide)]
  exact h
def BD (B : Nat) (C : CT) : Prop := (ck C).1 ≤ B + 6000 ∧ (ck C).2 ≤ 1600000
theorem je_bd {E m : Nat} {ad : Nat → Nat} (J : JE G E B bx m ad S C) (h : ad 0 ≤ 15) : BD B C := by
  obtain ⟨A, J⟩ := J
  have hR := J.1.2.2 _ rfl
  have h1 := hR.1
  have h2 := hR.2
  exact ⟨by omega, by omega⟩
theorem end_law (h : LX G B bx la 15 S C) (hs : CS B SA h0) (hN : 100 ≤ N) (hK : KF n S) : ∃ C', g_L_law_1832 N M B SA bx true (mu C la h0 V) = some (true, (ovC C' (lmem la V h0 15), ck C')) ∧ BD B C' := by
  obtain ⟨⟨k1, k2, k3, k4, k5, k6⟩, k7, k8, k9⟩ := hK
  have hw := lx_cw h
  have hcs := lx_CS (V := V) h hs
  have hj := mu_job (V := V) (h0 := h0) h
  obtain ⟨⟨D, hD, A, J⟩, h2⟩ := h
  obtain ⟨C1, u1, C2, u2, u3, u4, u5⟩ := o_back (N := N) (k := 0) (c := 0) hN J (by omega) k2 (fun p hp => by
    obtain ⟨a1, a2⟩ := k9 p (by omega)
    rw [Nat.mul_zero, Nat.zero_add, a1]; exact a2) k3 k4 (by rw [k7]; exact k5) (by rw [k8]; exact k6)
  have hn15 := h2.2.2.1.2
  refine ⟨C2, ?_, je_bd u4.choose_spec (show D ≤ 15 by omega)⟩
  unfold g_L_law_1832
  rw [if_pos rfl, hj, jgd_true]
  have e1 := (t_B_back hcs _ _ _ _ _ hw u1).1
  have e2 := (t_B_same hcs _ _ _ _ _ u3 u2).1
  have e1 : g_B_back N B bx (0 : Int32) (mu C la h0 V) = some (true, (ovC C1 (lmem la V h0 15), ck C1)) := e1
  rw [e1, jbd2_some, if_pos rfl, c_job u5, jgd_true]
  have e2 : g_B_same N B bx (0 : Int32) (ovC C1 (lmem la V h0 15), ck C1) = some (true, (ovC C2 (lmem la V h0 15), ck C2)) := e2
  rw [e2, jbd2_some, if_pos rfl]
/-- the second run -/
theorem again_law (hs : CS B SA h0) (hN : 100 ≤ N) (hx : ∀ j, j < 60 → V.1 0 j = xs j) (ho : ∀ j, j < 40 → V.1 14 j = (aO P xs j).toInt32 ∧ vb 2 (aO P xs j)) : ∀ (q t f : Nat) (S : ST) (C : CT), t + q = 40 → LX G B bx la 15 S C → PC S 2 P → VX S 2 P.1.1 (aR P xs t) → S.1 28 2 = t → KF P.1.1 S →
    ∃ C', g_L_law_1766 N (M + 1) B SA (f + 1 + q) (la 0) bx true (la 14) (i32 t) (mu C la h0 V) = some (true, (ovC C' (lmem la V h0 15), ck C')) ∧ BD B C'
  | 0, t, f, S, C, ht, h, hP, hX, h28, hK => by
    have et : t = 40 := by omega
    subst et
    obtain ⟨C', u, u'⟩ := end_law (N := N) (M := M + 1) (V := V) h hs hN hK
    refine ⟨C', ?_, u'⟩
    rw [Nat.add_zero, g_L_law_1766, if_pos (by decide)]
    exact u
  | q + 1, t, f, S, C, ht, h, hP, hX, h28, hK => by
    obtain ⟨S', C', y1, y2, y3, y4, y5, y6, y7, y8⟩ := mu_feed (N := N) (M := M) (V := V) (k := 2) (x := smp xs t) h hs hN hP hX (smp_vb xs t) (by omega)
    have hP' := pc_dy hP y3
    have hout := mu_output (V := V) (k := 2) (j := t) y2 hs hP'.1.1 (by omega) (by omega)
    rw [h28, Nat.mod_eq_of_lt (show t < 400 by omega)] at y7
    rw [y7] at hout
    obtain ⟨o1, o2⟩ := ho t (by omega)
    have e64 : Int32.toInt64 (aO P xs t).toInt32 = aO P xs t := by
      obtain ⟨b1, b2⟩ := (o2 : -32768 ≤ aO P xs t ∧ aO P xs t ≤ 32767)
      rw [Int64.le_iff_toInt_le] at b1 b2
      have z1 : (-32768 : Int64).toInt = -32768 := by decide
      have z2 : (32767 : Int64).toInt = 32767 := by decide
      refine Int64.toInt_inj.mp ?_
      rw [Int32.toInt_toInt64, Int64.toInt_toInt32]
      exact Int.bmod_eq_of_le (by omega) (by omega)
    obtain ⟨C2, z, z'⟩ := again_law hs hN hx ho q (t + 1) f S' C' (by omega) y2 hP' y4 (by omega) (kf_dy hK y3)
    refine ⟨C2, ?_, z'⟩
    rw [show f + 1 + (q + 1) = (f + 1 + q) + 1 by omega, g_L_law_1766, if_neg (i40 (by omega)), if_pos rfl, show (10 : Int32) + i32 t = i32 (10 + t) from i32_add 10 t, lrI (q := 0) h (by decide) rfl (jrg_i32 (show 10 + t < 60 by omega) (by decide)), obd_some, hx _ (by omega), mu_job h, jgd_true]
    show jbd2 (g_B_feed N (M + 1) B bx (i32 2) (smp xs t) (mu C la h0 V)) _ = _
    rw [y1, jbd2_some, if_pos (by rfl), mu_job y2, jgd_true]
    show obd (g_B_output bx (i32 2) (i32 t) (mu C' la h0 V).1) _ = _
    rw [hout, obd_some, lrI (q := 14) y2 (by decide) rfl (jrg_i32 (show t < 40 by omega) (by decide)), obd_some, o1, e64, if_pos (by rfl)]
    unfold g_L_law_1824
    rw [show i32 t + 1 = i32 (t + 1) from i32_add t 1]
    exact z
end RUNS
