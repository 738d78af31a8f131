/-! the law, from its first instruction to its last -/
def nN (ys : Nat → Int32) : Nat := 1 + bN 2 (ys 0)
def sp0 (ys : Nat → Int32) : Nat := 1 + bN 2 (ys 0 >>> ((2 : Int32) &&& 31))
def sp1 (ys : Nat → Int32) : Nat := 1 + bN 2 (ys 0 >>> ((4 : Int32) &&& 31))
def gg0 (ys : Nat → Int32) : Int64 := Int32.toInt64 (Int16.toInt32 (Int32.toInt16 (ys 0 >>> ((6 : Int32) &&& 31))))
def gg1 (ys : Nat → Int32) : Int64 := Int32.toInt64 (Int16.toInt32 (Int32.toInt16 (ys 0 >>> ((12 : Int32) &&& 31))))
def PP (ys : Nat → Int32) : PA := ((nN ys, fun k => kdN (ys (k + 1)), fun k => hwN (ys (k + 1)), fun k => lmN (ys (k + 1)), fun k => nrow (kdN (ys (k + 1))) (i32 (frN (ys (k + 1))))), (fun k => aN (ys (k + 1)), fun k => bbN (ys (k + 1))), (gg0 ys, gg1 ys, sp0 ys, sp1 ys))
theorem nN_le (ys : Nat → Int32) : 1 ≤ nN ys ∧ nN ys ≤ 4 := by
  have h : bN 2 (ys 0) < 4 := bN_lt 2 _
  unfold nN; omega
theorem sp0_le (ys : Nat → Int32) : 1 ≤ sp0 ys ∧ sp0 ys ≤ 4 := by
  have h : bN 2 (ys 0 >>> ((2 : Int32) &&& 31)) < 4 := bN_lt 2 _
  unfold sp0; omega
theorem sp1_le (ys : Nat → Int32) : 1 ≤ sp1 ys ∧ sp1 ys ≤ 4 := by
  have h : bN 2 (ys 0 >>> ((4 : Int32) &&& 31)) < 4 := bN_lt 2 _
  unfold sp1; omega
section WHOLE
variable {G : GT} {N M B bx k f j n L scr c s m : Nat} {SA : Nat → Nat} {la : Nat → Nat} {S S3 : ST} {C : CT} {V : LV} {h0 : Nat → Option JCell} {xs ys : Nat → Int32} {v3 v11 : Int32} {v10 : Bool}
theorem kd_law {k94 : K94} {w : Int32} {μ : JMem} {a : Nat} {t : Bool} : (if (2 : Int32) ≤ (w &&& (7 : Int32)) then (if (w &&& (7 : Int32)) = (2 : Int32) then g_L_law_166 N M B SA k94 (la 0) bx v3 (la 1) (la 2) (la 3) (la 4) (la 5) (la 6) t v11 w (5 : Int32) v11 a μ else if (w &&& (7 : Int32)) = (3 : Int32) then g_L_law_166 N M B SA k94 (la 0) bx v3 (la 1) (la 2) (la 3) (la 4) (la 5) (la 6) t v11 w (6 : Int32) v11 a μ else if (w &&& (7 : Int32)) = (4 : Int32) then g_L_law_166 N M B SA k94 (la 0) bx v3 (la 1) (la 2) (la 3) (la 4) (la 5) (la 6) t v11 w (8 : Int32) v11 a μ else g_L_law_166 N M B SA k94 (la 0) bx v3 (la 1) (la 2) (la 3) (la 4) (la 5) (la 6) t v11 w ((4 : Int32) + (w &&& (7 : Int32))) v11 a μ)
    else g_L_law_166 N M B SA k94 (la 0) bx v3 (la 1) (la 2) (la 3) (la 4) (la 5) (la 6) t v11 w (w &&& (7 : Int32)) v11 a μ) = g_L_law_166 N M B SA k94 (la 0) bx v3 (la 1) (la 2) (la 3) (la 4) (la 5) (la 6) t v11 w (i32 (kdN w)) v11 a μ := by
  have hd : bN 3 w < 8 := bN_lt 3 w
  rw [and_7]
  unfold kdN
  generalize bN 3 w = d at hd
  have h : d = 0 ∨ d = 1 ∨ d = 2 ∨ d = 3 ∨ d = 4 ∨ d = 5 ∨ d = 6 ∨ d = 7 := by omega
  rcases h with e | e | e | e | e | e | e | e <;> subst e <;> rfl
theorem secs_make (hs : CS B SA h0) (hN : 100 ≤ N) (hn : n ≤ 4) : ∀ (q k f : Nat) (S : ST) (C : CT) (V : LV), k + q = n → LX G B bx la 7 S C → SI ys k S → LW ys k V →
    ∃ S' C' V', g_L_law_94 N M B SA (f + q) (la 0) bx (i32 n) (la 1) (la 2) (la 3) (la 4) (la 5) (la 6) true (i32 k) (mn 7 C la h0 V) = g_L_law_94 N M B SA f (la 0) bx (i32 n) (la 1) (la 2) (la 3) (la 4) (la 5) (la 6) true (i32 n) (mn 7 C' la h0 V') ∧ LX G B bx la 7 S' C' ∧ SI ys n S' ∧ LW ys n V'
  | 0, k, f, S, C, V, hk, h, hI, hw => by
    have e : k = n := by omega
    subst e
    exact ⟨S, C, V, rfl, h, hI, hw⟩
  | q + 1, k, f, S, C, V, hk, h, hI, hw => by
    obtain ⟨S1, C1, V1, x1, x2, x3, x4⟩ := mk_law (N := N) (M := M) (v3 := i32 n) (V := V) (h0 := h0) (ys := ys) (k94 := g_L_law_94 N M B SA (f + q)) h hs hN (show k < 4 by omega) hI hw
    obtain ⟨S2, C2, V2, y1, y2⟩ := secs_make hs hN hn q (k + 1) f S1 C1 V1 (by omega) x2 x3 x4
    refine ⟨S2, C2, V2, ?_, y2⟩
    rw [show f + (q + 1) = (f + q) + 1 by omega, g_L_law_94, if_neg (by rw [i32_le (by omega) (by omega)]; omega), show i32 k + (1 : Int32) = i32 (k + 1) from i32_add k 1, kI (q := 0) h (by decide) rfl (jrg_i32 (show k + 1 < 60 by omega) (by decide)), obd_some, hw.1 _ (by omega), kd_law]
    exact x1.trans y1
/-- the second part's arrays are empty -/
def AZ (m : Nat) (V V' : LV) : Prop := (∀ q j, q < 7 → V'.1 q j = V.1 q j ∧ V'.2 q j = V.2 q j) ∧ ∀ q j, 7 ≤ q → q < m → V'.1 q j = 0 ∧ V'.2 q j = 0
theorem az_step {V1 V2 : LV} (h : AZ m V V1) (hm : 7 ≤ m) (f1 : ∀ q j, q < m → V2.1 q j = V1.1 q j ∧ V2.2 q j = V1.2 q j) (f2 : ∀ j, V2.1 m j = 0 ∧ V2.2 m j = 0) : AZ (m + 1) V V2 := by
  refine ⟨fun q j hq => ⟨(f1 q j (by omega)).1.trans (h.1 q j hq).1, (f1 q j (by omega)).2.trans (h.1 q j hq).2⟩, fun q j h1 h2 => ?_⟩
  by_cases e : q = m
  · subst e; exact f2 j
  · exact ⟨(f1 q j (by omega)).1.trans (h.2 q j h1 (by omega)).1, (f1 q j (by omega)).2.trans (h.2 q j h1 (by omega)).2⟩
theorem alloc8 {v11 v12 : Int32} {v13 v15 : Int64} (h : LX G B bx la 7 S C) : ∃ la' V' C', g_L_law_463 N M B SA (la 0) bx v3 (la 1) (la 2) (la 3) (la 4) (la 5) (la 6) v11 v12 v13 v15 true (mn 7 C la h0 V) = g_L_law_517 N M B SA N (la' 0) bx v3 (la' 1) (la' 2) (la' 3) (la' 4) (la' 5) (la' 6) true v11 v12 v13 v15 (la' 7) (la' 8) (la' 9) (la' 10) (la' 11) (la' 12) (la' 13) 0 0 (la' 14) 0 (mu C' la' h0 V') ∧ LX G B bx la' 15 S C' ∧ AZ 15 V V' := by
  obtain ⟨l1, V1, C1, a1, b1, c1, d1, e1⟩ := alJ (V := V) (h0 := h0) h (by decide) rfl
  obtain ⟨l2, V2, C2, a2, b2, c2, d2, e2⟩ := alJ (V := V1) (h0 := h0) b1 (by decide) rfl
  obtain ⟨l3, V3, C3, a3, b3, c3, d3, e3⟩ := alI (V := V2) (h0 := h0) b2 (by decide) rfl
  obtain ⟨l4, V4, C4, a4, b4, c4, d4, e4⟩ := alJ (V := V3) (h0 := h0) b3 (by decide) rfl
  obtain ⟨l5, V5, C5, a5, b5, c5, d5, e5⟩ := alI (V := V4) (h0 := h0) b4 (by decide) rfl
  obtain ⟨l6, V6, C6, a6, b6, c6, d6, e6⟩ := alI (V := V5) (h0 := h0) b5 (by decide) rfl
  obtain ⟨l7, V7, C7, a7, b7, c7, d7, e7⟩ := alJ (V := V6) (h0 := h0) b6 (by decide) rfl
  obtain ⟨l8, V8, C8, a8, b8, c8, d8, e8⟩ := alI (V := V7) (h0 := h0) b7 (by decide) rfl
  have z0 : AZ 7 V V := ⟨fun _ _ _ => ⟨rfl, rfl⟩, fun q j h1 h2 => absurd h2 (by omega)⟩
  have z1 := az_step z0 (by decide) d1 e1
  have z2 := az_step z1 (by decide) d2 e2
  have z3 := az_step z2 (by decide) d3 e3
  have z4 := az_step z3 (by decide) d4 e4
  have z5 := az_step z4 (by decide) d5 e5
  have z6 := az_step z5 (by decide) d6 e6
  have z7 := az_step z6 (by decide) d7 e7
  have z8 := az_step z7 (by decide) d8 e8
  refine ⟨l8, V8, C8, ?_, b8, z8⟩
  have low : ∀ i, i < 7 → l8 i = la i := fun i hi => (c8 i (by omega)).trans ((c7 i (by omega)).trans ((c6 i (by omega)).trans ((c5 i (by omega)).trans ((c4 i (by omega)).trans ((c3 i (by omega)).trans ((c2 i (by omega)).trans (c1 i hi)))))))
  have h7 : l8 7 = l1 7 := (c8 7 (by decide)).trans ((c7 7 (by decide)).trans ((c6 7 (by decide)).trans ((c5 7 (by decide)).trans ((c4 7 (by decide)).trans ((c3 7 (by decide)).trans (c2 7 (by decide)))))))
  have h8 : l8 8 = l2 8 := (c8 8 (by decide)).trans ((c7 8 (by decide)).trans ((c6 8 (by decide)).trans ((c5 8 (by decide)).trans ((c4 8 (by decide)).trans (c3 8 (by decide))))))
  have h9 : l8 9 = l3 9 := (c8 9 (by decide)).trans ((c7 9 (by decide)).trans ((c6 9 (by decide)).trans ((c5 9 (by decide)).trans (c4 9 (by decide)))))
  have h10 : l8 10 = l4 10 := (c8 10 (by decide)).trans ((c7 10 (by decide)).trans ((c6 10 (by decide)).trans (c5 10 (by decide))))
  have h11 : l8 11 = l5 11 := (c8 11 (by decide)).trans ((c7 11 (by decide)).trans (c6 11 (by decide)))
  have h12 : l8 12 = l6 12 := (c8 12 (by decide)).trans (c7 12 (by decide))
  have h13 : l8 13 = l7 13 := c8 13 (by decide)
  have a1 : jnA .long (4 : Int32) (mn 7 C la h0 V) = _ := a1
  have a2 : jnA .long (16 : Int32) (mn 8 C1 l1 h0 V1) = _ := a2
  have a3 : jnA .int (4 : Int32) (mn 9 C2 l2 h0 V2) = _ := a3
  have a4 : jnA .long (4 : Int32) (mn 10 C3 l3 h0 V3) = _ := a4
  have a5 : jnA .int (4 : Int32) (mn 11 C4 l4 h0 V4) = _ := a5
  have a6 : jnA .int (4 : Int32) (mn 12 C5 l5 h0 V5) = _ := a6
  have a7 : jnA .long (8 : Int32) (mn 13 C6 l6 h0 V6) = _ := a7
  have a8 : jnA .int (40 : Int32) (mn 14 C7 l7 h0 V7) = _ := a8
  unfold g_L_law_463
  rw [a1, jbd2_some, a2, jbd2_some, a3, jbd2_some, a4, jbd2_some, a5, jbd2_some, a6, jbd2_some, a7, jbd2_some, a8, jbd2_some, low 0 (by decide), low 1 (by decide), low 2 (by decide), low 3 (by decide), low 4 (by decide), low 5 (by decide), low 6 (by decide), h7, h8, h9, h10, h11, h12, h13]
  rfl
/-- the chain with its two loops, kept -/
theorem made_of {S1 S2 : ST} (hI : SI ys (nN ys) S) (h1 : S1 = lpS S 0 0 (nN ys - 1) (sp0 ys) (gg0 ys)) (h2 : S2 = lpS S1 0 0 0 (sp1 ys) (gg1 ys)) (hK : KPT S2 S3 0) : FC (PP ys) S3 X00 0 ∧ S3.1 1 0 = nN ys ∧ S3.1 16 0 = 1 ∧ KF (nN ys) S3 := by
  obtain ⟨⟨a1, a2, a3, a4, a5, a6, a7⟩, b⟩ := hI
  have hn := nN_le ys
  have e20 : S1.1 20 0 = 1 := by rw [h1, lpS_20c, a5]
  have s20 : S2.1 20 0 = 2 := by rw [h2, lpS_20c, e20]
  have off : ∀ x, x ∉ [20, 21, 22, 23, 26, 71] → S2.1 x = S.1 x := fun x hx => by rw [h2, lpS_k hx, h1, lpS_k hx]
  have offJ : ∀ x, x ≠ 24 → x ≠ 25 → S2.2.1 x = S.2.1 x := fun x h h' => by rw [h2, lpS_J h h', h1, lpS_J h h']
  have offI : S2.2.2 = S.2.2 := by rw [h2, h1]; rfl
  have f1 : ∀ x, x ≠ 20 → S2.1 x 0 = S1.1 x 0 := fun x hx => by rw [h2]; exact lpS_l hx (by rw [e20]; decide)
  have i0 : S1.1 21 0 = nN ys - 1 ∧ S1.1 22 0 = 0 ∧ S1.1 23 0 = sp0 ys ∧ S1.1 26 0 = 0 := by
    refine ⟨?_, ?_, ?_, ?_⟩ <;> simp [h1, lpS, a5]
  have i1 : S2.1 21 1 = 0 ∧ S2.1 22 1 = 0 ∧ S2.1 23 1 = sp1 ys ∧ S2.1 26 1 = 0 := by
    refine ⟨?_, ?_, ?_, ?_⟩ <;> simp [h2, lpS, e20]
  have g0 : S2.2.1 24 0 = gg0 ys := by simp [h2, h1, lpS, a5]
  have g1 : S2.2.1 24 1 = gg1 ys := by simp [h2, lpS, e20]
  have r0 : ∀ j, j < 64 → S2.2.1 25 (64 * 0 + j) = 0 := fun j hj => by
    rw [h2, lpS_25 (by rw [e20]; omega)]
    have := lpS_25s (S := S) (c := 0) (f := 0) (t := nN ys - 1) (ln := sp0 ys) (v := gg0 ys) hj
    rw [a5] at this
    rw [h1]; exact this
  have r1 : ∀ j, j < 64 → S2.2.1 25 (64 * 1 + j) = 0 := fun j hj => by
    have := lpS_25s (S := S1) (c := 0) (f := 0) (t := 0) (ln := sp1 ys) (v := gg1 ys) hj
    rw [e20] at this
    rw [h2]; exact this
  obtain ⟨k1, k2, k3, ⟨k4, k5, k6, k7, k8⟩⟩ := hK
  have kn : ∀ x, x ∉ [44, 45, 72, 73, 47, 50, 51, 52, 53] → x ∉ [20, 21, 22, 23, 26, 71] → S3.1 x = S.1 x := fun x h h' => (k1 x h).trans (off x h')
  have al : tre S2 0 = (1, fun _ => 0) := tre_alone fun p hp => by
    rw [off 17 (by decide), a3] at hp
    rw [off 18 (by decide), off 10 (by decide), Nat.mul_zero, Nat.zero_add, (b p hp).1]
    exact (b p hp).2.1.2.2.2.2.1
  rw [al] at k6 k7 k8
  have s44 : S2.1 44 0 = 0 := by rw [off 44 (by decide)]; exact a7
  rw [s44] at k4 k5 k6 k7 k8
  obtain ⟨k9, kA⟩ := k8 0 (by decide)
  have hP : PC S3 0 (PP ys) := by
    unfold PC
    refine ⟨⟨?_, ?_, hn.1, ?_, ?_⟩, fun k hk => ?_, ⟨?_, ?_, ?_, ?_⟩, ⟨?_, ?_, ?_, ?_⟩⟩
    · rw [kn 16 (by decide) (by decide), a2]; decide
    · rw [kn 17 (by decide) (by decide), a3]; rfl
    · rw [k1 20 (by decide), s20]
    · rw [kn 19 (by decide) (by decide), a4]
    · obtain ⟨c1, ⟨c2, c3, c4, c5, c6, c7⟩, ⟨c8, c9, cA, cB⟩, ⟨cC, cD⟩, cE⟩ := b k hk
      rw [kn 18 (by decide) (by decide), Nat.mul_zero, Nat.zero_add, c1, kn 3 (by decide) (by decide), kn 2 (by decide) (by decide), kn 5 (by decide) (by decide), kn 6 (by decide) (by decide), kn 10 (by decide) (by decide)]
      refine ⟨c3, c2, kdN_akd _, c4, c5, ?_, ?_, ?_, c6⟩
      · unfold rln
        rw [kn 2 (by decide) (by decide), k3, offI, c2, c8]; rfl
      · rw [k2 7 (by decide), offJ 7 (by decide) (by decide)]; exact cC
      · rw [k2 7 (by decide), offJ 7 (by decide) (by decide)]; exact cD
    · rw [k1 22 (by decide), f1 22 (by decide)]; exact i0.2.1
    · rw [k1 21 (by decide), f1 21 (by decide), i0.1]
      show nN ys - 1 + 1 = nN ys
      omega
    · rw [k1 23 (by decide), f1 23 (by decide)]; exact i0.2.2.1
    · rw [k2 24 (by decide)]; exact g0
    · rw [k1 22 (by decide)]; exact i1.2.1
    · rw [k1 21 (by decide)]; exact i1.1
    · rw [k1 23 (by decide)]; exact i1.2.2.1
    · rw [k2 24 (by decide)]; exact g1
  refine ⟨⟨hP, ⟨fun k hk => ?_, ?_, ?_⟩, fun k hk => ?_, ?_, ?_⟩, ?_, ?_, ⟨⟨?_, k5, k6, ?_, ?_, ?_⟩, ?_, ?_, fun k hk => ⟨?_, ?_⟩⟩⟩
  · obtain ⟨c1, ⟨c2, c3, c4, c5, c6, c7⟩, ⟨c8, c9, cA, cB⟩, ⟨cC, cD⟩, cE⟩ := b k hk
    rw [kn 18 (by decide) (by decide), Nat.mul_zero, Nat.zero_add, c1]
    unfold vS
    rw [kn 14 (by decide) (by decide), k3, offI, k2 15 (by decide), offJ 15 (by decide) (by decide), k2 13 (by decide), offJ 13 (by decide) (by decide), c7, c9, cA, cB]
    refine Prod.ext (funext fun j => ?_) rfl
    show (if j < 64 then S.2.1 13 (64 * k + j) else 0) = 0
    by_cases hj : j < 64
    · rw [if_pos hj]; exact cE j hj
    · rw [if_neg hj]
  · unfold vL
    rw [k2 25 (by decide), k1 26 (by decide)]
    refine Prod.ext (funext fun j => ?_) ((f1 26 (by decide)).trans i0.2.2.2)
    show (if j < 64 then S2.2.1 25 (64 * 0 + j) else 0) = 0
    by_cases hj : j < 64
    · rw [if_pos hj]; exact r0 j hj
    · rw [if_neg hj]
  · unfold vL
    rw [k2 25 (by decide), k1 26 (by decide)]
    refine Prod.ext (funext fun j => ?_) i1.2.2.2
    show (if j < 64 then S2.2.1 25 (64 * 1 + j) else 0) = 0
    by_cases hj : j < 64
    · rw [if_pos hj]; exact r1 j hj
    · rw [if_neg hj]
  · rw [kn 18 (by decide) (by decide)]; exact (b k hk).1
  · rw [kn 1 (by decide) (by decide), a1]; exact Nat.le_refl _
  · rw [kn 28 (by decide) (by decide)]; exact a6
  · rw [kn 1 (by decide) (by decide)]; exact a1
  · rw [kn 16 (by decide) (by decide)]; exact a2
  · rw [k4]
  · exact k7 0 (by decide)
  · rw [off 17 (by decide), a3] at k9; exact k9
  · rw [s20] at kA; exact kA
  · rw [kn 17 (by decide) (by decide)]; exact a3
  · rw [k1 20 (by decide)]; exact s20
  · rw [kn 18 (by decide) (by decide)]; exact (b k hk).1
  · rw [kn 10 (by decide) (by decide)]; exact (b k hk).2.1.2.2.2.2.1
/-- from the sections' making on -/
theorem rest_law (h : LX G B bx la 7 S C) (hs : CS B SA h0) (hN : 1000 ≤ N) (hM : 20 ≤ M + 1) (hI : SI ys 0 S) (hw : LW ys 0 V) :
    ∃ C' V' la', g_L_law_94 N (M + 1) B SA N (la 0) bx (i32 (nN ys)) (la 1) (la 2) (la 3) (la 4) (la 5) (la 6) true (i32 0) (mn 7 C la h0 V) = some (true, (ovC C' (lmem la' V' h0 15), ck C')) ∧ BD B C' := by
  have hn := nN_le ys
  have hp0 := sp0_le ys
  have hp1 := sp1_le ys
  obtain ⟨f, hf⟩ : ∃ f, N = (f + 1) + nN ys := ⟨N - 1 - nN ys, by omega⟩
  obtain ⟨S1, C1, V1, x1, x2, x3, x4⟩ := secs_make (N := N) (M := M + 1) (SA := SA) (ys := ys) (n := nN ys) hs (by omega) hn.2 (nN ys) 0 (f + 1) S C V (by omega) h hI hw
  rw [← hf] at x1
  obtain ⟨⟨a1, a2, a3, a4, a5, a6, a7⟩, b⟩ := id x3
  have b0 := b 0 (by omega)
  have ecs : cso S1 0 = 2 := by
    show S1.1 3 (S1.1 18 (10 * 0)) = 2
    rw [Nat.mul_zero, b0.1]; exact b0.2.1.2.1
  have hrt : ∀ p, p < nN ys → rate (S1.1 2 (S1.1 18 (10 * 0 + p))) = false := fun p hp => by
    rw [Nat.mul_zero, Nat.zero_add, (b p hp).1, (b p hp).2.1.1]
    exact (akd_sp (kdN_akd _)).2
  obtain ⟨C2, y1, y2⟩ := n_loop (N := N) (V := V1) (h0 := h0) (c := 0) (f := 0) (t := nN ys - 1) (ln := sp0 ys) (v := gg0 ys) x2 hs (by omega) (by omega) a4 (by omega) (Nat.zero_le _) (by omega) hp0.1 (by omega) ecs (s16_vb _) (fun p _ hp => hrt p (by omega))
  rw [a5] at y1
  have e20 : (lpS S1 0 0 (nN ys - 1) (sp0 ys) (gg0 ys)).1 20 0 = 1 := by rw [lpS_20c, a5]
  have lk : ∀ x, x ∉ [20, 21, 22, 23, 26, 71] → (lpS S1 0 0 (nN ys - 1) (sp0 ys) (gg0 ys)).1 x = S1.1 x := fun x hx => lpS_k hx
  obtain ⟨C3, z1, z2⟩ := n_loop (N := N) (V := V1) (h0 := h0) (c := 0) (f := 0) (t := 0) (ln := sp1 ys) (v := gg1 ys) y2 hs (by omega) (by rw [lk 16 (by decide)]; omega) (by rw [lk 19 (by decide)]; exact a4) (by rw [e20]; decide) (Nat.le_refl _) (by rw [lk 17 (by decide)]; omega) hp1.1 (by omega) (by
    unfold cso
    rw [lk 3 (by decide), lk 18 (by decide)]
    exact ecs) (s16_vb _) (fun p _ hp => by
    rw [lk 2 (by decide), lk 18 (by decide)]
    exact hrt p (by omega))
  rw [e20] at z1
  have lk2 : ∀ x, x ∉ [20, 21, 22, 23, 26, 71] → (lpS (lpS S1 0 0 (nN ys - 1) (sp0 ys) (gg0 ys)) 0 0 0 (sp1 ys) (gg1 ys)).1 x = S1.1 x := fun x hx => (lpS_k hx).trans (lk x hx)
  obtain ⟨S4, C4, w1, w2, w3⟩ := n_keep (N := N) (V := V1) (h0 := h0) (c := 0) z2 hs (by omega) (by rw [lk2 16 (by decide)]; omega) (by rw [lk2 44 (by decide)]; omega)
  rw [lk2 44 (by decide), a7] at w1
  obtain ⟨m1, m2, m3, m4⟩ := made_of (ys := ys) x3 rfl rfl w3
  obtain ⟨la', V5, C5, p1, p2, p3⟩ := alloc8 (N := N) (M := M + 1) (SA := SA) (v3 := i32 (nN ys)) (V := V1) (h0 := h0) (v11 := i32 (sp0 ys)) (v12 := i32 (sp1 ys)) (v13 := gg0 ys) (v15 := gg1 ys) w2
  obtain ⟨q1, q2⟩ := p3
  obtain ⟨l1, l2⟩ := x4
  have hLC : LC (PP ys) (fun k => frN (ys (k + 1))) V5 := by
    refine ⟨⟨hn.1, hn.2, hp0.1, hp0.2, hp1.1, hp1.2⟩, fun j hj => ?_⟩
    obtain ⟨d1, d2, d3, d4, d5, d6⟩ := l2 j hj
    have fr := frN_le (ys (j + 1))
    refine ⟨⟨(q1 1 j (by decide)).1.trans d1, (q1 2 j (by decide)).1.trans d2, (q1 3 j (by decide)).1.trans d3, (q1 4 j (by decide)).1.trans d4, fun z => ?_, fun z => ?_, hwN_le _, lmN_le _, fr.1, fr.2, ?_⟩, kdN_akd _, fun z => ?_⟩
    · rw [(q1 5 j (by decide)).2, d5]
      exact (if_neg z).symm
    · rw [(q1 6 j (by decide)).2, d6]
      exact (if_pos z).symm
    · show vb 2 (aN (ys (j + 1)))
      unfold aN
      by_cases e : kdN (ys (j + 1)) = 6
      · rw [if_pos e]; exact vb_zero 2
      · rw [if_neg e]; exact s16_vb _
    · show frN (ys (j + 1)) = nrow (kdN (ys (j + 1))) (i32 (frN (ys (j + 1))))
      rcases z with z | z
      · have z : kdN (ys (j + 1)) = 6 := z
        rw [z]; exact (i32_nat (by omega)).symm
      · have z : kdN (ys (j + 1)) = 8 := z
        rw [z]; exact (i32_nat (by omega)).symm
  have hAR : AR (PP ys) X00 V5 0 := by
    refine ⟨fun j hj => ⟨⟨(q2 10 j (by decide) (by decide)).2, (q2 11 j (by decide) (by decide)).1, (q2 12 j (by decide) (by decide)).1, fun _ => (q2 7 j (by decide) (by decide)).2, fun z => ⟨(q2 9 j (by decide) (by decide)).1, ?_, fun i _ => (q2 8 _ (by decide) (by decide)).2⟩⟩, fun i => vb_zero 2⟩, rfl, ?_, fun i _ => (q2 13 _ (by decide) (by decide)).2⟩
    · have fr := frN_le (ys (j + 1))
      have := (hLC.2 j hj).2.2 z
      show 0 < (PP ys).1.2.2.2.2 j
      rw [← this]; exact fr.1
    · exact hp1.1
  obtain ⟨g, hg⟩ : ∃ g, N = g + 1 + 40 := ⟨N - 41, by omega⟩
  obtain ⟨S6, C6, V6, r1, r2, r3, r4, r5, r6, r7⟩ := runs_law (N := N) (M := M) (SA := SA) (P := PP ys) (xs := ys) (φ := fun k => frN (ys (k + 1))) (h0 := h0) hs (by omega) 40 0 g S4 C5 V5 0 0 (by decide) p2 m1 hLC hAR ⟨rfl, hp0.1, fun i _ => (q2 13 _ (by decide) (by decide)).2⟩ (fun i hi => (q1 0 i (by decide)).1.trans (l1 i hi)) (fun i hi => absurd hi (Nat.not_lt_zero _))
  rw [← hg] at r1
  obtain ⟨C7, t1, t2⟩ := last_law (N := N) (M := M) (SA := SA) (P := PP ys) (xs := ys) (φ := fun k => frN (ys (k + 1))) (V := V6) (h0 := h0) r2 hs hN hM r4.1 r4.2.2.1 (by rw [r3.1 1 (by decide)]; exact m2) (by rw [r3.1 16 (by decide)]; exact m3) (kf_dy m4 r3) r5 r6 r7
  refine ⟨C7, V6, la', ?_, t2⟩
  have s2 : (1 : Int32) + ((ys 0 >>> ((2 : Int32) &&& 31)) &&& (3 : Int32)) = i32 (sp0 ys) := by
    rw [and_3]; exact i32_add 1 _
  have s4 : (1 : Int32) + ((ys 0 >>> ((4 : Int32) &&& 31)) &&& (3 : Int32)) = i32 (sp1 ys) := by
    rw [and_3]; exact i32_add 1 _
  rw [x1, g_L_law_94, if_pos (Int32.le_refl _), kI (q := 0) (v := (0 : Int32)) (j := 0) x2 (by decide) rfl (by decide), obd_some, l1 0 (by decide), jlet_eq, obd_some, jlet_eq, obd_some, jlet_eq, obd_some, jlet_eq, s2, s4, if_pos rfl, n_job x2, jgd_true, show i32 (nN ys) - (1 : Int32) = i32 (nN ys - 1) from i32_sub (b := 1) hn.1]
  show jbd2 (g_B_loop N B bx (i32 0) (i32 0) (i32 (nN ys - 1)) (i32 (sp0 ys)) (gg0 ys) (mn 7 C1 la h0 V1)) _ = _
  rw [y1, jbd2_some, if_pos (by rfl), n_job y2, jgd_true]
  show jbd2 (g_B_loop N B bx (i32 0) (i32 0) (i32 0) (i32 (sp1 ys)) (gg1 ys) (mn 7 C2 la h0 V1)) _ = _
  rw [z1, jbd2_some, if_pos (by rfl), n_job z2, jgd_true]
  show jbd2 (g_B_keep N B bx (i32 0) (mn 7 C3 la h0 V1)) _ = _
  rw [w1, jbd2_some, if_pos (by rfl)]
  exact p1.trans (r1.trans t1)
/-- from the bench on -/
theorem bench_law (hs : CS B SA h0) (hB : 0 < B) (hN : 1000 ≤ N) (hM : 20 ≤ M + 1) (hw : ∀ j, j < 60 → V.1 0 j = ys j) :
    ∃ C' V' la', g_L_law_31 N (M + 1) B SA B (m0 B h0 V) = some (true, (ovC C' (lmem la' V' h0 15), ck C')) ∧ BD B C' := by
  have hc00 : CW B (c00 (B + 1) 60) := ⟨Nat.le_succ _, fun a ha => absurd rfl ha, fun a _ k j => ⟨rfl, rfl, rfl, rfl⟩⟩
  have hw1 : CW B (ix1 (B + 1) 60) := cw_fr hc00
  have h1 := lx_00 (G := fun _ _ _ _ _ _ => True) (B := B) hB
  have hcs : CS B SA (lmem (fun _ => B) V h0 1) := lx_CS (V := V) h1 hs
  have g1 := t_B_init hcs (B + 1) (ix1 (B + 1) 60) (ix19 (B + 1) 60) hw1 bini_of
  obtain ⟨l1, V1, C1, a1, b1, c1, d1, e1⟩ := alI (V := V) (h0 := h0) h1 (by decide) rfl
  obtain ⟨l2, V2, C2, a2, b2, c2, d2, e2⟩ := alI (V := V1) (h0 := h0) b1 (by decide) rfl
  obtain ⟨l3, V3, C3, a3, b3, c3, d3, e3⟩ := alI (V := V2) (h0 := h0) b2 (by decide) rfl
  obtain ⟨l4, V4, C4, a4, b4, c4, d4, e4⟩ := alI (V := V3) (h0 := h0) b3 (by decide) rfl
  obtain ⟨l5, V5, C5, a5, b5, c5, d5, e5⟩ := alJ (V := V4) (h0 := h0) b4 (by decide) rfl
  obtain ⟨l6, V6, C6, a6, b6, c6, d6, e6⟩ := alJ (V := V5) (h0 := h0) b5 (by decide) rfl
  obtain ⟨C7, x1, x2⟩ := n_chain (V := V6) (h0 := h0) b6 hs (by decide)
  have x1 : g_B_chain B (B + 1) (mn 7 C6 l6 h0 V6) = some (0, mn 7 C7 l6 h0 V6) := x1
  have ev : ∀ j, j < 60 → V6.1 0 j = ys j := fun j hj => ((d6 0 j (by decide)).1.trans ((d5 0 j (by decide)).1.trans ((d4 0 j (by decide)).1.trans ((d3 0 j (by decide)).1.trans ((d2 0 j (by decide)).1.trans (d1 0 j (by decide)).1))))).trans (hw j hj)
  have hI : SI ys 0 (chS S00) := ⟨⟨rfl, rfl, rfl, rfl, rfl, rfl, rfl⟩, fun j hj => absurd hj (Nat.not_lt_zero _)⟩
  obtain ⟨C', V', la', y1, y2⟩ := rest_law (N := N) (M := M) (SA := SA) (ys := ys) (V := V6) (h0 := h0) x2 hs hN hM hI ⟨ev, fun j hj => absurd hj (Nat.not_lt_zero _)⟩
  refine ⟨C', V', la', ?_, y2⟩
  have h0' : l6 0 = B := (c6 0 (by decide)).trans ((c5 0 (by decide)).trans ((c4 0 (by decide)).trans ((c3 0 (by decide)).trans ((c2 0 (by decide)).trans (c1 0 (by decide))))))
  have h1' : l6 1 = l1 1 := (c6 1 (by decide)).trans ((c5 1 (by decide)).trans ((c4 1 (by decide)).trans ((c3 1 (by decide)).trans (c2 1 (by decide)))))
  have h2' : l6 2 = l2 2 := (c6 2 (by decide)).trans ((c5 2 (by decide)).trans ((c4 2 (by decide)).trans (c3 2 (by decide))))
  have h3' : l6 3 = l3 3 := (c6 3 (by decide)).trans ((c5 3 (by decide)).trans (c4 3 (by decide)))
  have h4' : l6 4 = l4 4 := (c6 4 (by decide)).trans (c5 4 (by decide))
  have h5' : l6 5 = l5 5 := c6 5 (by decide)
  have a1 : jnA .int (4 : Int32) (mn 1 (ix19 (B + 1) 60) (fun _ => B) h0 V) = _ := a1
  have a2 : jnA .int (4 : Int32) (mn 2 C1 l1 h0 V1) = _ := a2
  have a3 : jnA .int (4 : Int32) (mn 3 C2 l2 h0 V2) = _ := a3
  have a4 : jnA .int (4 : Int32) (mn 4 C3 l3 h0 V3) = _ := a4
  have a5 : jnA .long (4 : Int32) (mn 5 C4 l4 h0 V4) = _ := a5
  have a6 : jnA .long (4 : Int32) (mn 6 C5 l5 h0 V5) = _ := a6
  have rd : jaI (mn 1 (ix19 (B + 1) 60) (fun _ => B) h0 V).1 B (0 : Int32) = some (ys 0) := by
    have := lx_rdI (V := V) (h0 := h0) (q := 0) (v := (0 : Int32)) (j := 0) h1 (by decide) rfl (by decide)
    rw [hw 0 (by decide)] at this
    exact this
  unfold g_L_law_31
  refine (jnew_go (Q := True) (C := c00 (B + 1) 60) (ci := 0) (h0 := lmem (fun _ => B) V h0 1) hc00 (by decide) ⟨?_, trivial⟩).1
  show (obd (g_B_init B (B + 1) (ovC (ix1 (B + 1) 60) (lmem (fun _ => B) V h0 1), ck (ix1 (B + 1) 60))) _) = _
  rw [g1.1, obd_some]
  show obd (jaI (mn 1 (ix19 (B + 1) 60) (fun _ => B) h0 V).1 B (0 : Int32)) _ = _
  rw [rd, obd_some, jlet_eq]
  show jbd2 (jnA .int (4 : Int32) (mn 1 (ix19 (B + 1) 60) (fun _ => B) h0 V)) _ = _
  rw [a1, jbd2_some, a2, jbd2_some, a3, jbd2_some, a4, jbd2_some, a5, jbd2_some, a6, jbd2_some]
  show jgd (jobC 0 ((mn 7 C6 l6 h0 V6).1 (B + 1))) (jbd2 (g_B_chain B (B + 1) (mn 7 C6 l6 h0 V6)) _) = _
  rw [n_job b6, jgd_true, x1, jbd2_some, if_pos rfl, and_3, show (1 : Int32) + i32 (bN 2 (ys 0)) = i32 (nN ys) from i32_add 1 _]
  show g_L_law_94 N (M + 1) B SA N B (B + 1) (i32 (nN ys)) (l1 1) (l2 2) (l3 3) (l4 4) (l5 5) (l6 6) true (i32 0) (mn 7 C7 l6 h0 V6) = _
  rw [h0', h1', h2', h3', h4', h5'] at y1
  exact y1
/-- the whole law -/
theorem law_true (hs : CS B SA h0) (hB : 0 < B) (hL : L ≤ 260) (hscr : scr < B) (hX : ∃ f, h0 scr = some (.inr (.int, L, f)) ∧ ∀ j, j < L → f j = .int (xs j)) :
    ∃ μ9, g_L_law 1000 (19 + 1) B SA (some scr) (h0, (B, 0)) = some (true, μ9) ∧ μ9.2.1 ≤ B + 6000 ∧ μ9.2.2 ≤ 1600000 := by
  obtain ⟨f, hf⟩ : ∃ f, 1000 = f + 1 + min 60 L := ⟨1000 - 1 - min 60 L, by omega⟩
  have z0 : ∃ V0 : LV, V0 = (fun _ _ => 0, fun _ _ => 0) := ⟨_, rfl⟩
  obtain ⟨V0, hV0⟩ := z0
  obtain ⟨V1, x1, x2⟩ := copy_law (N := 1000) (M := 19 + 1) (SA := SA) (xs := xs) (h0 := h0) hscr hX (by omega) (min 60 L) 0 f (vz V0 0) (by omega)
  rw [← hf] at x1
  obtain ⟨C', V', la', y1, y2⟩ := bench_law (N := 1000) (M := 19) (SA := SA) (V := V1) (ys := ysN L xs) (h0 := h0) hs hB (by decide) (by decide) (fun j hj => by
    rw [x2]
    unfold ysN
    by_cases e : j < L
    · rw [if_pos (by omega), if_pos ⟨e, hj⟩]
    · rw [if_neg (by omega), if_neg (fun z => e z.1)]
      show (if (0 : Nat) = 0 then (0 : Int32) else V0.1 0 j) = 0
      rw [if_pos rfl])
  refine ⟨(ovC C' (lmem la' V' h0 15), ck C'), ?_, y2.1, y2.2⟩
  have hc00 : CW B (c00 B 0) := ⟨Nat.le_refl _, fun a ha => absurd rfl ha, fun a _ k j => ⟨rfl, rfl, rfl, rfl⟩⟩
  have ea := l_new (la := fun _ => B) (V := V0) (h0 := h0) (n := 0) (C := c00 B 0) (B := B) (ty := .int) hc00 (fun i hi => absurd hi (Nat.not_lt_zero _)) rfl (by decide)
  have ea : jnA .int (60 : Int32) (ovC (c00 B 0) (lmem (fun _ => B) V0 h0 0), ck (c00 B 0)) = _ := ea
  have hov : ovC (c00 B 0) (lmem (fun _ => B) V0 h0 0) = h0 := funext fun a => if_pos rfl
  have el : lmem (up1 (fun _ => B) 0 (ck (c00 B 0)).1) (vz V0 0) h0 (0 + 1) = lmem (fun _ => B) (vz V0 0) h0 1 := lm_cong (fun i hi => by
    have : i = 0 := by omega
    subst this; rfl) (fun _ _ => rfl)
  unfold g_L_law
  rw [show ((h0, (B, 0)) : JMem) = (ovC (c00 B 0) (lmem (fun _ => B) V0 h0 0), ck (c00 B 0)) from by rw [hov]; rfl, ea, jbd2_some, el]
  show g_L_law_7 1000 (19 + 1) B SA 1000 (some scr) B (i32 0) (m0 B h0 (vz V0 0)) = _
  rw [x1]
  exact y1
end WHOLE
