/-! same: the call -/
section SIMSAME
variable {G : GT} {E B bx m k c so : Nat} {ad : Nat → Nat} {S : ST} {A : AT} {C C' : CT} {T : MT}
theorem in_ringy : ∀ kd, kd < 16 → g_R_in (i32 kd) 6 8 = ringy kd := by decide
theorem flat_le {kd : Nat} {ln : Int32} (h : ringy kd = false) : nrow kd ln ≤ 4 := by
  unfold nrow
  split <;> first
    | decide
    | exact absurd h (by decide)
theorem vso_lt (J : JJ G E B bx m ad S A C T) {s : Nat} (hs : s < S.1 1 0) : vso S s < 3 := by
  unfold vso
  have := so_lt J hs
  split <;> omega
theorem al207r_go {N s : Nat} {k118 : Int32 → Int32 → Int32 → MT → Option Bool} {v1 v2 v3 : Int32} (J : JJ G E B bx m ad S A C T) (hs : s < S.1 1 0) (hk : k < 8) (hw : KWs S k s) (hr : ringy (S.1 2 s) = true) : ∀ (q g j : Nat), j + q = rln S s → q < g →
    ∃ u : Bool, h_R_alike_207 N k118 g v1 v2 v3 (i32 s) (i32 (60 * k + s)) true (i32 (rln S s)) (i32 j) T = (if u = true then k118 v1 v2 (v3 + 1) T else some false) ∧ (u = true ↔ ∀ y, j ≤ y → y < rln S s → S.2.1 46 (64 * (60 * k + s) + (S.1 47 (60 * k + s) + y) % rln S s) = S.2.1 13 (64 * s + (S.1 14 s + y) % rln S s))
  | 0, 0, _, _, h => absurd h (by omega)
  | 0, g + 1, j, hj, _ => by
    have hle := rln_le J hs
    refine ⟨true, ?_, fun _ y h1 h2 => absurd h2 (by omega), fun _ => rfl⟩
    unfold h_R_alike_207
    rw [if_pos (by rw [i32_le (by omega) (by omega)]; omega), if_pos rfl]
  | q + 1, 0, _, _, h => absurd h (by omega)
  | q + 1, g + 1, j, hj, hq => by
    have hle := rln_le J hs
    have hR := jj_rt J
    have hs60 : s < 60 := by have := (jj_n J).1; omega
    have h3 := vso_lt J hs
    obtain ⟨r1, r2, r3, r4, r5, r6⟩ := ring_r J hs hr
    have m1 := Nat.mod_lt (S.1 14 s + j) (show 0 < rln S s by omega)
    have m2 := Nat.mod_lt (S.1 47 (60 * k + s) + j) (show 0 < rln S s by omega)
    have h47 : S.1 47 (60 * k + s) < 64 := by rcases hw.2.1 with h | h <;> omega
    obtain ⟨u, g3, g4⟩ := al207r_go (N := N) (k118 := k118) (v1 := v1) (v2 := v2) (v3 := v3) J hs hk hw hr q g (j + 1) (by omega) (by omega)
    have x1 : vb (vso S s) (S.2.1 13 (64 * s + (S.1 14 s + j) % rln S s)) := (jj_ws J hs).2.2.2.2.2.2.2.2.2.1 _ (by omega)
    have x2 := hw.2.2.2.1 _ (show (S.1 47 (60 * k + s) + j) % rln S s < 64 by omega)
    have d2 : T.2.2.1 46 (64 * (60 * k + s) + (S.1 47 (60 * k + s) + j) % rln S s) = dv (vso S s) (S.2.1 46 (64 * (60 * k + s) + (S.1 47 (60 * k + s) + j) % rln S s)) := by
      rw [hR.2.2.2.2.2.2.2.2.2.2.1]
      congr 2
      omega
    have pre : h_R_alike_207 N k118 (g + 1) v1 v2 v3 (i32 s) (i32 (60 * k + s)) true (i32 (rln S s)) (i32 j) T = if (dv (vso S s) (S.2.1 13 (64 * s + (S.1 14 s + j) % rln S s))).toInt64 = (dv (vso S s) (S.2.1 46 (64 * (60 * k + s) + (S.1 47 (60 * k + s) + j) % rln S s))).toInt64 then h_R_alike_207 N k118 g v1 v2 v3 (i32 s) (i32 (60 * k + s)) true (i32 (rln S s)) (i32 (j + 1)) T else some false := by
      show (if i32 (rln S s) ≤ i32 j then _ else _) = _
      rw [if_neg (by rw [i32_le (by omega) (by omega)]; omega), if_pos rfl, jrg_i32 hs60 (by decide), obd_some, hR.1 14 (by decide), i32_add, jrem_i32 (by omega) (by omega) (by omega), obd_some]
      unfold h_R_alike_240
      rw [st_dv J hs (by omega), obd_some, if_pos rfl, jrg_i32 (show 60 * k + s < 480 by omega) (by decide), obd_some, hR.1 47 (by decide), i32_add, jrem_i32 (by omega) (by omega) (by omega), obd_some]
      unfold h_R_alike_277
      rw [show (64 : Int32) * i32 (60 * k + s) + i32 ((S.1 47 (60 * k + s) + j) % rln S s) = i32 (64 * (60 * k + s) + (S.1 47 (60 * k + s) + j) % rln S s) from by rw [show (64 : Int32) = i32 64 from rfl, i32_mul, i32_add], jrg_i32 (show 64 * (60 * k + s) + (S.1 47 (60 * k + s) + j) % rln S s < 30720 by omega) (by decide), obd_some, bits0 h3 x1, obd_some, d2, bits0 h3 x2, obd_some, show i32 j + 1 = i32 (j + 1) from i32_add j 1]
    rw [pre]
    by_cases hh : S.2.1 13 (64 * s + (S.1 14 s + j) % rln S s) = S.2.1 46 (64 * (60 * k + s) + (S.1 47 (60 * k + s) + j) % rln S s)
    · rw [if_pos ((dvb_iff h3 x1 x2).mpr hh), g3]
      refine ⟨u, rfl, ?_⟩
      rw [g4]
      exact ⟨fun z y h1 h2 => by
        by_cases e : y = j
        · subst e; exact hh.symm
        · exact z y (by omega) h2, fun z y h1 h2 => z y (by omega) h2⟩
    · rw [if_neg (fun z => hh ((dvb_iff h3 x1 x2).mp z))]
      exact ⟨false, rfl, fun z => (by cases z), fun z => absurd (z j (Nat.le_refl _) (by omega)).symm hh⟩
theorem al207f_go {N s : Nat} {k118 : Int32 → Int32 → Int32 → MT → Option Bool} {v1 v2 v3 : Int32} (J : JJ G E B bx m ad S A C T) (hs : s < S.1 1 0) (hk : k < 8) (hw : KWs S k s) : ∀ (q g j : Nat), j + q = 4 → q < g →
    ∃ u : Bool, h_R_alike_207 N k118 g v1 v2 v3 (i32 s) (i32 (60 * k + s)) false (4 : Int32) (i32 j) T = (if u = true then k118 v1 v2 (v3 + 1) T else some false) ∧ (u = true ↔ ∀ y, j ≤ y → y < 4 → S.2.1 46 (64 * (60 * k + s) + y) = S.2.1 13 (64 * s + y))
  | 0, 0, _, _, h => absurd h (by omega)
  | 0, g + 1, j, hj, _ => by
    refine ⟨true, ?_, fun _ y h1 h2 => absurd h2 (by omega), fun _ => rfl⟩
    unfold h_R_alike_207
    rw [if_pos (by show i32 4 ≤ i32 j; rw [i32_le (by omega) (by omega)]; omega), if_pos rfl]
  | q + 1, 0, _, _, h => absurd h (by omega)
  | q + 1, g + 1, j, hj, hq => by
    have hR := jj_rt J
    have hs60 : s < 60 := by have := (jj_n J).1; omega
    have h3 := vso_lt J hs
    obtain ⟨u, g3, g4⟩ := al207f_go (N := N) (k118 := k118) (v1 := v1) (v2 := v2) (v3 := v3) J hs hk hw q g (j + 1) (by omega) (by omega)
    have x1 : vb (vso S s) (S.2.1 13 (64 * s + j)) := (jj_ws J hs).2.2.2.2.2.2.2.2.2.1 _ (by omega)
    have x2 := hw.2.2.2.1 j (by omega)
    have d2 : T.2.2.1 46 (64 * (60 * k + s) + j) = dv (vso S s) (S.2.1 46 (64 * (60 * k + s) + j)) := by
      rw [hR.2.2.2.2.2.2.2.2.2.2.1]
      congr 2
      omega
    have pre : h_R_alike_207 N k118 (g + 1) v1 v2 v3 (i32 s) (i32 (60 * k + s)) false (4 : Int32) (i32 j) T = if (dv (vso S s) (S.2.1 13 (64 * s + j))).toInt64 = (dv (vso S s) (S.2.1 46 (64 * (60 * k + s) + j))).toInt64 then h_R_alike_207 N k118 g v1 v2 v3 (i32 s) (i32 (60 * k + s)) false (4 : Int32) (i32 (j + 1)) T else some false := by
      show (if (4 : Int32) ≤ i32 j then _ else _) = _
      rw [if_neg (by show ¬ i32 4 ≤ i32 j; rw [i32_le (by omega) (by omega)]; omega), if_neg (by decide)]
      unfold h_R_alike_240
      rw [st_dv J hs (by omega), obd_some, if_neg (by decide)]
      unfold h_R_alike_277
      rw [show (64 : Int32) * i32 (60 * k + s) + i32 j = i32 (64 * (60 * k + s) + j) from by rw [show (64 : Int32) = i32 64 from rfl, i32_mul, i32_add], jrg_i32 (show 64 * (60 * k + s) + j < 30720 by omega) (by decide), obd_some, bits0 h3 x1, obd_some, d2, bits0 h3 x2, obd_some, show i32 j + 1 = i32 (j + 1) from i32_add j 1]
    rw [pre]
    by_cases hh : S.2.1 13 (64 * s + j) = S.2.1 46 (64 * (60 * k + s) + j)
    · rw [if_pos ((dvb_iff h3 x1 x2).mpr hh), g3]
      refine ⟨u, rfl, ?_⟩
      rw [g4]
      exact ⟨fun z y h1 h2 => by
        by_cases e : y = j
        · subst e; exact hh.symm
        · exact z y (by omega) h2, fun z y h1 h2 => z y (by omega) h2⟩
    · rw [if_neg (fun z => hh ((dvb_iff h3 x1 x2).mp z))]
      exact ⟨false, rfl, fun z => (by cases z), fun z => absurd (z j (Nat.le_refl _) (by omega)).symm hh⟩
theorem al202_of {N s : Nat} {k118 : Int32 → Int32 → Int32 → MT → Option Bool} {v1 v2 v3 : Int32} (hN : 100 ≤ N) (J : JJ G E B bx m ad S A C T) (hs : s < S.1 1 0) (hk : k < 8) (hw : KWs S k s) :
    ∃ u : Bool, (obd (jrg 60 (i32 s)) fun n6 => jlet (g_R_in (T.1 2 n6) (6 : Int32) (8 : Int32)) fun (v6 : Bool) => if v6 = true then (obd (jrg 60 (i32 s)) fun n8 => h_R_alike_202 N k118 v1 v2 v3 (i32 s) (i32 (60 * k + s)) v6 (T.1 4 n8) T) else h_R_alike_202 N k118 v1 v2 v3 (i32 s) (i32 (60 * k + s)) v6 (4 : Int32) T) = (if u = true then k118 v1 v2 (v3 + 1) T else some false) ∧
      (u = true ↔ ∀ y, y < rln S s → S.2.1 46 (64 * (60 * k + s) + (S.1 47 (60 * k + s) + y) % rln S s) = S.2.1 13 (64 * s + (S.1 14 s + y) % rln S s)) := by
  have hR := jj_rt J
  have hs60 : s < 60 := by have := (jj_n J).1; omega
  have ws := jj_ws J hs
  rw [jrg_i32 hs60 (by decide), obd_some, jlet_eq, hR.1 2 (by decide), in_ringy _ ws.1.1]
  cases hr : ringy (S.1 2 s) with
  | true =>
    obtain ⟨r1, r2, r3, r4, r5, r6⟩ := ring_r J hs hr
    obtain ⟨u, u1, u2⟩ := al207r_go (N := N) (k118 := k118) (v1 := v1) (v2 := v2) (v3 := v3) J hs hk hw hr (rln S s) N 0 (by omega) (by omega)
    refine ⟨u, ?_, ?_⟩
    · rw [if_pos rfl, obd_some, hR.2.2.2.1 4 (by decide), r3]
      exact u1
    · rw [u2]
      exact ⟨fun z y hy => z y (Nat.zero_le _) hy, fun z y _ hy => z y hy⟩
  | false =>
    obtain ⟨u, u1, u2⟩ := al207f_go (N := N) (k118 := k118) (v1 := v1) (v2 := v2) (v3 := v3) J hs hk hw 4 N 0 (by omega) (by omega)
    have h14 := (ws.2.2.2.2.2.2.2.1 hr).1
    have h47 := hw.2.2.1 hr
    have h4 : rln S s ≤ 4 := flat_le hr
    refine ⟨u, ?_, ?_⟩
    · rw [if_neg (by decide)]
      exact u1
    · rw [u2, h14, h47]
      constructor
      · intro z y hy
        rw [Nat.zero_add, Nat.mod_eq_of_lt hy]
        exact z y (Nat.zero_le _) (by omega)
      · intro z y _ hy
        by_cases h : y < rln S s
        · have := z y h
          rw [Nat.zero_add, Nat.mod_eq_of_lt h] at this
          exact this
        · rw [hw.2.2.2.2.1 y (by omega) (by omega), ws.2.2.2.2.2.2.2.2.2.2.1 y (by omega) (by omega)]
theorem al118_go {N d : Nat} (hN : 100 ≤ N) (J : JJ G E B bx m ad S A C T) (hd : d < S.1 16 0) (hk : k < 8) (hw : ∀ p, p < S.1 17 d → KWs S k (S.1 18 (10 * d + p))) : ∀ (q g p : Nat), p + q = S.1 17 d → q < g →
    ∃ r, h_R_alike_118 N g (i32 k) (i32 d) (i32 p) T = some r ∧ (r = true ↔ ∀ x, p ≤ x → x < S.1 17 d → SVs S k (S.1 18 (10 * d + x)))
  | 0, 0, _, _, h => absurd h (by omega)
  | 0, g + 1, p, hp, _ => by
    have h10 := (jj_wc J hd).1.1
    have h20 := (jj_n J).2.1
    refine ⟨true, ?_, fun _ x h1 h2 => absurd h2 (by omega), fun _ => rfl⟩
    unfold h_R_alike_118
    rw [jrg_i32 (by omega) (by decide), obd_some, jj_N J 17 (by decide), if_pos (by rw [i32_le (by omega) (by omega)]; omega)]
  | q + 1, 0, _, _, h => absurd h (by omega)
  | q + 1, g + 1, p, hp, hq => by
    have h10 := (jj_wc J hd).1.1
    have h20 := (jj_n J).2.1
    have h60 := (jj_n J).1
    have hR := jj_rt J
    have hs := places_lt J hd (p := p) (by omega)
    obtain ⟨r', r3, r4⟩ := al118_go hN J hd hk hw q g (p + 1) (by omega) (by omega)
    obtain ⟨u, u1, u2⟩ := al202_of (N := N) (k118 := h_R_alike_118 N g) (v1 := i32 k) (v2 := i32 d) (v3 := i32 p) hN J hs hk (hw p (by omega))
    have pre : h_R_alike_118 N (g + 1) (i32 k) (i32 d) (i32 p) T = if S.2.1 15 (S.1 18 (10 * d + p)) = S.2.1 48 (60 * k + S.1 18 (10 * d + p)) then (if u = true then some r' else some false) else some false := by
      rw [← r3, show i32 (p + 1) = i32 p + 1 from (i32_add p 1).symm, ← u1]
      show (obd (jrg 20 (i32 d)) fun n1 => _) = _
      rw [jrg_i32 (by omega) (by decide), obd_some, jj_N J 17 (by decide), if_neg (by rw [i32_le (by omega) (by omega)]; omega), show (10 : Int32) * i32 d + i32 p = i32 (10 * d + p) from by rw [show (10 : Int32) = i32 10 from rfl, i32_mul, i32_add], jrg_i32 (show 10 * d + p < 200 by omega) (by decide), obd_some, jlet_eq, jj_N J 18 (by decide),
        show (60 : Int32) * i32 k + i32 (S.1 18 (10 * d + p)) = i32 (60 * k + S.1 18 (10 * d + p)) from by rw [show (60 : Int32) = i32 60 from rfl, i32_mul, i32_add], jrg_i32 (show S.1 18 (10 * d + p) < 60 by omega) (by decide), obd_some, jrg_i32 (show 60 * k + S.1 18 (10 * d + p) < 480 by omega) (by decide), obd_some, hR.2.2.2.2.1 15 (by decide), hR.2.2.2.2.1 48 (by decide), ← jrg_i32 (show S.1 18 (10 * d + p) < 60 by omega) (show 60 < 2 ^ 31 by decide)]
    rw [pre]
    by_cases h : S.2.1 15 (S.1 18 (10 * d + p)) = S.2.1 48 (60 * k + S.1 18 (10 * d + p))
    · rw [if_pos h]
      cases u with
      | true =>
        refine ⟨r', rfl, ?_⟩
        rw [r4]
        have z0 : SVs S k (S.1 18 (10 * d + p)) := ⟨h.symm, u2.mp rfl⟩
        exact ⟨fun z x h1 h2 => by
          by_cases e : x = p
          · subst e; exact z0
          · exact z x (by omega) h2, fun z x h1 h2 => z x (by omega) h2⟩
      | false => exact ⟨false, rfl, fun z => (by cases z), fun z => u2.mpr (z p (Nat.le_refl _) (by omega)).2⟩
    · rw [if_neg h]
      exact ⟨false, rfl, fun z => (by cases z), fun z => absurd (z p (Nat.le_refl _) (by omega)).1.symm h⟩
theorem al4_go {N d : Nat} (hN : 100 ≤ N) (J : JJ G E B bx m ad S A C T) (hd : d < S.1 16 0) (hk : k < 8) (hw : ∀ p, p < S.1 17 d → KWs S k (S.1 18 (10 * d + p))) (hwl : ∀ q, q < S.1 20 d → KWl S k d (3 * d + q)) : ∀ (q g i : Nat), i + q = S.1 20 d → q < g →
    ∃ r, h_R_alike_4 N g (i32 k) (i32 d) (i32 (3 * d + i)) T = some r ∧ (r = true ↔ (∀ x, x < S.1 17 d → SVs S k (S.1 18 (10 * d + x))) ∧ ∀ x, i ≤ x → x < S.1 20 d → SVl S k (3 * d + x))
  | 0, 0, _, _, h => absurd h (by omega)
  | 0, g + 1, i, hi, _ => by
    have h10 := (jj_wc J hd).1
    have h20 := (jj_n J).2.1
    obtain ⟨r, r1, r2⟩ := al118_go hN J hd hk hw (S.1 17 d) N 0 (by omega) (by omega)
    refine ⟨r, ?_, ?_⟩
    · unfold h_R_alike_4
      rw [jrg_i32 (by omega) (by decide), obd_some, jj_N J 20 (by decide), show (3 : Int32) * i32 d + i32 (S.1 20 d) = i32 (3 * d + S.1 20 d) from by rw [show (3 : Int32) = i32 3 from rfl, i32_mul, i32_add], if_pos (by rw [i32_le (by omega) (by omega)]; omega)]
      exact r1
    · rw [r2]
      exact ⟨fun z => ⟨fun x hx => z x (Nat.zero_le _) hx, fun x h1 h2 => absurd h2 (by omega)⟩, fun z x _ hx => z.1 x hx⟩
  | q + 1, 0, _, _, h => absurd h (by omega)
  | q + 1, g + 1, i, hi, hq => by
    have wc := jj_wc J hd
    have h20 := (jj_n J).2.1
    have w := wc.2.2.2.2.1 i (by omega)
    have h17 : S.1 17 d ≠ 0 := fun z => by
      have := (wc.2.2.2.1 z).1
      omega
    have h3 : cso S d < 3 := mem0_so J hd h17
    have hl20 := wc.1.2.1
    obtain ⟨u, u1, u2⟩ := al37_go (N := N) (k4 := h_R_alike_4 N g) (v1 := i32 k) (v2 := i32 d) (l := 3 * d + i) (d := d) (jj_rt J) (by omega) hk h3 (by omega) w.2.2.1 w.2.2.2.1 w.2.2.2.2.1 (hwl i (by omega)) w.2.2.2.2.2.2.1 (S.1 23 (3 * d + i)) N 0 (by omega) (by have := w.2.2.2.1; omega)
    obtain ⟨r', r3, r4⟩ := al4_go hN J hd hk hw hwl q g (i + 1) (by omega) (by omega)
    have pre : h_R_alike_4 N (g + 1) (i32 k) (i32 d) (i32 (3 * d + i)) T = if u = true then some r' else some false := by
      rw [← r3, show 3 * d + (i + 1) = 3 * d + i + 1 from rfl, ← u1]
      show (obd (jrg 20 (i32 d)) fun n1 => _) = _
      rw [jrg_i32 (by omega) (by decide), obd_some, jj_N J 20 (by decide), show (3 : Int32) * i32 d + i32 (S.1 20 d) = i32 (3 * d + S.1 20 d) from by rw [show (3 : Int32) = i32 3 from rfl, i32_mul, i32_add], if_neg (by rw [i32_le (by omega) (by omega)]; omega), jrg_i32 (by omega) (by decide), obd_some, jj_N J 23 (by decide),
        show (60 : Int32) * i32 k + i32 (3 * d + i) = i32 (60 * k + (3 * d + i)) from by rw [show (60 : Int32) = i32 60 from rfl, i32_mul, i32_add]]
      rfl
    rw [pre]
    cases u with
    | true =>
      refine ⟨r', rfl, ?_⟩
      rw [r4]
      have z0 : SVl S k (3 * d + i) := fun y hy => u2.mp rfl y (Nat.zero_le _) hy
      exact ⟨fun z => ⟨z.1, fun x h1 h2 => by
        by_cases e : x = i
        · subst e; exact z0
        · exact z.2 x (by omega) h2⟩, fun z => ⟨z.1, fun x h1 h2 => z.2 x (by omega) h2⟩⟩
    | false => exact ⟨false, rfl, fun z => (by cases z), fun z => u2.mpr (fun y _ hy => z.2 i (Nat.le_refl _) (by omega) y hy)⟩
theorem alike_ch {N d : Nat} (hN : 100 ≤ N) (J : JJ G E B bx m ad S A C T) (hd : d < S.1 16 0) (hk : k < 8) (hw : ∀ p, p < S.1 17 d → KWs S k (S.1 18 (10 * d + p))) (hwl : ∀ q, q < S.1 20 d → KWl S k d (3 * d + q)) : ∃ r, h_R_alike N (i32 k) (i32 d) T = some r ∧ (r = true ↔ SVc S k d) := by
  have wc := (jj_wc J hd).1
  obtain ⟨r, r1, r2⟩ := al4_go hN J hd hk hw hwl (S.1 20 d) N 0 (by omega) (by omega)
  refine ⟨r, ?_, ?_⟩
  · unfold h_R_alike
    rw [show (3 : Int32) * i32 d = i32 (3 * d) from by rw [show (3 : Int32) = i32 3 from rfl, i32_mul]]
    exact r1
  · rw [r2]
    exact ⟨fun z => ⟨z.1, fun q hq => z.2 q (Nat.zero_le _) hq⟩, fun z => ⟨z.1, fun q _ hq => z.2 q hq⟩⟩
theorem same12_go {N : Nat} (hN : 100 ≤ N) (J : JJ G E B bx m ad S A C T) {t : TR} (hM : TM T t) (hts : TS S t) (ht : ∀ a, a < t.1 → t.2 a < S.1 16 0) (hk : k < 8) (hw : ∀ i, i < t.1 → (∀ p, p < S.1 17 (t.2 i) → KWs S k (S.1 18 (10 * t.2 i + p))) ∧ ∀ q, q < S.1 20 (t.2 i) → KWl S k (t.2 i) (3 * t.2 i + q)) : ∀ (q g i : Nat), i + q = t.1 → q < g →
    ∃ r, h_R_same_12 N g (i32 k) (i32 i) T = some (r, T) ∧ (r = true ↔ ∀ x, i ≤ x → x < t.1 → SVc S k (t.2 x))
  | 0, 0, _, _, h => absurd h (by omega)
  | 0, g + 1, i, hi, _ => by
    have := hts.1
    refine ⟨true, ?_, fun _ x h1 h2 => absurd h2 (by omega), fun _ => rfl⟩
    unfold h_R_same_12
    rw [hM.1, if_pos (by rw [i32_le (by omega) (by omega)]; omega)]
  | q + 1, 0, _, _, h => absurd h (by omega)
  | q + 1, g + 1, i, hi, hq => by
    have := hts.1
    have hwi := hw i (by omega)
    obtain ⟨r, r1, r2⟩ := alike_ch hN J (ht i (by omega)) hk hwi.1 hwi.2
    obtain ⟨r', r3, r4⟩ := same12_go hN J hM hts ht hk hw q g (i + 1) (by omega) (by omega)
    have pre : h_R_same_12 N (g + 1) (i32 k) (i32 i) T = if r = true then some (r', T) else some (false, T) := by
      rw [← r3, show i32 (i + 1) = i32 i + 1 from (i32_add i 1).symm]
      show (if T.1 42 0 ≤ i32 i then _ else _) = _
      rw [hM.1, if_neg (by rw [i32_le (by omega) (by omega)]; omega), jrg_i32 (by omega) (by decide), obd_some, hM.2 i (by omega), r1, obd_some]
    rw [pre]
    cases r with
    | true =>
      refine ⟨r', rfl, ?_⟩
      rw [r4]
      have z := r2.mp rfl
      exact ⟨fun h x h1 h2 => by
        by_cases e : x = i
        · subst e; exact z
        · exact h x (by omega) h2, fun h x h1 h2 => h x (by omega) h2⟩
    | false => exact ⟨false, rfl, fun z => (by cases z), fun z => r2.mpr (z i (Nat.le_refl _) (by omega))⟩
theorem sim_same {N M : Nat} (hN : 100 ≤ N) : ls_17 N M bx (II G E B bx m ad) (II G E B bx m ad) := by
  rintro C T v ⟨S, A, J⟩
  have hb := jj_b J
  have ho : cob C bx 0 = true := cob_of (rb_tag hb)
  rcases kept_of J v with ⟨k, hk, rfl, e1, e2⟩ | ⟨e1, e2⟩
  · have n8 := (jj_n J).2.2
    obtain ⟨t, C1, T1, r, htt, g1, g3, J1, hH, hM, hts, htd, hr⟩ := kept_both hN J hk
    have hb1 := jj_b J1
    have rk := rk_of J hk
    have eroot : cgA C (A 48 k) 3 0 = some (some (A 1 (S.1 45 k))) := (if_pos rk.1.1).trans (congrArg some rk.1.2.1)
    have cpre : c_B_same N bx (i32 k) C = if r = true then c_B_same_25 N N bx (A 48 k) 0 0 C1 else some (false, C1) := by
      unfold c_B_same
      rw [ho, jgd_true, e2, obd_some, jon_some, jgd_true, g1, cbd2_some]
    have mpre : h_R_same N (i32 k) T = if r = true then h_R_same_12 N N (i32 k) 0 T1 else some (false, T1) := by
      unfold h_R_same
      rw [g3, tbd2_some]
    rw [cpre, mpre]
    cases r with
    | false => exact ⟨false, C1, T1, rfl, rfl, S, A, J1⟩
    | true =>
      have hf := hr.mp rfl
      have rk1 := rk_of J1 hk
      have h20 := hts.1
      obtain ⟨v1, v2, v3⟩ := vk_of rk1 hf
      obtain ⟨x, x1, x2⟩ := same25_go (k := k) hN J1 hts.1 hH htd rk1.1.1 rk1.1.2.2.2 v1 v2 (by rw [chainCount_of J1 hk, hf.1]) v3 t.1 N 0 (by omega) (by omega)
      obtain ⟨y, y1, y2⟩ := same12_go (k := k) hN J1 hM hts htd (by omega) (fun i hi => ksec_of rk1 hf hi) t.1 N 0 (by omega) (by omega)
      have exy : x = y := by
        have : x = true ↔ y = true := x2.trans y2.symm
        cases x <;> cases y <;> simp_all
      rw [if_pos rfl, if_pos rfl]
      refine ⟨x, C1, T1, x1, ?_, S, A, J1⟩
      rw [exy]; exact y1
  · refine ⟨false, C, T, ?_, ?_, S, A, J⟩
    · unfold c_B_same
      rw [ho, jgd_true, e2, obd_some, jon_none]
    · unfold h_R_same h_R_isKept
      rw [e1, if_neg (by decide), tbd2_some]
      rfl
end SIMSAME
