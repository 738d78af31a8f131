/-! a chain remade, the reference: a section -/
section RSEC
variable {G : GT} {E B bx m : Nat} {ad : Nat → Nat} {S0 S X Y : ST} {A0 : AT} {C0 : CT} {T0 T : MT} {c s d n st so f p u : Nat} {Q L : List (Nat × Nat)}
theorem rd_sec (hx : Ex S0 X) (hR : RT X T) (hs : s < S0.1 1 0) : (T.1 2 s = i32 (S0.1 2 s) ∧ T.1 3 s = i32 (S0.1 3 s) ∧ T.1 5 s = i32 (S0.1 5 s) ∧ T.1 6 s = i32 (S0.1 6 s)) ∧ T.1 4 s = S0.2.2 4 s ∧ T.1 10 s = im (S0.1 10 s) ∧ ∀ j, j < 5 → T.2.2.1 7 (5 * s + j) = dv (S0.1 3 s) (S0.2.1 7 (5 * s + j)) := by
  obtain ⟨e1, e2, e3⟩ := hx.2.1 s hs
  refine ⟨⟨(hR.1 2 (by decide) s).trans (congrArg i32 (e1 2 (by decide))), (hR.1 3 (by decide) s).trans (congrArg i32 (e1 3 (by decide))), (hR.1 5 (by decide) s).trans (congrArg i32 (e1 5 (by decide))), (hR.1 6 (by decide) s).trans (congrArg i32 (e1 6 (by decide)))⟩, (hR.2.2.2.1 4 (by decide) s).trans e2, (hR.2.2.1 10 (by decide) s).trans (congrArg im (e1 10 (by decide))), fun j hj => ?_⟩
  have h := hR.2.2.2.2.2.1 (5 * s + j)
  rw [show (5 * s + j) / 5 = s by omega, e1 3 (by decide), e3 j hj] at h
  exact h
theorem rd_chn (hx : Ex S0 X) (hR : RT X T) (hc : c < S0.1 16 0) : T.1 17 c = i32 (S0.1 17 c) ∧ T.1 20 c = i32 (S0.1 20 c) ∧ (∀ p, p < 10 → T.1 18 (10 * c + p) = i32 (S0.1 18 (10 * c + p))) ∧
    ∀ i, i < 3 → (T.1 21 (3 * c + i) = i32 (S0.1 21 (3 * c + i)) ∧ T.1 22 (3 * c + i) = i32 (S0.1 22 (3 * c + i)) ∧ T.1 23 (3 * c + i) = i32 (S0.1 23 (3 * c + i))) ∧ T.2.2.1 24 (3 * c + i) = dv (cso X c) (S0.2.1 24 (3 * c + i)) := by
  obtain ⟨e1, e2, e3⟩ := hx.2.2 c hc
  refine ⟨(hR.1 17 (by decide) c).trans (congrArg i32 (e1 17 (by decide))), (hR.1 20 (by decide) c).trans (congrArg i32 (e1 20 (by decide))), fun p hp => (hR.1 18 (by decide) _).trans (congrArg i32 (e2 p hp)), fun i hi => ⟨⟨(hR.1 21 (by decide) _).trans (congrArg i32 ((e3 i hi).1 21 (by decide))), (hR.1 22 (by decide) _).trans (congrArg i32 ((e3 i hi).1 22 (by decide))), (hR.1 23 (by decide) _).trans (congrArg i32 ((e3 i hi).1 23 (by decide)))⟩, ?_⟩⟩
  have h := hR.2.2.2.2.2.2.2.1 (3 * c + i)
  rw [show (3 * c + i) / 3 = c by omega, (e3 i hi).2] at h
  exact h
theorem ex_cso (hx : Ex S0 X) (hc : c < S0.1 16 0) (h0 : S0.1 18 (10 * c) < S0.1 1 0) : cso X c = cso S0 c := by
  have e := (hx.2.2 c hc).2.1 0 (by omega)
  rw [Nat.add_zero] at e
  unfold cso
  rw [e]
  exact (hx.2.1 _ h0).1 3 (by decide)
theorem in_uN2 {r l : Nat} : ∀ {Q : List (Nat × Nat)}, uN (uN (insL Q X) 5 n r) 6 n l = insL Q (uN (uN X 5 n r) 6 n l) := fun {Q} =>
  insL_com (F := fun Z => uN (uN Z 5 n r) 6 n l) (L := Q) (S := X) fun e _ Z _ _ => by
    show uN (uN (inS Z e.1 e.2) 5 n r) 6 n l = inS (uN (uN Z 5 n r) 6 n l) e.1 e.2
    rw [in_uN (by decide), in_uN (by decide)]
theorem in_uJ {k j : Nat} {v : Int64} : ∀ {Q : List (Nat × Nat)}, uJ (insL Q X) k j v = insL Q (uJ X k j v) := fun {Q} =>
  insL_com (F := fun Z => uJ Z k j v) (L := Q) (S := X) fun e _ Z _ _ => rfl
theorem cf_run (J0 : JJ G E B bx m ad S0 A0 C0 T0) (s3 : st < 3) (hs : s < S0.1 1 0) (hok : allR (okf S0 st s) 0 (nfac (S0.1 2 s)) = true) (hn : S0.1 1 0 ≤ n) (hn60 : n < 60) {N : Nat} (h3 : Y.1 3 n = st) :
    ∀ (q w j : Nat) (T : MT), j + q = nfac (S0.1 2 s) → q < w → Ex S0 (insL Q (cfS S0 st s n j Y)) → RT (insL Q (cfS S0 st s n j Y)) T →
    ∃ T1, (∀ (k47 : Int32 → Int32 → Int32 → Int32 → MT → Option (Int32 × MT)) (v1 v4 : Int32), h_R_anew_201 N k47 w v1 (i32 st) (i32 (S0.1 3 s)) v4 (i32 s) (i32 n) (i32 j) T = h_R_anew_295 N k47 v1 (i32 st) (i32 (S0.1 3 s)) v4 (i32 s) (i32 n) T1) ∧ RT (insL Q (rlS S0 st s n (cfS S0 st s n (nfac (S0.1 2 s)) Y))) T1 ∧ FrW T T1
  | 0, 0, _, _, _, h, _, _ => absurd h (by omega)
  | 0, w + 1, j, T, hj, _, hx, hR => by
    have n5 := nfac_5 (S0.1 2 s)
    have hs0 := (jj_n J0).1
    have so3 := so_lt J0 hs
    have ej : j = nfac (S0.1 2 s) := by omega
    subst ej
    obtain ⟨⟨r2, r3, r5, r6⟩, -⟩ := rd_sec hx hR hs
    have j60 : jrg 60 (i32 s) = some s := jrg_i32 (by omega) (by decide)
    have jn : jrg 60 (i32 n) = some n := jrg_i32 hn60 (by decide)
    by_cases q : S0.1 3 s = 2 ∧ st = 2
    · refine ⟨tsI (tsI T 5 n (i32 (S0.1 5 s))) 6 n (i32 (S0.1 6 s)), fun k47 v1 v4 => ?_, ?_, rfl, rfl, rfl, rfl⟩
      · show (obd (jrg 60 (i32 s)) fun n1 => if (g_R_coefficientsOf (T.1 2 n1)) ≤ i32 (nfac (S0.1 2 s)) then _ else _) = _
        rw [j60, obd_some, r2, coefs_eq _ (jj_ws J0 hs).1.1, if_pos (Int32.le_refl _), if_pos (show i32 (S0.1 3 s) = (2 : Int32) by rw [q.1]; rfl), if_pos (show i32 st = (2 : Int32) by rw [q.2]; rfl), obd_some, jn, obd_some, jlet_eq, obd_some, obd_some, r5, jlet_eq, show (tsI T 5 n (i32 (S0.1 5 s))).1 6 s = i32 (S0.1 6 s) from r6]
      · have e : rlS S0 st s n (cfS S0 st s n (nfac (S0.1 2 s)) Y) = uN (uN (cfS S0 st s n (nfac (S0.1 2 s)) Y) 5 n (S0.1 5 s)) 6 n (S0.1 6 s) := if_pos q
        rw [e, ← in_uN2]
        exact rt_uN (rt_uN hR (by decide) (by decide) (by decide) (by decide)) (by decide) (by decide) (by decide) (by decide)
    · have e : rlS S0 st s n (cfS S0 st s n (nfac (S0.1 2 s)) Y) = cfS S0 st s n (nfac (S0.1 2 s)) Y := if_neg q
      refine ⟨T, fun k47 v1 v4 => ?_, by rw [e]; exact hR, FrW.refl _⟩
      show (obd (jrg 60 (i32 s)) fun n1 => if (g_R_coefficientsOf (T.1 2 n1)) ≤ i32 (nfac (S0.1 2 s)) then _ else _) = _
      rw [j60, obd_some, r2, coefs_eq _ (jj_ws J0 hs).1.1, if_pos (Int32.le_refl _)]
      by_cases q1 : S0.1 3 s = 2
      · rw [if_pos (show i32 (S0.1 3 s) = (2 : Int32) by rw [q1]; rfl), if_neg (show ¬ i32 st = (2 : Int32) from i32_ne (b := 2) (by omega) (by decide) (fun z => q ⟨q1, z⟩))]
      · rw [if_neg (show ¬ i32 (S0.1 3 s) = (2 : Int32) from i32_ne (b := 2) (by omega) (by decide) q1)]
  | q + 1, 0, _, _, _, h, _, _ => absurd h (by omega)
  | q + 1, w + 1, j, T, hj, hw, hx, hR => by
    have n5 := nfac_5 (S0.1 2 s)
    have hs0 := (jj_n J0).1
    have so3 := so_lt J0 hs
    obtain ⟨⟨r2, r3, r5, r6⟩, r4, r10, r7⟩ := rd_sec hx hR hs
    have j60 : jrg 60 (i32 s) = some s := jrg_i32 (by omega) (by decide)
    have hv := cf_vb J0 hs (k := j) (by omega)
    have et := turned_of (pl := g_R_isPlain (i32 (S0.1 2 s))) so3 s3 hv
    have hok1 : okB (S0.1 3 s) st (g_R_isPlain (i32 (S0.1 2 s))) (S0.2.1 7 (5 * s + j)) = true := allR_iff.mp hok j (Nat.zero_le _) (by omega)
    rw [if_pos hok1] at et
    have ez : (insL Q (cfS S0 st s n j Y)).1 3 n = st := by rw [insL_k (by decide), cfS_1]; exact h3
    have hR1 : RT (insL Q (cfS S0 st s n (j + 1) Y)) (tsD T 7 (5 * n + j) (dv st (trB (S0.1 3 s) st (g_R_isPlain (i32 (S0.1 2 s))) (S0.2.1 7 (5 * s + j))))) := by
      show RT (insL Q (uJ (cfS S0 st s n j Y) 7 (5 * n + j) _)) _
      rw [← in_uJ]
      exact rt_uD hR (Or.inl ⟨rfl, by rw [show (5 * n + j) / 5 = n by omega, ez]⟩)
    have hx1 : Ex S0 (insL Q (cfS S0 st s n (j + 1) Y)) := by
      show Ex S0 (insL Q (uJ (cfS S0 st s n j Y) 7 (5 * n + j) _))
      rw [← in_uJ]
      exact ex_cf hx hn
    obtain ⟨T1, u1, u2, u3⟩ := cf_run J0 s3 hs hok hn hn60 (N := N) h3 q w (j + 1) _ (by omega) (by omega) hx1 hR1
    refine ⟨T1, fun k47 v1 v4 => ?_, u2, FrW.trans ⟨rfl, rfl, rfl, rfl⟩ u3⟩
    have ec : h_R_c (i32 s) (i32 j) T = some (dv (S0.1 3 s) (S0.2.1 7 (5 * s + j))) := by
      unfold h_R_c
      rw [show (5 : Int32) = i32 5 from rfl, i32_mul, i32_add, jrg_i32 (by omega) (by decide), obd_some, r7 j (by omega)]
    rw [← u1 k47 v1 v4]
    show (obd (jrg 60 (i32 s)) fun n1 => if (g_R_coefficientsOf (T.1 2 n1)) ≤ i32 j then _ else _) = _
    rw [j60, obd_some, r2, coefs_eq _ (jj_ws J0 hs).1.1, if_neg (by rw [i32_le (by omega) (by omega)]; omega), ec, obd_some, obd_some, r2, et, obd_some, show (5 : Int32) * i32 n + i32 j = i32 (5 * n + j) from by rw [show (5 : Int32) = i32 5 from rfl, i32_mul, i32_add], jrg_i32 (by omega) (by decide), obd_some, jlet_eq, show i32 j + 1 = i32 (j + 1) from i32_add j 1]
/-- a section of a chain, made anew -/
theorem rsec_run (J0 : JJ G E B bx m ad S0 A0 C0 T0) (s3 : st < 3) (hs : s < S0.1 1 0) (hok : allR (okf S0 st s) 0 (nfac (S0.1 2 s)) = true) {N : Nat} (hN : 100 ≤ N)
    (hx : Ex S0 X) (hW : WF E X) (h60 : X.1 1 0 < 60) (hQ : ∀ e, e ∈ Q → (S0.1 1 0 ≤ e.1 ∧ e.1 < X.1 1 0) ∧ S0.1 16 0 ≤ e.2) (hR : RT (insL Q X) T) :
    ∃ T1, (∀ (k47 : Int32 → Int32 → Int32 → Int32 → MT → Option (Int32 × MT)) (v1 v4 : Int32), h_R_anew_177 N k47 v1 (i32 st) (i32 (S0.1 3 s)) v4 (i32 s) T = h_R_anew_295 N k47 v1 (i32 st) (i32 (S0.1 3 s)) v4 (i32 s) (i32 (X.1 1 0)) T1) ∧ RT (insL Q (cpS S0 st s X)) T1 ∧ FrW T T1 := by
  have n5 := nfac_5 (S0.1 2 s)
  have hs0 := (jj_n J0).1
  have hxQ : Ex S0 (insL Q X) := ex_insL hx fun e he => ⟨(hQ e he).1.1, (hQ e he).2⟩
  obtain ⟨⟨r2, r3, r5, r6⟩, r4, r10, r7⟩ := rd_sec hxQ hR hs
  have e1 : (insL Q X).1 1 = X.1 1 := insL_k (by decide)
  obtain ⟨T1, u1, u2, u3⟩ := rt_secz hR (wz_insL (wf_wz hW)) (by rw [e1]; exact h60) (kd := S0.1 2 s) (so := st) (ln := S0.2.2 4 s) hN
  rw [e1] at u1
  have hcom : secS (insL Q X) (S0.1 2 s) st (S0.2.2 4 s) = insL Q (secS X (S0.1 2 s) st (S0.2.2 4 s)) :=
    insL_com (F := fun Z => secS Z (S0.1 2 s) st (S0.2.2 4 s)) (L := Q) (S := X) fun e he Z h1 _ => in_sec (by have := (hQ e he).1.2; rw [h1]; omega)
  have hxS : Ex S0 (secS (insL Q X) (S0.1 2 s) st (S0.2.2 4 s)) := ex_sec hxQ
  rw [hcom] at u2 hxS
  obtain ⟨T2, w1, w2, w3⟩ := cf_run J0 s3 hs hok hx.1.1 h60 (N := N) (Y := secS X (S0.1 2 s) st (S0.2.2 4 s)) (by simp [secS]) (nfac (S0.1 2 s)) N 0 T1 (by omega) (by omega) hxS u2
  refine ⟨T2, fun k47 v1 v4 => ?_, w2, u3.trans w3⟩
  have j60 : jrg 60 (i32 s) = some s := jrg_i32 (by omega) (by decide)
  unfold h_R_anew_177
  rw [j60, obd_some, obd_some, r2, r4, u1, tbd2_some]
  exact w1 k47 v1 v4
theorem rlink0 {k47 : Int32 → Int32 → Int32 → Int32 → MT → Option (Int32 × MT)} {v1 v2 v3 : Int32} {N : Nat} (hs : s < 60) (hu : u < 20) (h67 : T.1 67 u = i32 p) (h10 : T.1 10 s = -1) :
    h_R_anew_295 N k47 v1 v2 v3 (i32 (u + 1)) (i32 s) (i32 n) T = k47 v1 v2 v3 (i32 (u + 1)) (tsI (tsI T 64 s (i32 n)) 67 u (i32 (p + 1))) := by
  have j60 : jrg 60 (i32 s) = some s := jrg_i32 hs (by decide)
  unfold h_R_anew_295
  rw [j60, obd_some, jlet_eq, show i32 (u + 1) - 1 = i32 u from i32_sub (b := 1) (by omega), jrg_i32 hu (by decide), obd_some, obd_some, show (tsI T 64 s (i32 n)).1 67 u = i32 p from h67, show i32 p + 1 = i32 (p + 1) from i32_add p 1, jlet_eq, obd_some, if_pos (show (tsI (tsI T 64 s (i32 n)) 67 u (i32 (p + 1))).1 10 s = -1 from h10)]
theorem rlink1 {k47 : Int32 → Int32 → Int32 → Int32 → MT → Option (Int32 × MT)} {v1 v2 v3 : Int32} {N d' : Nat} (hs : s < 60) (hn : n < 60) (hd : d < 20) (hd' : d' < 20) (hu : u < 20) (h67 : T.1 67 u = i32 p) (h10 : T.1 10 s = i32 d) (h65 : T.1 65 d = i32 d') :
    h_R_anew_295 N k47 v1 v2 v3 (i32 (u + 1)) (i32 s) (i32 n) T = k47 v1 v2 v3 (i32 (u + 1)) (tsI (tsI (tsI (tsI T 64 s (i32 n)) 67 u (i32 (p + 1))) 10 n (i32 d')) 19 d' (i32 n)) := by
  have j60 : jrg 60 (i32 s) = some s := jrg_i32 hs (by decide)
  have jn : jrg 60 (i32 n) = some n := jrg_i32 hn (by decide)
  have hne : ¬ i32 d = -1 := fun q => i32_nonneg (n := d) (by omega) (by rw [q]; decide)
  unfold h_R_anew_295
  rw [j60, obd_some, jlet_eq, show i32 (u + 1) - 1 = i32 u from i32_sub (b := 1) (by omega), jrg_i32 hu (by decide), obd_some, obd_some, show (tsI T 64 s (i32 n)).1 67 u = i32 p from h67, show i32 p + 1 = i32 (p + 1) from i32_add p 1, jlet_eq, obd_some, show (tsI (tsI T 64 s (i32 n)) 67 u (i32 (p + 1))).1 10 s = i32 d from h10, if_neg hne, obd_some, show (tsI (tsI T 64 s (i32 n)) 67 u (i32 (p + 1))).1 10 s = i32 d from h10, jrg_i32 hd (by decide), obd_some, jn, obd_some, show (tsI (tsI T 64 s (i32 n)) 67 u (i32 (p + 1))).1 65 d = i32 d' from h65, jlet_eq, obd_some,
    show (tsI (tsI (tsI T 64 s (i32 n)) 67 u (i32 (p + 1))) 10 n (i32 d')).1 10 n = i32 d' from ts_eq, jrg_i32 hd' (by decide), obd_some, jlet_eq]
/-- the top of the stack: a place whose section is next -/
theorem rplace {v1 v2 v3 : Int32} {N w z : Nat} (hu : u < 20) (hc : c < 20) (hz : z ≤ 10) (hp : p < z) (h66 : T.1 66 u = i32 c) (h67 : T.1 67 u = i32 p) (h17 : T.1 17 c = i32 z) (h18 : T.1 18 (10 * c + p) = i32 s) (hs : s < 60)
    (h10 : T.1 10 s = -1 ∨ ∃ d, d < 20 ∧ T.1 10 s = i32 d ∧ ¬ T.1 65 d = -1) :
    h_R_anew_47 N (w + 1) v1 v2 v3 (i32 (u + 1)) T = h_R_anew_177 N (h_R_anew_47 N w) v1 v2 v3 (i32 (u + 1)) (i32 s) T := by
  have j60 : jrg 60 (i32 s) = some s := jrg_i32 hs (by decide)
  show (if i32 (u + 1) ≤ 0 then _ else _) = _
  rw [if_neg (by rw [show (0 : Int32) = i32 0 from rfl, i32_le (by omega) (by decide)]; omega), show i32 (u + 1) - 1 = i32 u from i32_sub (b := 1) (by omega), jrg_i32 hu (by decide), obd_some, obd_some, h66, jrg_i32 hc (by decide), obd_some, h67, h17, if_neg (i32_ne (by omega) (by omega) (by omega)),
    show (10 : Int32) * i32 c + i32 p = i32 (10 * c + p) from by rw [show (10 : Int32) = i32 10 from rfl, i32_mul, i32_add], jrg_i32 (by omega) (by decide), obd_some, h18, j60, obd_some]
  rcases h10 with h | ⟨d, hd, h, h'⟩
  · rw [if_pos h]
  · have hne : ¬ i32 d = -1 := fun q => i32_nonneg (n := d) (by omega) (by rw [q]; decide)
    rw [h, if_neg hne, obd_some, h, jrg_i32 hd (by decide), obd_some, if_neg h']
/-- the top of the stack: a place with a chain within that is next -/
theorem rpush {v1 v2 v3 : Int32} {N w z : Nat} (hu : u + 1 < 20) (hc : c < 20) (hd : d < 20) (hz : z ≤ 10) (hp : p < z) (h66 : T.1 66 u = i32 c) (h67 : T.1 67 u = i32 p) (h17 : T.1 17 c = i32 z) (h18 : T.1 18 (10 * c + p) = i32 s) (hs : s < 60)
    (h10 : T.1 10 s = i32 d) (h65 : T.1 65 d = -1) :
    h_R_anew_47 N (w + 1) v1 v2 v3 (i32 (u + 1)) T = h_R_anew_47 N w v1 v2 v3 (i32 (u + 1 + 1)) (tsI (tsI T 66 (u + 1) (i32 d)) 67 (u + 1) 0) := by
  have j60 : jrg 60 (i32 s) = some s := jrg_i32 hs (by decide)
  have hne : ¬ i32 d = -1 := fun q => i32_nonneg (n := d) (by omega) (by rw [q]; decide)
  show (if i32 (u + 1) ≤ 0 then _ else _) = _
  rw [if_neg (by rw [show (0 : Int32) = i32 0 from rfl, i32_le (by omega) (by decide)]; omega), show i32 (u + 1) - 1 = i32 u from i32_sub (b := 1) (by omega), jrg_i32 (show u < 20 by omega) (by decide), obd_some, obd_some, h66, jrg_i32 hc (by decide), obd_some, h67, h17, if_neg (i32_ne (by omega) (by omega) (by omega)),
    show (10 : Int32) * i32 c + i32 p = i32 (10 * c + p) from by rw [show (10 : Int32) = i32 10 from rfl, i32_mul, i32_add], jrg_i32 (by omega) (by decide), obd_some, h18, j60, obd_some, h10, if_neg hne, obd_some, h10, jrg_i32 hd (by decide), obd_some, if_pos h65, obd_some, jrg_i32 hu (by decide), obd_some, h10, jlet_eq, obd_some, jlet_eq, show i32 (u + 1) + 1 = i32 (u + 1 + 1) from i32_add (u + 1) 1]
end RSEC
