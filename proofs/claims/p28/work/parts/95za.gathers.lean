/-! a chain remade, the reference: gathered -/
section RGAT
variable {G : GT} {E B bx m : Nat} {ad : Nat → Nat} {S0 S S1 X Y : ST} {A0 : AT} {C0 : CT} {T0 T : MT} {c s d n st so f p u : Nat} {Q L : List (Nat × Nat)} {x : CM}
theorem ga_ex (hx0 : Ex S0 x.1) (h1 : Ex S0 S1) (hM : MI S0 st c S1 (S0.1 17 c) x) (hp : p ≤ S0.1 17 c) : Ex S0 (jnL (x.1.1 16 0) x.2.1 p (chS x.1)) :=
  jnL_ex (ex_ch hx0) hx0.1.2 fun q hq => by
    have := (hM.2.1 q (by omega)).1.1
    have := h1.1.1
    omega
theorem ga_joins (J0 : JJ G E B bx m ad S0 A0 C0 T0) (hc : c < S0.1 16 0) (hx0 : Ex S0 x.1) (hW : WF E x.1) (h20 : x.1.1 16 0 < 20) (hM : MI S0 st c S1 (S0.1 17 c) x) (h1 : Ex S0 S1) (hQ : ∀ e, e ∈ Q → S0.1 1 0 ≤ e.1 ∧ S0.1 16 0 ≤ e.2) {N : Nat} {v2 v3 : Int32} :
    ∀ (q w p : Nat) (T : MT), p + q = S0.1 17 c → q < w → RT (insL Q (jnL (x.1.1 16 0) x.2.1 p (chS x.1))) T → (∀ r, r < S0.1 17 c → T.1 64 (S0.1 18 (10 * c + r)) = i32 (x.2.1 r)) →
    ∃ T1, h_R_gathers_9 N w (i32 c) v2 v3 (i32 (x.1.1 16 0)) (i32 p) T = h_R_gathers_55 N N (i32 c) v2 v3 (i32 (x.1.1 16 0)) (i32 (3 * c)) T1 ∧ RT (insL Q (jnL (x.1.1 16 0) x.2.1 (S0.1 17 c) (chS x.1))) T1 ∧ FrW T T1
  | 0, 0, _, _, _, h, _, _ => absurd h (by omega)
  | 0, w + 1, p, T, hp, _, hR, _ => by
    have h10 := (jj_wc J0 hc).1.1
    have hn := (jj_n J0).2.1
    have ep : p = S0.1 17 c := by omega
    subst ep
    obtain ⟨r17, r20, r18, -⟩ := rd_chn (ex_insL (ga_ex hx0 h1 hM (Nat.le_refl _)) hQ) hR hc
    refine ⟨T, ?_, hR, FrW.refl _⟩
    show (obd (jrg 20 (i32 c)) fun n1 => if T.1 17 n1 ≤ i32 (S0.1 17 c) then _ else _) = _
    rw [jrg_i32 (by omega) (by decide), obd_some, r17, if_pos (Int32.le_refl _), show (3 : Int32) * i32 c = i32 (3 * c) from i32_mul 3 c]
  | q + 1, 0, _, _, _, h, _, _ => absurd h (by omega)
  | q + 1, w + 1, p, T, hp, hw, hR, h64 => by
    have w0 := jj_wc J0 hc
    have h10 := w0.1.1
    have hn := jj_n J0
    have hmem := (w0.2.1 p (by omega)).1
    have hmp := (hM.2.1 p (by omega)).1
    obtain ⟨r17, r20, r18, -⟩ := rd_chn (ex_insL (ga_ex hx0 h1 hM (show p ≤ S0.1 17 c by omega)) hQ) hR hc
    have e16 : (insL Q (jnL (x.1.1 16 0) x.2.1 p (chS x.1))).1 16 0 = x.1.1 16 0 + 1 := by
      rw [insL_k (by decide), jnL_off ch_17 (by omega) (by omega) (by omega), chS_16]
    have e1 : (insL Q (jnL (x.1.1 16 0) x.2.1 p (chS x.1))).1 1 0 = x.1.1 1 0 := by
      rw [insL_k (by decide), jnL_off ch_17 (by omega) (by omega) (by omega), chS_k (by decide) (by decide)]
    have e17 : (insL Q (jnL (x.1.1 16 0) x.2.1 p (chS x.1))).1 17 (x.1.1 16 0) = p := by
      rw [insL_k (by decide), jnL_17 ch_17]
    obtain ⟨T1, u1, u2, u3⟩ := rt_jnz (c := x.1.1 16 0) (s := x.2.1 p) hR (wz_insL (wf_wz (jn_WF J0 hc hW h20 hM p (by omega)))) (by rw [e16]; omega) (by rw [e1]; omega) (by rw [e17]; omega)
    have hcom : jnS (insL Q (jnL (x.1.1 16 0) x.2.1 p (chS x.1))) (x.1.1 16 0) (x.2.1 p) = insL Q (jnL (x.1.1 16 0) x.2.1 (p + 1) (chS x.1)) :=
      insL_com (F := fun Z => jnS Z (x.1.1 16 0) (x.2.1 p)) (L := Q) (S := jnL (x.1.1 16 0) x.2.1 p (chS x.1)) fun e _ Z _ _ => in_jn
    rw [hcom] at u2
    obtain ⟨T2, w1, w2, w3⟩ := ga_joins J0 hc hx0 hW h20 hM h1 hQ (N := N) (v2 := v2) (v3 := v3) q w (p + 1) T1 (by omega) (by omega) u2 (fun r hr => by rw [u3.1]; exact h64 r hr)
    refine ⟨T2, ?_, w2, u3.trans w3⟩
    rw [← w1]
    show (obd (jrg 20 (i32 c)) fun n1 => if T.1 17 n1 ≤ i32 p then _ else _) = _
    rw [jrg_i32 (by omega) (by decide), obd_some, r17, if_neg (by rw [i32_le (by omega) (by omega)]; omega), show (10 : Int32) * i32 c + i32 p = i32 (10 * c + p) from by rw [show (10 : Int32) = i32 10 from rfl, i32_mul, i32_add], jrg_i32 (by omega) (by decide), obd_some, r18 p (by omega), jrg_i32 (show S0.1 18 (10 * c + p) < 60 by omega) (by decide), obd_some, h64 p (by omega), u1, tbd2_some, show i32 p + 1 = i32 (p + 1) from i32_add p 1]
theorem ga_loops (J0 : JJ G E B bx m ad S0 A0 C0 T0) (s3 : st < 3) (hc : c < S0.1 16 0) (h0 : S0.1 17 c ≠ 0) (hokl : allR (okl S0 st c) 0 (S0.1 20 c) = true) (hx0 : Ex S0 x.1) (h20 : x.1.1 16 0 < 20) (hM : MI S0 st c S1 (S0.1 17 c) x) (h1 : Ex S0 S1) (hQ : ∀ e, e ∈ Q → S0.1 1 0 ≤ e.1 ∧ S0.1 16 0 ≤ e.2) {N : Nat} (hN : 100 ≤ N) :
    ∀ (q w i : Nat) (T : MT), i + q = S0.1 20 c → q < w → RT (insL Q (lpL S0 st c (x.1.1 16 0) i (jnL (x.1.1 16 0) x.2.1 (S0.1 17 c) (chS x.1)))) T →
    ∃ T1, h_R_gathers_55 N w (i32 c) (i32 (cso S0 c)) (i32 st) (i32 (x.1.1 16 0)) (i32 (3 * c + i)) T = some (i32 (x.1.1 16 0), T1) ∧ RT (insL Q (lpL S0 st c (x.1.1 16 0) (S0.1 20 c) (jnL (x.1.1 16 0) x.2.1 (S0.1 17 c) (chS x.1)))) T1 ∧ FrW T T1
  | 0, 0, _, _, _, h, _ => absurd h (by omega)
  | 0, w + 1, i, T, hi, _, hR => by
    have h3 := (jj_wc J0 hc).1.2.1
    have hn := (jj_n J0).2.1
    have ei : i = S0.1 20 c := by omega
    subst ei
    obtain ⟨r17, r20, r18, -⟩ := rd_chn (ex_insL (lpL_ex (ga_ex hx0 h1 hM (Nat.le_refl _)) hx0.1.2) hQ) hR hc
    refine ⟨T, ?_, hR, FrW.refl _⟩
    show (obd (jrg 20 (i32 c)) fun n1 => if (3 : Int32) * i32 c + T.1 20 n1 ≤ i32 (3 * c + S0.1 20 c) then _ else _) = _
    rw [jrg_i32 (by omega) (by decide), obd_some, r20, show (3 : Int32) * i32 c + i32 (S0.1 20 c) = i32 (3 * c + S0.1 20 c) from by rw [show (3 : Int32) = i32 3 from rfl, i32_mul, i32_add], if_pos (Int32.le_refl _)]
  | q + 1, 0, _, _, _, h, _ => absurd h (by omega)
  | q + 1, w + 1, i, T, hi, hw, hR => by
    have w0 := jj_wc J0 hc
    have h10 := w0.1.1
    have h3 := w0.1.2.1
    have hn := jj_n J0
    have hm0 := (w0.2.1 0 (by omega)).1
    have hso : cso S0 c < 3 := so_lt J0 hm0
    have wl := w0.2.2.2.2.1 i (by omega)
    have et := turned_of (pl := false) hso s3 wl.2.2.2.2.2.1
    have hok1 : okB (cso S0 c) st false (S0.2.1 24 (3 * c + i)) = true := allR_iff.mp hokl i (Nat.zero_le _) (by omega)
    rw [if_pos hok1] at et
    have hxZ := ex_insL (lpL_ex (S0 := S0) (st := st) (c := c) (i := i) (ga_ex hx0 h1 hM (Nat.le_refl _)) hx0.1.2) hQ
    obtain ⟨r17, r20, r18, r21⟩ := rd_chn hxZ hR hc
    obtain ⟨⟨q21, q22, q23⟩, q24⟩ := r21 i (by omega)
    rw [ex_cso hxZ hc hm0] at q24
    have hJ20 : (jnL (x.1.1 16 0) x.2.1 (S0.1 17 c) (chS x.1)).1 20 (x.1.1 16 0) = 0 := by
      rw [jnL_off ch_17 (by omega) (by omega) (by omega)]; exact ch_20
    have e20 : (insL Q (lpL S0 st c (x.1.1 16 0) i (jnL (x.1.1 16 0) x.2.1 (S0.1 17 c) (chS x.1)))).1 20 (x.1.1 16 0) = i := by
      rw [insL_k (by decide), lpL_20 hJ20]
    have ecs : cso (insL Q (lpL S0 st c (x.1.1 16 0) i (jnL (x.1.1 16 0) x.2.1 (S0.1 17 c) (chS x.1)))) (x.1.1 16 0) = st := by
      have g18 := jnL_18 (a := x.2.1) (Y := chS x.1) ch_17 (show 0 < S0.1 17 c by omega)
      rw [Nat.add_zero] at g18
      unfold cso
      rw [insL_k (by decide), insL_k (by decide), lpL_off hJ20 (by omega) (fun q => absurd q (by decide)), lpL_off hJ20 (by omega) (fun q => absurd q (by decide)), g18, jnL_off ch_17 (by omega) (by omega) (by omega), chS_k (by decide) (by decide)]
      exact (hM.2.1 0 (by omega)).2.2.1
    obtain ⟨T1, u1, u2, u3⟩ := rt_lpz (c := x.1.1 16 0) (f := S0.1 22 (3 * c + i)) (t := S0.1 21 (3 * c + i)) (ln := S0.1 23 (3 * c + i)) (v := trB (cso S0 c) st false (S0.2.1 24 (3 * c + i))) hR h20 (by rw [e20]; omega) hN
    rw [ecs] at u1
    have hcom : lpS (insL Q (lpL S0 st c (x.1.1 16 0) i (jnL (x.1.1 16 0) x.2.1 (S0.1 17 c) (chS x.1)))) (x.1.1 16 0) (S0.1 22 (3 * c + i)) (S0.1 21 (3 * c + i)) (S0.1 23 (3 * c + i)) (trB (cso S0 c) st false (S0.2.1 24 (3 * c + i))) = insL Q (lpL S0 st c (x.1.1 16 0) (i + 1) (jnL (x.1.1 16 0) x.2.1 (S0.1 17 c) (chS x.1))) :=
      insL_com (F := fun Z => lpS Z (x.1.1 16 0) (S0.1 22 (3 * c + i)) (S0.1 21 (3 * c + i)) (S0.1 23 (3 * c + i)) (trB (cso S0 c) st false (S0.2.1 24 (3 * c + i)))) (L := Q) (S := lpL S0 st c (x.1.1 16 0) i (jnL (x.1.1 16 0) x.2.1 (S0.1 17 c) (chS x.1))) fun e _ Z _ _ => in_lp
    rw [hcom] at u2
    obtain ⟨T2, w1, w2, w3⟩ := ga_loops J0 s3 hc h0 hokl hx0 h20 hM h1 hQ hN q w (i + 1) T1 (by omega) (by omega) u2
    refine ⟨T2, ?_, w2, u3.trans w3⟩
    have j60 : jrg 60 (i32 (3 * c + i)) = some (3 * c + i) := jrg_i32 (by omega) (by decide)
    rw [← w1]
    show (obd (jrg 20 (i32 c)) fun n1 => if (3 : Int32) * i32 c + T.1 20 n1 ≤ i32 (3 * c + i) then _ else _) = _
    rw [jrg_i32 (by omega) (by decide), obd_some, r20, show (3 : Int32) * i32 c + i32 (S0.1 20 c) = i32 (3 * c + S0.1 20 c) from by rw [show (3 : Int32) = i32 3 from rfl, i32_mul, i32_add], if_neg (by rw [i32_le (by omega) (by omega)]; omega), j60, obd_some, obd_some, obd_some, obd_some, q24, et, obd_some, q21, q22, q23, u1, tbd2_some, show i32 (3 * c + i) + 1 = i32 (3 * c + (i + 1)) from i32_add _ 1]
theorem gathers_of (J0 : JJ G E B bx m ad S0 A0 C0 T0) (s3 : st < 3) (hc : c < S0.1 16 0) (h0 : S0.1 17 c ≠ 0) (hokl : allR (okl S0 st c) 0 (S0.1 20 c) = true) (hx0 : Ex S0 x.1) (hW : WF E x.1) (h20 : x.1.1 16 0 < 20) (hM : MI S0 st c S1 (S0.1 17 c) x) (h1 : Ex S0 S1) (hQ : ∀ e, e ∈ Q → S0.1 1 0 ≤ e.1 ∧ S0.1 16 0 ≤ e.2 ∧ e.2 < x.1.1 16 0) {N : Nat} (hN : 100 ≤ N)
    (hR : RT (insL Q x.1) T) (h64 : ∀ r, r < S0.1 17 c → T.1 64 (S0.1 18 (10 * c + r)) = i32 (x.2.1 r)) :
    ∃ T1, h_R_gathers N (i32 c) (i32 (cso S0 c)) (i32 st) T = some (i32 (x.1.1 16 0), T1) ∧ RT (insL Q (lpL S0 st c (x.1.1 16 0) (S0.1 20 c) (jnL (x.1.1 16 0) x.2.1 (S0.1 17 c) (chS x.1)))) T1 ∧ FrW T T1 := by
  have w0 := jj_wc J0 hc
  have h10 := w0.1.1
  have h3 := w0.1.2.1
  have hQ' : ∀ e, e ∈ Q → S0.1 1 0 ≤ e.1 ∧ S0.1 16 0 ≤ e.2 := fun e he => ⟨(hQ e he).1, (hQ e he).2.1⟩
  have e16 : (insL Q x.1).1 16 = x.1.1 16 := insL_k (by decide)
  obtain ⟨T1, u1, u2, u3⟩ := rt_chz hR (by rw [e16]; exact h20)
  have hcom : chS (insL Q x.1) = insL Q (chS x.1) := insL_com (F := chS) (L := Q) (S := x.1) fun e he Z _ h16 => in_ch (by have := (hQ e he).2.2; rw [h16]; omega)
  rw [hcom] at u2
  rw [e16] at u1
  obtain ⟨T2, v1, v2, v3⟩ := ga_joins J0 hc hx0 hW h20 hM h1 hQ' (N := N) (v2 := i32 (cso S0 c)) (v3 := i32 st) (S0.1 17 c) N 0 T1 (by omega) (by omega) u2 (fun r hr => by rw [u3.1]; exact h64 r hr)
  obtain ⟨T3, w1, w2, w3⟩ := ga_loops J0 s3 hc h0 hokl hx0 h20 hM h1 hQ' hN (S0.1 20 c) N 0 T2 (by omega) (by omega) v2
  refine ⟨T3, ?_, w2, (u3.trans v3).trans w3⟩
  unfold h_R_gathers
  rw [u1, tbd2_some, show (0 : Int32) = i32 0 from rfl, v1]
  exact w1
end RGAT
