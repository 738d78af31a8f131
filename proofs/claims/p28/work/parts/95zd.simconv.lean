/-! convert -/
section CONVERT
variable {G : GT} {E B bx m : Nat} {ad : Nat → Nat} {S S0 X : ST} {A A0 : AT} {C C0 V : CT} {T T0 : MT} {c d p st so : Nat}
theorem pd_eq (h : Pd (fun _ => False) (fun _ => False) C V) : C = V := by
  obtain ⟨⟨h1, h2, h3, h4⟩, h5, h6, -⟩ := h
  refine Prod.ext h1 (Prod.ext h2 (Prod.ext (funext fun k => funext fun a => funext fun j => h5 k a j (fun q => q.2)) (Prod.ext h3 (Prod.ext (funext fun k => funext fun a => funext fun j => h6 k a j (fun q => q.2) (fun q => q.2)) h4))))
theorem anew9_go {N : Nat} {v1 v2 v3 : Int32} : ∀ (q w j : Nat) (T : MT), j + q = 20 → q < w → (∀ y, y < j → T.1 65 y = -1) → RT X T →
    ∃ T1, h_R_anew_9 N w v1 v2 v3 (i32 j) T = h_R_anew_47 N N v1 v2 v3 (i32 (0 + 1)) T1 ∧ RT X T1 ∧ T1.1 66 0 = v1 ∧ T1.1 67 0 = i32 0 ∧ ∀ y, y < 20 → T1.1 65 y = -1
  | 0, 0, _, _, _, h, _, _ => absurd h (by omega)
  | 0, w + 1, j, T, hj, _, h65, hR => by
    have ej : j = 20 := by omega
    subst ej
    refine ⟨tsI (tsI T 66 0 v1) 67 0 0, ?_, rt_scI (rt_scI hR (by decide)) (by decide), (ts_ne (by decide)).trans ts_eq, ts_eq, h65⟩
    show (if (20 : Int32) ≤ i32 20 then _ else _) = _
    rw [if_pos (by decide), show (0 : Int32) = i32 0 from rfl, jrg_i32 (by decide) (by decide), obd_some, jlet_eq, obd_some, jlet_eq]
    rfl
  | q + 1, 0, _, _, _, h, _, _ => absurd h (by omega)
  | q + 1, w + 1, j, T, hj, hw, h65, hR => by
    obtain ⟨T1, u1, u2, u3, u4, u5⟩ := anew9_go (N := N) (v1 := v1) (v2 := v2) (v3 := v3) q w (j + 1) (tsI T 65 j (-1)) (by omega) (by omega) (fun y hy => by
      by_cases e : y = j
      · subst e; exact ts_eq
      · exact (ts_nj e).trans (h65 y (by omega))) (rt_scI hR (by decide))
    refine ⟨T1, ?_, u2, u3, u4, u5⟩
    rw [← u1]
    show (if (20 : Int32) ≤ i32 j then _ else _) = _
    rw [if_neg (by rw [show (20 : Int32) = i32 20 from rfl, i32_le (by decide) (by omega)]; omega), jrg_i32 (by omega) (by decide), obd_some, jlet_eq, show i32 j + 1 = i32 (j + 1) from i32_add j 1]
/-- the reference's remade, whole -/
theorem anew_of (J0 : JJ G E B bx m ad S0 A0 C0 T0) (s3 : st < 3) {N : Nat} (hN : 200 ≤ N) (hc : c < S0.1 16 0) (h0 : S0.1 17 c ≠ 0) (hb : wt (bad S0 st) S0 20 c = 0) (h60 : S0.1 1 0 + wt (S0.1 17) S0 20 c ≤ 60) (h20 : S0.1 16 0 + wt oneF S0 20 c ≤ 20) (hR : RT S0 T) :
    ∃ T1, h_R_anew N (i32 c) (i32 st) T = some (i32 ((cvS S0 st 20 c S0).1 16 0 - 1), T1) ∧ RT (cvS S0 st 20 c S0) T1 := by
  have hn := jj_n J0
  have hs := (sort_of (jj_T J0 hR) hc).2
  rw [if_neg h0] at hs
  obtain ⟨T1, u1, u2, u3, u4, u5⟩ := anew9_go (X := S0) (N := N) (v1 := i32 c) (v2 := i32 st) (v3 := i32 (cso S0 c)) 20 N 0 T (by decide) (by omega) (fun y hy => absurd hy (Nat.not_lt_zero _)) hR
  obtain ⟨T2, k, v1, v2, v3, v4, v5⟩ := rm_all J0 s3 (show 100 ≤ N by omega) 20 c 0 S0 [] T1 (i32 c) (by omega) hc h0 rfl hb (Ex.refl S0) J0.2.2.2.1 h60 h20 (by omega) (fun e he => absurd he List.not_mem_nil) u2 u3 u4 (fun y hy _ => u5 y (by omega))
  have hk := wt_fu (S := S0) 20 c
  obtain ⟨n, hn'⟩ : ∃ n, N = n + 1 + k := ⟨N - 1 - k, by omega⟩
  refine ⟨T2, ?_, v3⟩
  unfold h_R_anew
  rw [hs, obd_some]
  refine u1.trans ?_
  have e := v2 (n + 1)
  rw [← hn'] at e
  rw [e]
  show (if i32 0 ≤ 0 then _ else _) = _
  rw [if_pos (by decide), jrg_i32 (show c < 20 by omega) (by decide), obd_some, v4]
theorem sim_convert {N M : Nat} (hN : 1000 ≤ N) (hM : 20 ≤ M) : ls_21 N M bx (II G E B bx m ad) (II G E B bx m ad) := by
  intro C T a1 a2 ⟨S, A, J⟩
  have hb := jj_b J
  have ho : cob C bx 0 = true := cob_of (rb_tag hb)
  have hn := jj_n J
  rcases fed_of J a1 with ⟨c, hc, rfl, h0, e1, e2⟩ | ⟨e1, e2⟩
  · by_cases hq : g_R_in a2 0 2 = true
    · obtain ⟨st, s3, rfl⟩ := (in_i32 (n := 3) (by decide)).mp (show g_R_in a2 0 (i32 3 - 1) = true from hq)
      -- the class
      obtain ⟨C1, g1, g2, g3, g4⟩ := gather_of (N := N) (by omega) J hc
      have ho1 : cob C1 bx 0 = true := cob_of (rb_tag (jj_b g2))
      have ht := ti_bound g4 hc hn.2.1
      have hd := tre_ok J hc h0 g4
      have k1 := can12_go g2 s3 (N := N) (by omega) ht g3 hd (tre S c).1 N 0 (by omega) (by omega)
      -- the reference
      have f3 : Fz T (tsZ (tsI (tsI T 61 0 0) 62 0 0) 63 true) := ((fz_I (by decide)).trans (fz_I (by decide))).trans fz_Z
      obtain ⟨T5, r1, r2, r3, r4⟩ := trees_of (N := N) (by omega) (jj_T J (rt_Fz (jj_rt J) f3)) hc
      have z63' : T5.2.2.2 63 = true := by rw [r4.2]; exact z63
      have z61 : T5.1 61 0 = i32 0 := by rw [r4.1 61 (by decide)]; rfl
      have z62 : T5.1 62 0 = i32 0 := by rw [r4.1 62 (by decide)]; rfl
      obtain ⟨T6, q1, q2⟩ := conv41_go J s3 (N := N) (by omega) (v1 := i32 c) ht hd (tre S c).1 N 0 T5 r2 r3 z61 z62 (by omega) (by omega)
      have hRT6 := rt_Fz r2 q2
      have epre : h_R_convert N (i32 c) (i32 st) T = h_R_convert_41 N N (i32 c) (i32 st) (i32 0) T5 := by
        unfold h_R_convert
        rw [e2, obd_some, if_pos rfl, hq, if_pos rfl, jlet_eq, jlet_eq, jlet_eq, r1, obd_some]
        rfl
      rw [q1, z63', Bool.true_and] at epre
      have cpre : c_B_convert N M bx (i32 c) (i32 st) C = (if (allR (fun i => okc S st ((tre S c).2 i)) 0 (tre S c).1 && fitT S (tre S c).1 (sm (szt S (tre S c)) (tre S c).1)) = true then (jgd (cob C1 bx 0) <| cbd2 (c_B_remade N M bx (some (A 1 c)) (i32 st) (some (A 5 st)) (0 : Int32) C1) fun x7 C8 => obd (c_B_numberOf x7 C8) fun x9 => some (x9, C8)) else some (-1, C1)) := by
        unfold c_B_convert c_B_canRemake
        rw [ho, jgd_true, e1, obd_some, jgd_true, numbersOf_some hb s3, obd_some, jon_some, jon_some, jgd_true, jgd_true, g1, cbd2_some]
        have k1 : c_B_canRemake_12 N N bx (some (A 5 st)) (i32 (tre S c).1) 0 0 C1 = _ := k1
        rw [k1, cbd2_some]
      by_cases hok : (allR (fun i => okc S st ((tre S c).2 i)) 0 (tre S c).1 && fitT S (tre S c).1 (sm (szt S (tre S c)) (tre S c).1)) = true
      · rw [if_pos hok] at epre cpre
        rw [Bool.and_eq_true] at hok
        obtain ⟨k2, k3⟩ := hok
        unfold fitT at k3
        rw [Bool.and_eq_true, decide_eq_true_eq, decide_eq_true_eq] at k3
        have w1 := tre_sm (w := S.1 17) J hc g4
        have w2 := tre_sm (w := oneF) J hc g4
        have w3 := tre_sm (w := bad S st) J hc g4
        have o1 : ∀ n, sm (fun a => oneF ((tre S c).2 a)) n = n := fun n => by
          induction n with
          | zero => rfl
          | succ n ih =>
            show sm (fun a => oneF ((tre S c).2 a)) n + 1 = n + 1
            rw [ih]
        rw [o1] at w2
        rw [bad_all.mpr (fun i hi => allR_iff.mp k2 i (Nat.zero_le _) (by omega))] at w3
        have w1' : sm (szt S (tre S c)) (tre S c).1 = wt (S.1 17) S 20 c := w1
        obtain ⟨A', V', C', x1, x2, x3, x4, x5, x6⟩ := crm_all J s3 (N := N) (by omega) 20 c M 0 S A C1 C1 (fun _ => False) (fun _ => False) ad (by omega) hc h0 w3.symm (Ex.refl S) (jj_T g2 (rt_tOf S)) pd_none (fun a h => h.elim) (fun a h => h.elim) (by omega) (by omega) (by omega) hM
        have eV := pd_eq x3
        subst eV
        obtain ⟨T7, y1, y2⟩ := anew_of J s3 (N := N) (by omega) hc h0 w3.symm (by omega) (by omega) hRT6
        have hcnt := (pu_all J s3 20 c S (by omega) hc h0 w3.symm (Ex.refl S) J.2.2.2.1 (by omega) (by omega)).2.2.2.1
        have o2 := wt_one (S0 := S) (show c < 20 by omega)
        refine ⟨i32 ((cvS S st 20 c S).1 16 0 - 1), C', T7, ?_, ?_, cvS S st 20 c S, A', jj_T x2 y2⟩
        · rw [cpre, ho1, jgd_true, show (0 : Int32) = i32 0 from rfl, x1, cbd2_some]
          have hno := numberOf_of x2 (n := (cvS S st 20 c S).1 16 0 - 1 + 1) (by omega)
          have hno : c_B_numberOf (some (A' 1 ((cvS S st 20 c S).1 16 0 - 1))) C' = some (im ((cvS S st 20 c S).1 16 0 - 1 + 1)) := hno
          rw [hno, obd_some, im_succ]
        · rw [epre, y1, tbd2_some]
      · rw [if_neg hok] at epre cpre
        exact ⟨-1, C1, T6, cpre, epre, S, A, jj_T g2 hRT6⟩
    · refine ⟨-1, C, T, ?_, ?_, S, A, J⟩
      · unfold c_B_convert
        rw [ho, jgd_true, e1, obd_some, jgd_true, numbersOf_none (fun ⟨so, h3, h⟩ => hq ((in_i32 (n := 3) (by decide)).mpr ⟨so, h3, h⟩)), obd_some, jon_some]
        rfl
      · unfold h_R_convert
        rw [e2, obd_some, if_pos rfl, if_neg hq]
  · refine ⟨-1, C, T, ?_, ?_, S, A, J⟩
    · unfold c_B_convert
      rw [ho, jgd_true, e1, obd_some, jgd_true]
      by_cases h : ∃ so, so < 3 ∧ a2 = i32 so
      · obtain ⟨so, h3, rfl⟩ := h
        rw [numbersOf_some hb h3]; rfl
      · rw [numbersOf_none h]; rfl
    · unfold h_R_convert
      rw [e2, obd_some, if_neg (by decide)]
end CONVERT
