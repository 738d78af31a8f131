section SIMLOOP2
variable {G : GT} {E B bx m : Nat} {ad : Nat → Nat} {S : ST} {A : AT} {C : CT} {T : MT} {c : Nat}
def fin63 (N c : Nat) (v2 v3 v4 : Int32) (v5 : Int64) (T : MT) : Option (Int32 × MT) :=
  obd (h_R_sortOf (i32 c) T) fun x1 => if (g_R_isValue x1 v5) = true then (obd (h_R_sortOf (i32 c) T) fun x2 => obd (g_R_valueOf x2 v5) fun x3 => tbd2 (h_R_newLoop N (i32 c) v2 v3 v4 x3 T) fun x4 T5 => some (x4, T5)) else some ((-1 : Int32), T)
theorem loop63_go (J : JJ G E B bx m ad S A C T) (hc : c < S.1 16 0) {N t : Nat} {v2 v4 : Int32} {v5 : Int64} (ht : t < S.1 17 c) : ∀ (q n p : Nat), p + q = t + 1 → q < n → h_R_loop_63 N n (i32 c) v2 (i32 t) v4 v5 (i32 p) T = if anyR (rtf S c) p q = true then some (-1, T) else fin63 N c v2 (i32 t) v4 v5 T
  | 0, 0, _, _, h => absurd h (by omega)
  | 0, n + 1, p, hp, _ => by
    have h10 := (jj_wc J hc).1.1
    unfold h_R_loop_63
    rw [if_pos (by rw [i32_lt (by omega) (by omega)]; omega), if_neg (show ¬ anyR (rtf S c) p 0 = true from Bool.false_ne_true)]
    rfl
  | q + 1, 0, _, _, h => absurd h (by omega)
  | q + 1, n + 1, p, hp, hn => by
    have h10 := (jj_wc J hc).1.1
    have hm := places_lt J hc (p := p) (by omega)
    have hns := jj_n J
    have ih := loop63_go J hc (N := N) (v2 := v2) (v4 := v4) (v5 := v5) ht q n (p + 1) (by omega) (by omega)
    unfold h_R_loop_63
    rw [if_neg (by rw [i32_lt (by omega) (by omega)]; omega), show (10 : Int32) * i32 c + i32 p = i32 (10 * c + p) from by rw [show (10 : Int32) = i32 10 from rfl, i32_mul, i32_add], jrg_i32 (by omega) (by decide), obd_some, jj_N J 18 (by decide), jrg_i32 (by omega) (by decide), obd_some, jj_N J 2 (by decide), rate_in _ (jj_ws J hm).1.1, show i32 p + 1 = i32 (p + 1) from i32_add p 1]
    have e : anyR (rtf S c) p (q + 1) = (rtf S c p || anyR (rtf S c) (p + 1) q) := rfl
    rw [e]
    cases hb : rate (S.1 2 (S.1 18 (10 * c + p))) with
    | true => rw [if_pos rfl, show rtf S c p = true from hb, if_pos (by rfl)]
    | false => rw [if_neg (by decide), show rtf S c p = false from hb, Bool.false_or]; exact ih
theorem sim_loop {N M : Nat} (hN : 100 ≤ N) : ls_6 N M bx (II G E B bx m ad) (II G E B bx m ad) := by
  rintro C T v1 v2 v3 v4 v5 ⟨S, A0, J0⟩
  obtain ⟨A, J, -, hfar, hdead⟩ := jj_norm J0
  have hb := jj_b J
  have hn := jj_n J
  have ho : cob C bx 0 = true := cob_of (rb_tag hb)
  have same : c_B_loop N bx v1 v2 v3 v4 v5 C = some (-1, C) → h_R_loop N v1 v2 v3 v4 v5 T = some (-1, T) → ∃ r C1 T1, c_B_loop N bx v1 v2 v3 v4 v5 C = some (r, C1) ∧ h_R_loop N v1 v2 v3 v4 v5 T = some (r, T1) ∧ II G E B bx m ad C1 T1 := fun a b => ⟨-1, C, T, a, b, S, A, J⟩
  rcases ch_or J v1 with ⟨c, hc, rfl, e1, e2⟩ | ⟨e1, e2⟩
  · have hr := jj_c J hc
    have wc := jj_wc J hc
    have j20 : jrg 20 (i32 c) = some c := jrg_i32 (by omega) (by decide)
    by_cases h19 : S.1 19 c = 0
    · have c19 : cgA C (A 1 c) 1 9 = some none := by rw [rc_holder hr, h19]; rfl
      have m19 : T.1 19 c = -1 := by rw [jj_M J 19 (by decide), h19]; exact im_zero
      have m20 := jj_N J 20 (by decide) c
      have m17 := jj_N J 17 (by decide) c
      have h20 := wc.1.2.1
      have h17 := wc.1.1
      by_cases h3 : S.1 20 c = 3
      · refine same ?_ ?_
        · unfold c_B_loop
          rw [ho, jgd_true, e2, obd_some, jon_some, c19, obd_some, jon_none, rc_loopCount hr, obd_some, h3, if_neg (by decide)]
        · unfold h_R_loop
          rw [e1, obd_some, if_pos rfl, j20, obd_some, if_pos m19, obd_some, m20, h3, if_pos (by rfl)]
      · have p3 : i32 (S.1 20 c) < 3 := (i32_lt (b := 3) (by omega) (by decide)).mpr (by omega)
        have q3 : ¬ i32 (S.1 20 c) = 3 := i32_ne (b := 3) (by omega) (by decide) h3
        by_cases c1 : v2 < 0
        · refine same ?_ ?_
          · unfold c_B_loop
            rw [ho, jgd_true, e2, obd_some, jon_some, c19, obd_some, jon_none, rc_loopCount hr, obd_some, if_pos p3, if_pos c1]
          · unfold h_R_loop
            rw [e1, obd_some, if_pos rfl, j20, obd_some, if_pos m19, obd_some, m20, if_neg q3, if_pos c1]
        · by_cases c2 : v3 < v2
          · refine same ?_ ?_
            · unfold c_B_loop
              rw [ho, jgd_true, e2, obd_some, jon_some, c19, obd_some, jon_none, rc_loopCount hr, obd_some, if_pos p3, if_neg c1, if_pos c2]
            · unfold h_R_loop
              rw [e1, obd_some, if_pos rfl, j20, obd_some, if_pos m19, obd_some, m20, if_neg q3, if_neg c1, if_pos c2]
          · by_cases c3 : i32 (S.1 17 c) ≤ v3
            · refine same ?_ ?_
              · unfold c_B_loop
                rw [ho, jgd_true, e2, obd_some, jon_some, c19, obd_some, jon_none, rc_loopCount hr, obd_some, if_pos p3, if_neg c1, if_neg c2, rc_size hr, obd_some, if_pos c3]
              · unfold h_R_loop
                rw [e1, obd_some, if_pos rfl, j20, obd_some, if_pos m19, obd_some, m20, if_neg q3, if_neg c1, if_neg c2, obd_some, m17, if_pos c3]
            · -- the range is one of the chain's
              obtain ⟨f, hf2, rfl⟩ : ∃ f, f < 2 ^ 31 ∧ v2 = i32 f := (i32_or v2).resolve_left c1
              have z0 : (0 : Int32).toInt = 0 := rfl
              have c4 : ¬ v3 < 0 := fun q => by
                rw [Int32.lt_iff_toInt_lt] at q c2
                rw [i32_toInt hf2] at c2
                omega
              obtain ⟨t, ht2, rfl⟩ : ∃ t, t < 2 ^ 31 ∧ v3 = i32 t := (i32_or v3).resolve_left c4
              have hft : f ≤ t := by rw [i32_lt ht2 hf2] at c2; omega
              have ht : t < S.1 17 c := by rw [i32_le (by omega) ht2] at c3; omega
              by_cases c5 : g_R_in v4 1 64 = true
              · have b4 := in_true c5
                rw [show (1 : Int32).toInt = 1 from rfl, show (64 : Int32).toInt = 64 from rfl] at b4
                have c6 : ¬ v4 < 1 := fun q => by rw [Int32.lt_iff_toInt_lt, show (1 : Int32).toInt = 1 from rfl] at q; omega
                have c7 : ¬ (64 : Int32) < v4 := fun q => by rw [Int32.lt_iff_toInt_lt, show (64 : Int32).toInt = 64 from rfl] at q; omega
                obtain ⟨ln, hln, rfl⟩ : ∃ ln, ln < 2 ^ 31 ∧ v4 = i32 ln := (i32_or v4).resolve_left (fun q => by rw [Int32.lt_iff_toInt_lt] at q; omega)
                rw [i32_toInt hln] at b4
                have cpre := changes_all J hc hN hft ht
                have hpre : h_R_loop N (i32 c) (i32 f) (i32 t) (i32 ln) v5 T = if anyR (rtf S c) f (t + 1 - f) = true then some (-1, T) else fin63 N c (i32 f) (i32 t) (i32 ln) v5 T := by
                  unfold h_R_loop
                  rw [e1, obd_some, if_pos rfl, j20, obd_some, if_pos m19, obd_some, m20, if_neg q3, if_neg c1, if_neg c2, obd_some, m17, if_neg c3, if_pos c5]
                  exact loop63_go J hc ht (t + 1 - f) N f (by omega) (by omega)
                cases hany : anyR (rtf S c) f (t + 1 - f) with
                | true =>
                  refine same ?_ (by rw [hpre, hany, if_pos rfl])
                  unfold c_B_loop
                  rw [ho, jgd_true, e2, obd_some, jon_some, c19, obd_some, jon_none, rc_loopCount hr, obd_some, if_pos p3, if_neg c1, if_neg c2, rc_size hr, obd_some, if_neg c3, if_neg c6, if_neg c7, cob_of (rc_tag hr), jgd_true, cpre, hany, obd_some, if_pos rfl]
                | false =>
                  rw [hany, if_neg (by decide)] at hpre
                  obtain ⟨so1, so2⟩ := sort_of J hc
                  rw [if_neg (by omega)] at so1 so2
                  have hcs : cso S c < 3 := by
                    have := places_lt J hc (p := 0) (by omega)
                    exact (jj_ws J this).1.2.1
                  have hsome := numbersOf_some hb hcs
                  have hh := nums_holds hb hcs v5
                  by_cases hhold : hold (cso S c) v5
                  · have hrate := anyR_iff.mp hany
                    obtain ⟨T1, u1, J1⟩ := jj_loop J hfar hdead hc (by omega) hft ht (by omega) (by omega) (clean_vb hhold) (fun p h1 h2 => hrate p h1 (by omega)) hN (ln := ln)
                    have hag : ∀ a, a < (ck C).1 → Ag C (cfr C 5 0 4) a := fun a ha => (agr_fr (Nat.le_refl _)).ag ha
                    have hlt : ∀ a, C.1 a ≠ 0 → a < (ck C).1 := fun a ha => (J.1.1.2.1 a ha).2
                    have hb13 : RCb S A (cfr C 5 0 4) bx := by
                      have gx := hag bx (hlt _ (by rw [hb.1.1]; decide))
                      have gA : ∀ i, i < 4 → Ag C (cfr C 5 0 4) (A 3 i) := fun i hi => hag _ (hlt _ (va_tag J (show VA S 3 i from hi) (by decide)))
                      refine RCb_of hb gx.1 (fun _ _ => rfl) hb.2.1.1 hb.2.1.2.1 hb.2.1.2.2 (fun _ => rfl) (fun _ => rfl) rfl (fun i hi => hag _ (hlt _ (va_tag J (show VA S 5 i from hi) (by decide)))) (fun i hi => ⟨(gA i hi).1, (gA i hi).2.1⟩) (hag _ (hlt _ (va_tag J (show VA S 2 0 from rfl) (by decide)))).1 hb.2.2.2.1.2.2 hb.2.2.2.2.1.2.2 hb.2.2.2.2.2.1.2.2
                    have hcl := nums_clean hb13 hcs v5
                    refine ⟨i32 (S.1 20 c + 1), _, T1, ?_, ?_, _, _, J1⟩
                    · unfold c_B_loop
                      rw [ho, jgd_true, e2, obd_some, jon_some, c19, obd_some, jon_none, rc_loopCount hr, obd_some, if_pos p3, if_neg c1, if_neg c2, rc_size hr, obd_some, if_neg c3, if_neg c6, if_neg c7, cob_of (rc_tag hr), jgd_true, cpre, hany, obd_some, if_neg (by decide), jgd_true, so1, obd_some, jgd_true, hsome, obd_some, jon_some, hh.1 hhold, obd_some, if_pos rfl]
                      unfold cnew
                      dsimp only
                      rw [show cfr C (4 + 1) 0 (jnfl 4) = cfr C 5 0 4 from rfl, hcl, obd_some, linit_of (by omega), obd_some]
                      have l1 : A 1 c < (ck C).1 := hlt _ (by rw [hr.1.1]; decide)
                      rw [cob_of (ci := 1) (by rw [(lpC_agr.ag l1).1]; exact hr.1.1), jgd_true, tie_of J hc (by omega), obd_some]
                      have := rc_loopCount (jj_c J1 (c := c) (by rw [lpS_k (k := 16) (by decide)]; exact hc))
                      rw [lpS_20c, lpA_t (by decide)] at this
                      rw [this, obd_some]
                    · rw [hpre]
                      unfold fin63
                      rw [so2, obd_some, if_pos ((isValue_hold v5 hcs).mpr hhold), obd_some, valueOf_clean hcs hhold, obd_some, u1, tbd2_some]
                  · refine same ?_ ?_
                    · unfold c_B_loop
                      rw [ho, jgd_true, e2, obd_some, jon_some, c19, obd_some, jon_none, rc_loopCount hr, obd_some, if_pos p3, if_neg c1, if_neg c2, rc_size hr, obd_some, if_neg c3, if_neg c6, if_neg c7, cob_of (rc_tag hr), jgd_true, cpre, hany, obd_some, if_neg (by decide), jgd_true, so1, obd_some, jgd_true, hsome, obd_some, jon_some, hh.2 hhold, obd_some, if_neg (by decide)]
                    · rw [hpre]
                      unfold fin63
                      rw [so2, obd_some, if_neg (fun q => hhold ((isValue_hold v5 hcs).mp q))]
              · refine same ?_ ?_
                · unfold c_B_loop
                  rw [ho, jgd_true, e2, obd_some, jon_some, c19, obd_some, jon_none, rc_loopCount hr, obd_some, if_pos p3, if_neg c1, if_neg c2, rc_size hr, obd_some, if_neg c3]
                  unfold g_R_in at c5
                  by_cases c6 : v4 < 1
                  · rw [if_pos c6]
                  · rw [if_neg c6] at c5 ⊢
                    by_cases c7 : (64 : Int32) < v4
                    · rw [if_pos c7]
                    · rw [if_neg c7] at c5; exact absurd rfl c5
                · unfold h_R_loop
                  rw [e1, obd_some, if_pos rfl, j20, obd_some, if_pos m19, obd_some, m20, if_neg q3, if_neg c1, if_neg c2, obd_some, m17, if_neg c3, if_neg c5]
    · obtain ⟨x, hx⟩ := Nat.exists_eq_succ_of_ne_zero h19
      refine same ?_ ?_
      · unfold c_B_loop
        rw [ho, jgd_true, e2, obd_some, jon_some, rc_holder hr, hx, obd_some]
        rfl
      · unfold h_R_loop
        rw [e1, obd_some, if_pos rfl, j20, obd_some, jj_M J 19 (by decide), if_neg (fun q => h19 ((im_neg (by have := (wc.2.2.1 x hx).1; omega)).mp q))]
  · refine same ?_ ?_
    · unfold c_B_loop
      rw [ho, jgd_true, e2, obd_some, jon_none]
    · unfold h_R_loop
      rw [e1, obd_some, if_neg (by decide)]
end SIMLOOP2
