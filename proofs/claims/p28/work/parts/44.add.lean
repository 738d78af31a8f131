section ADD
variable {G : GT} {E B bx m : Nat} {ad : Nat → Nat} {S : ST} {A : AT} {C : CT} {T : MT} {c s : Nat}
theorem spread_in : ∀ kd, kd < 16 → g_R_in (i32 kd) 13 14 = spread kd := by decide
theorem spreads_of (J : JJ G E B bx m ad S A C T) (hs : s < S.1 1 0) : c_Section_spreads (A 7 s) C = some (spread (S.1 2 s)) := by
  have hk := (jj_ws J hs).1.1
  unfold c_Section_spreads c_Section_spreads_18
  rw [rs_kind (jj_s J hs), obd_some]
  have : ∀ kd, kd < 16 → (if i32 kd = 13 then some true else if i32 kd = 14 then some true else some false) = some (spread kd) := by decide
  exact this _ hk
def spf (S : ST) (c p : Nat) : Bool := spread (S.1 2 (S.1 18 (10 * c + p)))
theorem cnt_le {f : Nat → Bool} : ∀ n, cnt f n ≤ n
  | 0 => Nat.le_refl _
  | n + 1 => by
    have := cnt_le (f := f) n
    show cnt f n + (if f n then 1 else 0) ≤ n + 1
    split <;> omega
theorem spreaders_go (J : JJ G E B bx m ad S A C T) (hc : c < S.1 16 0) {N : Nat} : ∀ (q n p : Nat), p + q = S.1 17 c → q < n → c_Chain_spreaders_4 N n (A 1 c) (i32 (cnt (spf S c) p)) (i32 p) C = some (i32 (cnt (spf S c) (S.1 17 c)))
  | 0, 0, _, _, h => absurd h (by omega)
  | 0, n + 1, p, hp, _ => by
    have : p = S.1 17 c := by omega
    subst this
    have h10 := (jj_wc J hc).1.1
    unfold c_Chain_spreaders_4
    rw [rc_size (jj_c J hc), obd_some, if_pos (Int32.le_refl _)]
  | q + 1, 0, _, _, h => absurd h (by omega)
  | q + 1, n + 1, p, hp, hn => by
    have h10 := (jj_wc J hc).1.1
    have hm := places_lt J hc (p := p) (by omega)
    have ih := spreaders_go J hc (N := N) q n (p + 1) (by omega) (by omega)
    have e : ∀ b : Bool, b = spf S c p → i32 (cnt (spf S c) p) + jb b = i32 (cnt (spf S c) (p + 1)) := fun b hb => by
      show _ = i32 (cnt (spf S c) p + (if spf S c p then 1 else 0))
      rw [← hb]
      cases b with
      | true => exact i32_add _ 1
      | false => exact i32_add _ 0
    unfold c_Chain_spreaders_4
    rw [rc_size (jj_c J hc), obd_some, if_neg (by rw [i32_le (by omega) (by omega)]; omega), cob_of (rc_tag (jj_c J hc)), jgd_true, member_of J hc (by omega), if_pos (by omega), obd_some, jon_some, cob_of (rs_tag (jj_s J hm)), jgd_true, spreads_of J hm, obd_some]
    unfold c_Chain_spreaders_34 c_Chain_spreaders_35
    rw [show i32 p + 1 = i32 (p + 1) from i32_add p 1]
    cases hb : spread (S.1 2 (S.1 18 (10 * c + p))) with
    | true => rw [if_pos rfl, e true hb.symm]; exact ih
    | false => rw [if_neg (by decide), e false hb.symm]; exact ih
theorem countOf_go (J : JJ G E B bx m ad S A C T) (hc : c < S.1 16 0) {N : Nat} : ∀ (q n p : Nat), p + q = S.1 17 c → q < n → h_R_countOf_6 N n (i32 c) 13 14 (i32 (cnt (spf S c) p)) (i32 p) T = some (i32 (cnt (spf S c) (S.1 17 c)))
  | 0, 0, _, _, h => absurd h (by omega)
  | 0, n + 1, p, hp, _ => by
    have : p = S.1 17 c := by omega
    subst this
    have hn := (jj_n J).2.1
    unfold h_R_countOf_6
    rw [jrg_i32 (by omega) (by decide), obd_some, jj_N J 17 (by decide), if_pos (Int32.le_refl _)]
  | q + 1, 0, _, _, h => absurd h (by omega)
  | q + 1, n + 1, p, hp, hn => by
    have h10 := (jj_wc J hc).1.1
    have hm := places_lt J hc (p := p) (by omega)
    have hns := jj_n J
    have ih := countOf_go J hc (N := N) q n (p + 1) (by omega) (by omega)
    unfold h_R_countOf_6
    rw [jrg_i32 (by omega) (by decide), obd_some, jj_N J 17 (by decide), if_neg (by rw [i32_le (by omega) (by omega)]; omega), show (10 : Int32) * i32 c + i32 p = i32 (10 * c + p) from by rw [show (10 : Int32) = i32 10 from rfl, i32_mul, i32_add], jrg_i32 (by omega) (by decide), obd_some, jj_N J 18 (by decide), jrg_i32 (by omega) (by decide), obd_some, jj_N J 2 (by decide), spread_in _ (jj_ws J hm).1.1]
    unfold h_R_countOf_45
    rw [show i32 p + 1 = i32 (p + 1) from i32_add p 1]
    have e : i32 (cnt (spf S c) (p + 1)) = i32 (cnt (spf S c) p + (if spf S c p then 1 else 0)) := rfl
    cases hb : spread (S.1 2 (S.1 18 (10 * c + p))) with
    | true =>
      rw [if_pos rfl, show i32 (cnt (spf S c) p) + 1 = i32 (cnt (spf S c) (p + 1)) from by
        rw [e, show spf S c p = true from hb]; exact i32_add _ 1]
      exact ih
    | false =>
      rw [if_neg (by decide), show i32 (cnt (spf S c) p) = i32 (cnt (spf S c) (p + 1)) from by
        rw [e, show spf S c p = false from hb]; rfl]
      exact ih
theorem im_neg {n : Nat} (h : n < 2 ^ 31) : im n = -1 ↔ n = 0 := by
  cases n with
  | zero => exact ⟨fun _ => rfl, fun _ => im_zero⟩
  | succ n =>
    rw [im_succ]
    refine ⟨fun q => ?_, fun q => by cases q⟩
    have := congrArg Int32.toInt q
    rw [i32_toInt (by omega)] at this
    have h1 : (-1 : Int32).toInt = -1 := rfl
    omega
theorem sim_add {N M : Nat} (hN : 100 ≤ N) : ls_5 N M bx (II G E B bx m ad) (II G E B bx m ad) := by
  rintro C T v1 v2 ⟨S, A, J⟩
  have hb := jj_b J
  have hn := jj_n J
  have ho : cob C bx 0 = true := cob_of (rb_tag hb)
  have same : c_B_add N bx v1 v2 C = some (-1, C) → h_R_add N v1 v2 T = some (-1, T) → ∃ r C1 T1, c_B_add N bx v1 v2 C = some (r, C1) ∧ h_R_add N v1 v2 T = some (r, T1) ∧ II G E B bx m ad C1 T1 := fun a b => ⟨-1, C, T, a, b, S, A, J⟩
  rcases ch_or J v1 with ⟨c, hc, rfl, e1, e2⟩ | ⟨e1, e2⟩
  · have hr := jj_c J hc
    have wc := jj_wc J hc
    rcases sec_or J v2 with ⟨s, hs, rfl, e3, e4⟩ | ⟨e3, e4⟩
    · have hsr := jj_s J hs
      have ws := jj_ws J hs
      have j60 : jrg 60 (i32 s) = some s := jrg_i32 (by omega) (by decide)
      have j20 : jrg 20 (i32 c) = some c := jrg_i32 (by omega) (by decide)
      by_cases h8 : S.1 8 s = 0
      · have c8 : cgA C (A 7 s) 7 12 = some none := by rw [rs_home hsr, h8]; rfl
        by_cases h19 : S.1 19 c = 0
        · have c19 : cgA C (A 1 c) 1 9 = some none := by rw [rc_holder hr, h19]; rfl
          have m8 : T.1 8 s = -1 := by rw [jj_M J 8 (by decide), h8]; exact im_zero
          have m19 : T.1 19 c = -1 := by rw [jj_M J 19 (by decide), h19]; exact im_zero
          by_cases h10 : S.1 17 c = 10
          · refine same ?_ ?_
            · unfold c_B_add
              rw [ho, jgd_true, e2, obd_some, jgd_true, e4, obd_some, jon_some, jon_some, c8, obd_some, jon_none, c19, obd_some, jon_none, rc_size hr, obd_some, h10, if_pos (by decide)]
            · unfold h_R_add
              rw [e1, obd_some, if_pos rfl, e3, obd_some, if_pos rfl, j60, obd_some, if_pos m8, j20, obd_some, if_pos m19, obd_some, jj_N J 17 (by decide), h10, if_pos (by rfl)]
          · have hlt : S.1 17 c < 10 := by have := wc.1.1; omega
            obtain ⟨so1, so2⟩ := sort_of J hc
            -- what both come to once the sort is right
            have fin : (S.1 17 c ≠ 0 → S.1 3 s = cso S c) → ∃ r C1 T1, c_B_add_69 N (A 1 c) (A 7 s) C = some (r, C1) ∧ h_R_add_74 N (i32 c) (i32 s) T = some (r, T1) ∧ II G E B bx m ad C1 T1 := by
              intro hso
              have sp : c_Chain_spreaders N (A 1 c) C = some (i32 (cnt (spf S c) (S.1 17 c))) := spreaders_go J hc (N := N) (S.1 17 c) N 0 (by omega) (by omega)
              have co : h_R_countOf N (i32 c) 13 14 T = some (i32 (cnt (spf S c) (S.1 17 c))) := countOf_go J hc (N := N) (S.1 17 c) N 0 (by omega) (by omega)
              have c2 : cnt (spf S c) (S.1 17 c) ≤ 2 := wc.1.2.2
              have yes : (spread (S.1 2 s) = true → cnt (spf S c) (S.1 17 c) < 2) → ∃ r C1 T1, c_B_add_87 N (A 1 c) (A 7 s) C = some (r, C1) ∧ h_R_add_105 N (i32 c) (i32 s) T = some (r, T1) ∧ II G E B bx m ad C1 T1 := by
                intro hsp
                obtain ⟨T1, u1, J1⟩ := jj_join J hc hs hlt h8 h19 hso hsp
                refine ⟨i32 (S.1 17 c), _, T1, ?_, ?_, _, _, J1⟩
                · unfold c_B_add_87
                  rw [cob_of (rc_tag hr), jgd_true, join_of J hc hs hlt, obd_some]
                  have := rs_place (jj_s J1 (s := s) (by rw [jnS_k (k := 1) (by decide)]; exact hs))
                  rw [jnS_9s, im_succ] at this
                  rw [this, obd_some]
                · unfold h_R_add_105
                  rw [u1, tbd2_some]
              cases hsp : spread (S.1 2 s) with
              | true =>
                by_cases q2 : cnt (spf S c) (S.1 17 c) < 2
                · obtain ⟨r, C1, T1, u1, u2, u3⟩ := yes (fun _ => q2)
                  refine ⟨r, C1, T1, ?_, ?_, u3⟩
                  · unfold c_B_add_69
                    rw [cob_of (rs_tag hsr), jgd_true, spreads_of J hs, obd_some, if_pos hsp, cob_of (rc_tag hr), jgd_true, sp, obd_some, if_pos (by rw [show (2 : Int32) = i32 2 from rfl, i32_lt (by omega) (by decide)]; exact q2)]
                    exact u1
                  · unfold h_R_add_74
                    rw [j60, obd_some, jj_N J 2 (by decide), spread_in _ ws.1.1, if_pos hsp, co, obd_some, if_neg (show ¬ i32 (cnt (spf S c) (S.1 17 c)) = 2 from i32_ne (b := 2) (by omega) (by decide) (by omega))]
                    exact u2
                · refine ⟨-1, C, T, ?_, ?_, S, A, J⟩
                  · unfold c_B_add_69
                    rw [cob_of (rs_tag hsr), jgd_true, spreads_of J hs, obd_some, if_pos hsp, cob_of (rc_tag hr), jgd_true, sp, obd_some, if_neg (by rw [show (2 : Int32) = i32 2 from rfl, i32_lt (by omega) (by decide)]; exact q2)]
                  · unfold h_R_add_74
                    rw [j60, obd_some, jj_N J 2 (by decide), spread_in _ ws.1.1, if_pos hsp, co, obd_some, show cnt (spf S c) (S.1 17 c) = 2 by omega, if_pos (by rfl)]
              | false =>
                obtain ⟨r, C1, T1, u1, u2, u3⟩ := yes (fun q => by rw [hsp] at q; cases q)
                refine ⟨r, C1, T1, ?_, ?_, u3⟩
                · unfold c_B_add_69
                  rw [cob_of (rs_tag hsr), jgd_true, spreads_of J hs, obd_some, if_neg (by rw [hsp]; decide)]
                  exact u1
                · unfold h_R_add_74
                  rw [j60, obd_some, jj_N J 2 (by decide), spread_in _ ws.1.1, if_neg (by rw [hsp]; decide)]
                  exact u2
            have n10 : ¬ (10 : Int32) ≤ i32 (S.1 17 c) := by rw [show (10 : Int32) = i32 10 from rfl, i32_le (by decide) (by omega)]; omega
            have m10 : ¬ i32 (S.1 17 c) = 10 := i32_ne (b := 10) (by omega) (by decide) h10
            by_cases h0 : S.1 17 c = 0
            · obtain ⟨r, C1, T1, u1, u2, u3⟩ := fin (fun q => absurd h0 q)
              refine ⟨r, C1, T1, ?_, ?_, u3⟩
              · unfold c_B_add
                rw [ho, jgd_true, e2, obd_some, jgd_true, e4, obd_some, jon_some, jon_some, c8, obd_some, jon_none, c19, obd_some, jon_none, rc_size hr, obd_some, if_neg n10, obd_some, h0, if_pos (by decide)]
                exact u1
              · unfold h_R_add
                rw [e1, obd_some, if_pos rfl, e3, obd_some, if_pos rfl, j60, obd_some, if_pos m8, j20, obd_some, if_pos m19, obd_some, jj_N J 17 (by decide), if_neg m10, obd_some, jj_N J 17 (by decide), h0, if_pos (by decide)]
                exact u2
            · have p0 : ¬ i32 (S.1 17 c) ≤ 0 := by rw [show (0 : Int32) = i32 0 from rfl, i32_le (by omega) (by decide)]; omega
              rw [if_neg h0] at so1 so2
              have hcs : cso S c < 3 := by
                have := places_lt J hc (p := 0) (by omega)
                exact (jj_ws J this).1.2.1
              by_cases hso : S.1 3 s = cso S c
              · obtain ⟨r, C1, T1, u1, u2, u3⟩ := fin (fun _ => hso)
                refine ⟨r, C1, T1, ?_, ?_, u3⟩
                · unfold c_B_add
                  rw [ho, jgd_true, e2, obd_some, jgd_true, e4, obd_some, jon_some, jon_some, c8, obd_some, jon_none, c19, obd_some, jon_none, rc_size hr, obd_some, if_neg n10, obd_some, if_neg p0, cob_of (rc_tag hr), jgd_true, so1, obd_some, rs_sort hsr, obd_some, if_pos (by rw [hso])]
                  exact u1
                · unfold h_R_add
                  rw [e1, obd_some, if_pos rfl, e3, obd_some, if_pos rfl, j60, obd_some, if_pos m8, j20, obd_some, if_pos m19, obd_some, jj_N J 17 (by decide), if_neg m10, obd_some, jj_N J 17 (by decide), if_neg p0, obd_some, so2, obd_some, jj_N J 3 (by decide), if_pos (by rw [hso])]
                  exact u2
              · have hne : ¬ i32 (cso S c) = i32 (S.1 3 s) := i32_ne (by omega) (by have := ws.1.2.1; omega) (fun q => hso q.symm)
                refine same ?_ ?_
                · unfold c_B_add
                  rw [ho, jgd_true, e2, obd_some, jgd_true, e4, obd_some, jon_some, jon_some, c8, obd_some, jon_none, c19, obd_some, jon_none, rc_size hr, obd_some, if_neg n10, obd_some, if_neg p0, cob_of (rc_tag hr), jgd_true, so1, obd_some, rs_sort hsr, obd_some, if_neg hne]
                · unfold h_R_add
                  rw [e1, obd_some, if_pos rfl, e3, obd_some, if_pos rfl, j60, obd_some, if_pos m8, j20, obd_some, if_pos m19, obd_some, jj_N J 17 (by decide), if_neg m10, obd_some, jj_N J 17 (by decide), if_neg p0, obd_some, so2, obd_some, jj_N J 3 (by decide), if_neg (fun q => hne q.symm)]
        · obtain ⟨x, hx⟩ := Nat.exists_eq_succ_of_ne_zero h19
          refine same ?_ ?_
          · unfold c_B_add
            rw [ho, jgd_true, e2, obd_some, jgd_true, e4, obd_some, jon_some, jon_some, c8, obd_some, jon_none, rc_holder hr, hx, obd_some]
            rfl
          · unfold h_R_add
            rw [e1, obd_some, if_pos rfl, e3, obd_some, if_pos rfl, j60, obd_some, if_pos (by rw [jj_M J 8 (by decide), h8]; exact im_zero), j20, obd_some, jj_M J 19 (by decide), if_neg (fun q => h19 ((im_neg (by have := (wc.2.2.1 x hx).1; omega)).mp q))]
      · obtain ⟨x, hx⟩ := Nat.exists_eq_succ_of_ne_zero h8
        refine same ?_ ?_
        · unfold c_B_add
          rw [ho, jgd_true, e2, obd_some, jgd_true, e4, obd_some, jon_some, jon_some, rs_home hsr, hx, obd_some]
          rfl
        · unfold h_R_add
          rw [e1, obd_some, if_pos rfl, e3, obd_some, if_pos rfl, j60, obd_some, jj_M J 8 (by decide), if_neg (fun q => h8 ((im_neg (by have := (ws.2.2.2.2.1 x hx).1; omega)).mp q))]
    · refine same ?_ ?_
      · unfold c_B_add
        rw [ho, jgd_true, e2, obd_some, jgd_true, e4, obd_some, jon_some, jon_none]
      · unfold h_R_add
        rw [e1, obd_some, if_pos rfl, e3, obd_some, if_neg (by decide)]
  · have hx : ∃ o, c_B_sectionAt bx v2 C = some o := by
      rcases sec_or J v2 with ⟨s, hs, rfl, e3, e4⟩ | ⟨e3, e4⟩
      · exact ⟨_, e4⟩
      · exact ⟨_, e4⟩
    obtain ⟨o, hx⟩ := hx
    refine same ?_ ?_
    · unfold c_B_add
      rw [ho, jgd_true, e2, obd_some, jgd_true, hx, obd_some, jon_none]
    · unfold h_R_add
      rw [e1, obd_some, if_neg (by decide)]
end ADD
