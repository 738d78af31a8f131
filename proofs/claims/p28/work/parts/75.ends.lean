/-! loops fed, outputs, a DOWN at work -/
section ENDS
variable {G : GT} {E B bx m s c l p : Nat} {ad : Nat → Nat} {S : ST} {A : AT} {C : CT} {T : MT} {x v : Int64}
/-- what a section made goes into the loops that start there -/
theorem note_ref {N : Nat} : ∀ (q n n' i : Nat) (S : ST) (C : CT) (T : MT), JJ G E B bx m ad S A C T → c < S.1 16 0 → p < 2 ^ 30 → S.1 20 c = i + q → q < n → q < n' → T.1 39 0 = i32 c → T.1 40 0 = i32 p → T.2.2.1 41 0 = dv (cso S c) v → vb (cso S c) v →
    ∃ S' C' T', c_Chain_note_3 N n (A 1 c) (i32 p) v (i32 i) C = some C' ∧ h_R_leaves_7 N n' (i32 (3 * c + i)) T = some T' ∧ JJ G E B bx m ad S' A C' T' ∧ T'.1 40 0 = i32 (p + 1) ∧ T'.2.2.1 41 0 = dv (cso S c) v ∧ Dy S S' ∧ S'.1 28 = S.1 28 ∧ Fr T T'
  | 0, n, n', i, S, C, T, J, hc, hp, hq, hn, hn', h39, h40, h41, hv => by
    obtain ⟨n, rfl⟩ : ∃ k, n = k + 1 := ⟨n - 1, by omega⟩
    obtain ⟨n', rfl⟩ : ∃ k, n' = k + 1 := ⟨n' - 1, by omega⟩
    have h3 : S.1 20 c ≤ 3 := (jj_wc J hc).1.2.1
    have c20 : c < 20 := by have := (jj_n J).2.1; omega
    have e20 : T.1 20 c = i32 (S.1 20 c) := jj_N J 20 (by decide) _
    refine ⟨S, C, tsI T 40 0 (i32 (p + 1)), ?_, ?_, jj_T J (rt_Fg (jj_rt J) (fg_I (by decide))), by simp [tsI, up2], h41, Dy.refl S, rfl, fr_I (by decide)⟩
    · show obd (cgI C (A 1 c) 1 4) _ = _
      rw [rc_loopCount (jj_c J hc), obd_some, if_pos (by rw [i32_le (by omega) (by omega)]; omega)]
    · show obd (jrg 20 (T.1 39 0)) _ = _
      rw [h39, jrg_i32 c20 (by decide), obd_some, e20, show (3 : Int32) * i32 c + i32 (S.1 20 c) = i32 (3 * c + S.1 20 c) from by rw [show (3 : Int32) = i32 3 from rfl, i32_mul, i32_add], if_pos (by rw [i32_le (by omega) (by omega)]; omega), h40, show i32 p + 1 = i32 (p + 1) from i32_add p 1]
      rfl
  | q + 1, n, n', i, S, C, T, J, hc, hp, hq, hn, hn', h39, h40, h41, hv => by
    obtain ⟨n, rfl⟩ : ∃ k, n = k + 1 := ⟨n - 1, by omega⟩
    obtain ⟨n', rfl⟩ : ∃ k, n' = k + 1 := ⟨n' - 1, by omega⟩
    have hi : i < S.1 20 c := by omega
    obtain ⟨hr, hw, h26, h71, h64, c20, i3⟩ := lop_r J hc hi
    have h20 : S.1 20 c ≤ 3 := (jj_wc J hc).1.2.1
    have h17 : S.1 17 c ≤ 10 := (jj_wc J hc).1.1
    have e20 : T.1 20 c = i32 (S.1 20 c) := jj_N J 20 (by decide) _
    have e21 : T.1 21 (3 * c + i) = i32 (S.1 21 (3 * c + i)) := jj_N J 21 (by decide) _
    have e26 : T.1 26 (3 * c + i) = i32 (S.1 26 (3 * c + i)) := jj_N J 26 (by decide) _
    have e23 : T.1 23 (3 * c + i) = i32 (S.1 23 (3 * c + i)) := jj_N J 23 (by decide) _
    have j60 : jrg 60 (i32 (3 * c + i)) = some (3 * c + i) := jrg_i32 (by omega) (by decide)
    have j38 : jrg 3840 (i32 (64 * (3 * c + i) + S.1 26 (3 * c + i))) = some (64 * (3 * c + i) + S.1 26 (3 * c + i)) := jrg_i32 (by omega) (by decide)
    have e64 : (64 : Int32) * i32 (3 * c + i) + i32 (S.1 26 (3 * c + i)) = i32 (64 * (3 * c + i) + S.1 26 (3 * c + i)) := by rw [show (64 : Int32) = i32 64 from rfl, i32_mul, i32_add]
    have jr : jremI (i32 (S.1 26 (3 * c + i)) + 1) (i32 (S.1 23 (3 * c + i))) = some (i32 ((S.1 26 (3 * c + i) + 1) % S.1 23 (3 * c + i))) := by
      rw [show i32 (S.1 26 (3 * c + i)) + 1 = i32 (S.1 26 (3 * c + i) + 1) from i32_add _ 1, jrem_i32 (by omega) (by omega) (by omega)]
    have m1 : h_R_leaves_7 N (n' + 1) (i32 (3 * c + i)) T = if i32 (S.1 21 (3 * c + i)) = i32 p then h_R_leaves_7 N n' (i32 (3 * c + (i + 1))) (tsI (tsD T 25 (64 * (3 * c + i) + S.1 26 (3 * c + i)) (dv (cso S c) v)) 26 (3 * c + i) (i32 ((S.1 26 (3 * c + i) + 1) % S.1 23 (3 * c + i)))) else h_R_leaves_7 N n' (i32 (3 * c + (i + 1))) T := by
      show obd (jrg 20 (T.1 39 0)) _ = _
      have e26' : (tsD T 25 (64 * (3 * c + i) + S.1 26 (3 * c + i)) (dv (cso S c) v)).1 26 (3 * c + i) = i32 (S.1 26 (3 * c + i)) := e26
      have e23' : (tsD T 25 (64 * (3 * c + i) + S.1 26 (3 * c + i)) (dv (cso S c) v)).1 23 (3 * c + i) = i32 (S.1 23 (3 * c + i)) := e23
      rw [h39, jrg_i32 c20 (by decide), obd_some, e20, show (3 : Int32) * i32 c + i32 (S.1 20 c) = i32 (3 * c + S.1 20 c) from by rw [show (3 : Int32) = i32 3 from rfl, i32_mul, i32_add], if_neg (by rw [i32_le (by omega) (by omega)]; omega), j60, obd_some, e21, h40]
      simp only [obd_some, h_R_leaves_84, jlet, e26, e64, j38, h41, e26', e23', jr, show i32 (3 * c + i) + 1 = i32 (3 * c + (i + 1)) from i32_add _ 1]
    obtain ⟨u1, u2, u3⟩ := jj_lpush (v := v) J hc hi rfl hv
    have lp := loopAt_of J hc (show i < 2 ^ 31 by omega)
    rw [if_pos hi] at lp
    have hcr := jj_c J hc
    have c1 : c_Chain_note_3 N (n + 1) (A 1 c) (i32 p) v (i32 i) C = if i32 (S.1 21 (3 * c + i)) = i32 p then c_Chain_note_3 N n (A 1 c) (i32 p) v (i32 (i + 1)) (csI (csJ C 900 (A 68 (3 * c + i)) (S.1 71 (3 * c + i)) v) 97 (A 67 (3 * c + i)) 0 (i32 ((S.1 71 (3 * c + i) + 1) % S.1 23 (3 * c + i)))) else c_Chain_note_3 N n (A 1 c) (i32 p) v (i32 (i + 1)) C := by
      show obd (cgI C (A 1 c) 1 4) _ = _
      rw [rc_loopCount hcr, obd_some, if_neg (by rw [i32_le (by omega) (by omega)]; omega)]
      simp only [cob_of (ci := 1) (rc_tag hcr), jgd_true, lp, obd_some, jon, rl_to hr, rl_past hr, cob_of (ci := 6) hr.2.1, u1, c_Chain_note_43, show i32 i + 1 = i32 (i + 1) from i32_add i 1]
    by_cases g : i32 (S.1 21 (3 * c + i)) = i32 p
    · rw [if_pos g] at m1 c1
      have d := u2.dy
      have e28 : (plS S (3 * c + i) v).1 28 = S.1 28 := funext fun j => u2.1 28 j (fun q => by rcases q.1 with h | h <;> cases h)
      obtain ⟨S', C', T', w1, w2, w3, w4, w5, w6, w7, w8⟩ := note_ref q n n' (i + 1) _ _ _ u3 (by rw [d.1 16 (by decide)]; exact hc) hp (by rw [d.1 20 (by decide)]; omega) (by omega) (by omega) h39 h40 (by rw [dy_cso d]; exact h41) (by rw [dy_cso d]; exact hv)
      rw [dy_cso d] at w5
      exact ⟨S', C', T', by rw [c1, w1], by rw [m1, w2], w3, w4, w5, d.trans w6, w7.trans e28, Fr.trans ((fr_D (by decide)).trans (fr_I (by decide))) w8⟩
    · rw [if_neg g] at m1 c1
      obtain ⟨S', C', T', w1, w2, w3, w4, w5, w6, w7, w8⟩ := note_ref q n n' (i + 1) S C T J hc hp (by omega) (by omega) (by omega) h39 h40 h41 hv
      exact ⟨S', C', T', by rw [c1, w1], by rw [m1, w2], w3, w4, w5, w6, w7, w8⟩
theorem i32_low {n : Nat} (h : n < 2 ^ 31) : i32 n &&& 2147483647 = i32 n := by
  apply Int32.toInt_inj.mp
  have e : (i32 n).toUInt32.toNat = n := by
    show (BitVec.ofInt 32 (n : Int)).toNat = n
    rw [BitVec.toNat_ofInt]
    have : (n : Int) % ((2 ^ 32 : Nat) : Int) = n := Int.emod_eq_of_lt (by omega) (by omega)
    rw [this]; rfl
  rw [and31, i32_toInt h, e, Nat.mod_eq_of_lt h]
def emS (S : ST) (c : Nat) (v : Int64) : ST := uN (uJ S 27 (400 * c + S.1 28 c % 400) v) 28 c (S.1 28 c + 1)
def emC (S : ST) (A : AT) (C : CT) (c : Nat) (v : Int64) : CT := csI (csI (csI (csJ C 900 (A 21 c) (S.1 28 c % 400) v) 22 (A 1 c) 0 (i32 ((S.1 28 c + 1) % 400))) 23 (A 1 c) 0 (i32 (min (S.1 28 c + 1) 400))) 24 (A 1 c) 0 (i32 (S.1 28 c + 1))
theorem emit_cls (J : JJ G E B bx m ad S A C T) (hc : c < S.1 16 0) : c_Chain_emit (A 1 c) v C = some (emC S A C c v) := by
  have hr := jj_c J hc
  have h28 : S.1 28 c ≤ 4000000 := by have := (jj_wc J hc).2.2.2.2.2.2; omega
  have hm := Nat.mod_lt (S.1 28 c) (show 0 < 400 by decide)
  have ht := rc_tag hr
  have cl : cal C (A 21 c) = some (i32 400) := cal_of (by rw [hr.2.2.2.1.1]; decide) hr.2.2.2.1.2.1
  have cq := cqJ_of (v := v) hr.2.2.2.1.1 hr.2.2.2.1.2.1 hm (by decide)
  unfold c_Chain_emit
  rw [rc_next hr, obd_some, if_neg (i32_nonneg (by omega)), obd_some, rc_made hr, obd_some, obd_some, cl, obd_some, if_pos (by rw [i32_lt (by omega) (by decide)]; exact hm), obd_some, obd_some, obd_some, cq, obd_some]
  generalize hC9 : csJ C 900 (A 21 c) (S.1 28 c % 400) v = C9
  have t9 : C9.1 (A 1 c) = 1 + 1 := by rw [← hC9]; exact ht
  have n9 : cgI C9 (A 1 c) 1 6 = some (i32 (S.1 28 c % 400)) := by
    have h := rc_next hr
    rw [← hC9]; exact h
  have h9 : cgI C9 (A 1 c) 1 7 = some (i32 (min (S.1 28 c) 400)) := by
    have h := rc_held hr
    rw [← hC9]; exact h
  have o9 : cgI C9 (A 1 c) 1 8 = some (i32 (S.1 28 c)) := by
    have h := rc_total hr
    rw [← hC9]; exact h
  have m9 : cgA C9 (A 1 c) 1 5 = some (some (A 21 c)) := by
    have h := rc_made hr
    rw [← hC9]; exact h
  have l9 : cal C9 (A 21 c) = some (i32 400) := by rw [← hC9]; exact cl
  have tail : ∀ w : Int32, w = i32 ((S.1 28 c + 1) % 400) → c_Chain_emit_55 (A 1 c) w (A 1 c) C9 = some (emC S A C c v) := by
    intro w hw
    have f7 : cgI (csI C9 22 (A 1 c) 0 w) (A 1 c) 1 7 = some (i32 (min (S.1 28 c) 400)) := h9
    have f5 : cgA (csI C9 22 (A 1 c) 0 w) (A 1 c) 1 5 = some (some (A 21 c)) := m9
    have fl : cal (csI C9 22 (A 1 c) 0 w) (A 21 c) = some (i32 400) := l9
    have last : ∀ z : Int32, z = i32 (min (S.1 28 c + 1) 400) → c_Chain_emit_84 (A 1 c) z (A 1 c) (csI C9 22 (A 1 c) 0 w) = some (emC S A C c v) := by
      intro z hz
      have f8 : cgI (csI (csI C9 22 (A 1 c) 0 w) 23 (A 1 c) 0 z) (A 1 c) 1 8 = some (i32 (S.1 28 c)) := o9
      unfold c_Chain_emit_84
      rw [cpI_of (ci := 1) (k := 7) (show (csI C9 22 (A 1 c) 0 w).1 (A 1 c) = 1 + 1 from t9) (by decide) (by decide), obd_some]
      rw [f8, obd_some, cpI_of (ci := 1) (k := 8) (show (csI (csI C9 22 (A 1 c) 0 w) 23 (A 1 c) 0 z).1 (A 1 c) = 1 + 1 from t9) (by decide) (by decide), obd_some, show i32 (S.1 28 c) + 1 = i32 (S.1 28 c + 1) from i32_add _ 1, hw, hz, ← hC9]
      rfl
    unfold c_Chain_emit_55
    rw [cpI_of (ci := 1) (k := 6) t9 (by decide) (by decide), obd_some]
    rw [f7, obd_some, f5, obd_some, obd_some, fl, obd_some]
    by_cases g : 400 ≤ S.1 28 c
    · rw [if_pos (by rw [i32_le (by decide) (by omega)]; omega), obd_some, last _ (by congr 1; omega)]
    · rw [if_neg (by rw [i32_le (by decide) (by omega)]; omega), obd_some, last _ (by rw [show i32 (min (S.1 28 c) 400) + 1 = i32 (min (S.1 28 c) 400 + 1) from i32_add _ 1]; congr 1; omega)]
  rw [n9, obd_some, m9, obd_some, obd_some, l9, obd_some, show i32 (S.1 28 c % 400) + 1 = i32 (S.1 28 c % 400 + 1) from i32_add _ 1]
  by_cases g : S.1 28 c % 400 + 1 < 400
  · rw [if_pos (by rw [i32_lt (by omega) (by decide)]; exact g), obd_some]
    exact tail _ (by rw [show i32 (S.1 28 c % 400) + 1 = i32 (S.1 28 c % 400 + 1) from i32_add _ 1]; congr 1; omega)
  · rw [if_neg (by rw [i32_lt (by omega) (by decide)]; exact g)]
    exact tail _ (show i32 0 = _ by congr 1; omega)
theorem emS_28 : (emS S c v).1 28 c = S.1 28 c + 1 := up2_same _ _ _ _
theorem emS_27 {j : Nat} : (emS S c v).2.1 27 j = if j = 400 * c + S.1 28 c % 400 then v else S.2.1 27 j := by
  show up2 S.2.1 27 _ v 27 j = _
  simp [up2]
theorem jj_emit (J : JJ G E B bx m ad S A C T) (hc : c < S.1 16 0) (h17 : S.1 17 c ≠ 0) (hv : vb (cso S c) v) (hE : S.1 28 c + 1 ≤ min E 4000000) :
    Dyc S (emS S c v) c ∧ JJ G E B bx m ad (emS S c v) A (emC S A C c v) (tsI (tsD T 27 (400 * c + S.1 28 c % 400) (dv (cso S c) v)) 28 c (i32 (S.1 28 c + 1))) := by
  have hr := jj_c J hc
  have hw := jj_wc J hc
  have hm := Nat.mod_lt (S.1 28 c) (show 0 < 400 by decide)
  have dc : Dyc S (emS S c v) c := by
    refine ⟨fun k j h => ?_, fun k j h => ?_, rfl⟩
    · show up2 S.1 28 c _ k j = _
      unfold up2
      rw [if_neg (fun q => h ⟨q.1, q.2⟩)]
    · show up2 S.2.1 27 _ v k j = _
      unfold up2
      rw [if_neg (fun q => h ⟨q.1, by omega, by omega⟩)]
  have ecs : cso (emS S c v) = cso S := dy_cso dc.dy
  have n1 : A 1 c ≠ A 21 c := ax_t J.2.1 (show VA S 21 c from hc) (show VA S 1 c from hc) (Or.inl (by decide))
  refine ⟨dc, jj_out J hc dc ⟨rfl, rfl, fun k a j h => ?_, fun k a j h => ?_, rfl⟩ ⟨?_, ?_, ?_, fun j hj => ?_⟩ ⟨fun q => absurd ?_ h17, fun j hj => ?_, ?_⟩ ?_⟩
  · simp only [emC, csI, csJ, up3]
    rw [if_neg (fun q => h ⟨Or.inr (Or.inr q.1), q.2.1⟩), if_neg (fun q => h ⟨Or.inr (Or.inl q.1), q.2.1⟩), if_neg (fun q => h ⟨Or.inl q.1, q.2.1⟩)]
  · simp only [emC, csI, csJ, up3]
    rw [if_neg (fun q => h ⟨q.1, q.2.1⟩)]
  · rw [emS_28]; simp [emC, csI, up3]
  · rw [emS_28]; simp [emC, csI, up3]
  · rw [emS_28]; simp [emC, csI, up3]
  · rw [emS_27]
    show up3 C.2.2.2.1 900 (A 21 c) (S.1 28 c % 400) v 900 (A 21 c) j = _
    unfold up3
    by_cases g : j = S.1 28 c % 400
    · rw [if_pos ⟨rfl, rfl, g⟩, if_pos (by omega)]
    · rw [if_neg (fun q => g q.2.2), if_neg (by omega)]
      exact hr.2.2.2.1.2.2 j hj
  · rw [dc.1 17 c (fun q => absurd q.1 (by decide))] at q; exact q
  · rw [ecs, emS_27]
    split
    · exact hv
    · exact hw.2.2.2.2.2.1 j hj
  · rw [emS_28]; exact hE
  · have r1 := rt_uD (v := v) (jj_rt J) (k := 27) (j := 400 * c + S.1 28 c % 400) (so := cso S c) (Or.inr (Or.inr (Or.inr (Or.inr (Or.inl ⟨rfl, by rw [show (400 * c + S.1 28 c % 400) / 400 = c by omega]⟩)))))
    exact rt_uN r1 (by decide) (by decide) (by decide) (by decide)
/-- a DOWN lets one of so many through -/
theorem down_ref (J : JJ G E B bx m ad S A C T) (hs : s < S.1 1 0) (hk : S.1 2 s = 12) : ∃ S' C' T' b x3 x5, c_Section_letsThrough (A 7 s) C = some (b, C') ∧ h_R_st (i32 s) (0 : Int32) T = some x3 ∧ jremI (FP.d2i x3 + (1 : Int32)) (T.1 4 s) = some x5 ∧
    h_R_st_2 (i32 s) (0 : Int32) (FP.i2d x5) T = some T' ∧ (FP.d2i x3 ≤ 0 ↔ b = true) ∧ JJ G E B bx m ad S' A C' T' ∧ Dys S S' s ∧ Mf T T' := by
  have hr := jj_s J hs
  have hw := jj_ws J hs
  have w12 := (ws_of hw).2.2.2.2.2 hk
  have ln := hw.1.2.2.2.2 ⟨by omega, by omega⟩
  obtain ⟨l1, l2, l3⟩ := len_i32 (n := 8) (by omega) ln.2 (by decide)
  have l4 : 2 ≤ (S.2.2 4 s).toNatClampNeg := by
    have e : ((S.2.2 4 s).toNatClampNeg : Int) = (S.2.2 4 s).toInt := by
      show (((S.2.2 4 s).toInt.toNat : Nat) : Int) = _
      omega
    omega
  generalize hL : (S.2.2 4 s).toNatClampNeg = L at *
  have hs60 : s < 60 := by have := (jj_n J).1; omega
  have e4 : T.1 4 s = i32 L := by rw [jj_I J 4 (by decide), l1]
  obtain ⟨k, hkL, hx⟩ : ∃ k, k < L ∧ S.2.1 13 (64 * s) = j64 k := by
    obtain ⟨a, b⟩ := w12
    rw [l1, i32_j64 (by omega), Int64.lt_iff_toInt_lt, j64_toInt (by omega)] at b
    rw [Int64.le_iff_toInt_le] at a
    have z : (0 : Int64).toInt = 0 := rfl
    refine ⟨(S.2.1 13 (64 * s)).toInt.toNat, by omega, Int64.toInt_inj.mp ?_⟩
    rw [j64_toInt (by omega)]
    omega
  have evs : vso S s = 2 := if_pos hk
  have hrl : rln S s = 1 := by unfold rln; rw [hk]; rfl
  have hrg : ringy (S.1 2 s) = false := by rw [hk]; rfl
  have w3 := (ws_of hw).2.2.1 hrg
  have at0 : c_Row_at (A 118 s) (0 : Int32) C = some (j64 k) := by
    have h := at_flat (k := 0) J hs hrg (by omega)
    rw [Nat.add_zero, hx] at h; exact h
  have rs0 : h_R_st (i32 s) (0 : Int32) T = some (FP.l2d (j64 k)) := by
    have h := st_dv J hs (k := 0) (by decide)
    rw [evs, Nat.add_zero, hx] at h; exact h
  have d2 : FP.d2i (FP.l2d (j64 k)) = i32 k := by
    have : ∀ k, k < 8 → FP.d2i (FP.l2d (j64 k)) = i32 k := by decide +kernel
    exact this k (by omega)
  have i2 : ∀ j, j < 8 → FP.i2d (i32 j) = FP.l2d (j64 j) := fun j hj => by
    show UInt64.ofNat (FP.Core.fromInt _ (i32 j).toInt) = UInt64.ofNat (FP.Core.fromInt _ (j64 j).toInt)
    rw [i32_toInt (by omega), j64_toInt (by omega)]
  have hm := Nat.mod_lt (k + 1) (show 0 < L by omega)
  obtain ⟨u1, u2⟩ := jj_put (k := 0) (v := j64 ((k + 1) % L)) J hs (by omega) (by
    rw [evs]
    have : ∀ k, k < 8 → (-32768 : Int64) ≤ j64 k ∧ j64 k ≤ 32767 := by decide
    exact this _ (by omega)) (fun _ => by
    rw [l1, i32_j64 (by omega)]
    exact ⟨by rw [show (0 : Int64) = j64 0 from rfl, j64_le (by decide) (by omega)]; omega, by rw [j64_lt (by omega) (by omega)]; exact hm⟩)
  rw [w3.1, w3.2, hrl, evs] at u2
  rw [w3.2, hrl] at u1
  have h33 : ∀ w : Int64, w = j64 ((k + 1) % L) → c_Section_letsThrough_33 (j64 k) w (some (A 118 s)) C = some (decide (k = 0), csJ C 900 (A 96 s) ((0 + 0) % 1) (j64 ((k + 1) % L))) := by
    intro w hw
    unfold c_Section_letsThrough_33
    have u1 : c_Row_put (A 118 s) (0 : Int32) (j64 ((k + 1) % L)) C = some (csJ C 900 (A 96 s) ((0 + 0) % 1) (j64 ((k + 1) % L))) := u1
    rw [obd_some, cob_of (ci := 6) hr.2.2.2.1, jgd_true, hw, u1, obd_some]
    by_cases g : k = 0
    · rw [if_pos (by rw [g]; rfl), decide_eq_true g]
    · rw [if_neg (show ¬ j64 k = (0 : Int64) from fun q => g ((j64_inj (a := k) (b := 0) (by omega) (by decide)).mp q)), decide_eq_false g]
  refine ⟨_, _, _, decide (k = 0), FP.l2d (j64 k), i32 ((k + 1) % L), ?_, rs0, ?_, ?_, ?_, u2, ⟨fun _ _ _ => rfl, fun a b h1 h2 => ?_, fun _ _ _ => rfl⟩, mf_D (by decide)⟩
  · unfold c_Section_letsThrough
    rw [rs_states hr, obd_some, obd_some, cob_of (ci := 6) hr.2.2.2.1, jgd_true, at0, obd_some, obd_some, rs_length hr, obd_some, l1, i32_j64 (by omega), show j64 k + 1 = j64 (k + 1) from j64_add k 1]
    by_cases g : k + 1 < L
    · rw [if_pos (by rw [j64_lt (by omega) (by omega)]; exact g)]
      exact h33 _ (by rw [Nat.mod_eq_of_lt g])
    · rw [if_neg (by rw [j64_lt (by omega) (by omega)]; exact g)]
      exact h33 _ (by rw [show k + 1 = L by omega, Nat.mod_self]; rfl)
  · rw [d2, e4, show i32 k + 1 = i32 (k + 1) from i32_add k 1, jrem_i32 (by omega) (by omega) (by omega)]
  · unfold h_R_st_2
    rw [show (64 : Int32) * i32 s + 0 = i32 (64 * s + 0) from by rw [show (64 : Int32) = i32 64 from rfl, i32_mul]; exact i32_add _ 0, jrg_i32 (by omega) (by decide), obd_some, i2 _ (by omega)]
    rfl
  · rw [d2, show (0 : Int32) = i32 0 from rfl, i32_le (by omega) (by decide), decide_eq_true_eq]
    omega
  · show up2 S.2.1 13 (64 * s + (0 + 0) % 1) _ a b = _
    unfold up2
    rw [if_neg (fun q => h2 ⟨q.1, by omega, by omega⟩)]
end ENDS
