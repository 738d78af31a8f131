/-! whether a chain may be remade: the reference's way -/
section ASKS
variable {G : GT} {E B bx m : Nat} {ad : Nat → Nat} {S : ST} {A : AT} {C : CT} {T T' : MT} {c s st so : Nat}
/-- only what is asked differs -/
def Fz (T T' : MT) : Prop := (∀ k, k ∉ [61, 62] → T'.1 k = T.1 k) ∧ T'.2.1 = T.2.1 ∧ T'.2.2.1 = T.2.2.1
theorem Fz.refl (T : MT) : Fz T T := ⟨fun _ _ => rfl, rfl, rfl⟩
theorem Fz.trans {T'' : MT} (h : Fz T T') (h' : Fz T' T'') : Fz T T'' := ⟨fun k q => (h'.1 k q).trans (h.1 k q), h'.2.1.trans h.2.1, h'.2.2.trans h.2.2⟩
theorem fz_Z {v : Bool} : Fz T (tsZ T 63 v) := ⟨fun _ _ => rfl, rfl, rfl⟩
theorem fz_I {k j : Nat} {w : Int32} (h : k ∈ [61, 62]) : Fz T (tsI T k j w) := ⟨fun y hy => funext fun z => by
  have : y ≠ k := fun q => hy (q ▸ h)
  simp [tsI, up2, this], rfl, rfl⟩
theorem rt_Fz (hR : RT S T) (h : Fz T T') : RT S T' := by
  obtain ⟨a1, a2, a3, a4, a5, a6, a7, a8, a9, b1, b2, b3⟩ := hR
  have d1 : ∀ k, k ∈ rtN → k ∉ [61, 62] := by decide
  have d2 : ∀ k, k ∈ rtC → k ∉ [61, 62] := by decide
  have d3 : ∀ k, k ∈ rtM → k ∉ [61, 62] := by decide
  have d4 : ∀ k, k ∈ rtI → k ∉ [61, 62] := by decide
  refine ⟨fun k hk j => by rw [h.1 k (d1 k hk)]; exact a1 k hk j, fun k hk => by rw [h.1 k (d2 k hk)]; exact a2 k hk, fun k hk j => by rw [h.1 k (d3 k hk)]; exact a3 k hk j, fun k hk j => by rw [h.1 k (d4 k hk)]; exact a4 k hk j, ?_⟩
  rw [h.2.1, h.2.2]
  exact ⟨a5, a6, a7, a8, a9, b1, b2, b3⟩
theorem z63 {v : Bool} : (tsZ T 63 v).2.2.2 63 = v := by
  show (if (63 : Nat) = 63 then v else T.2.2.2 63) = v
  rw [if_pos rfl]
/-- one thing asked: the flag -/
theorem ask1 {r : UInt64} {b : Bool} (s3 : st < 3) {t : Int64} (hr : r = if b = true then dv st t else 0x40e3880000000000) (hb : b = true → vb st t) (h2 : st ≠ 2 → b = true) {α : Type} {k : Bool → Option α} :
    (if T.2.2.2 63 = true then (if i32 st = (2 : Int32) then (obd (some r) fun x => if (Op.cmpValue (FP.dcmp x (0x40e3880000000000 : UInt64)) .l) = 0 then k false else k true) else k true) else k false) = k (T.2.2.2 63 && b) := by
  cases T.2.2.2 63 with
  | false => rw [if_neg (by decide), Bool.false_and]
  | true =>
    rw [if_pos rfl, Bool.true_and]
    by_cases e : st = 2
    · rw [if_pos (by rw [e]; rfl), obd_some, hr]
      cases hbb : b with
      | true =>
        have hv := hb hbb
        have hm := mark_of s3 e (b := true) (t := t) (fun _ => by rw [← e]; exact hv)
        rw [if_neg (fun z => by have := hm.mp z; cases this)]
      | false =>
        have hm := mark_of s3 e (b := false) (t := t) (fun z => by cases z)
        rw [if_pos (hm.mpr rfl)]
    · rw [if_neg (show ¬ i32 st = (2 : Int32) from i32_ne (b := 2) (by omega) (by decide) e), h2 e]
theorem ok_ne {x : Int64} {pl : Bool} (h : st ≠ 2) (s3 : st < 3) : okB so st pl x = true := if_pos (by omega)
theorem asks124_go (J : JJ G E B bx m ad S A C T') (s3 : st < 3) (hs : s < S.1 1 0) {N : Nat} {k86 : Int32 → Int32 → Int32 → Int32 → MT → Option MT} {v1 v4 : Int32} : ∀ (q n k : Nat) (T : MT), RT S T → k + q = nfac (S.1 2 s) → q < n →
    ∃ T1, h_R_asks_124 N k86 n v1 (i32 st) (i32 (S.1 3 s)) v4 (i32 s) (i32 k) T = k86 v1 (i32 st) (i32 (S.1 3 s)) (v4 + 1) T1 ∧ Fz T T1 ∧ T1.1 = T.1 ∧ T1.2.2.2 63 = (T.2.2.2 63 && allR (okf S st s) k q)
  | 0, 0, _, _, _, _, h => absurd h (by omega)
  | 0, n + 1, k, T, hR, hk, _ => by
    have n5 := nfac_5 (S.1 2 s)
    have hn := (jj_n J).1
    refine ⟨T, ?_, Fz.refl _, rfl, (Bool.and_true _).symm⟩
    unfold h_R_asks_124
    rw [jrg_i32 (show s < 60 by omega) (by decide), obd_some, hR.1 2 (by decide), coefs_eq _ (jj_ws J hs).1.1, if_pos (by rw [i32_le (by omega) (by omega)]; omega)]
  | q + 1, 0, _, _, _, _, h => absurd h (by omega)
  | q + 1, n + 1, k, T, hR, hk, hnn => by
    have n5 := nfac_5 (S.1 2 s)
    have hn := (jj_n J).1
    have h3 := so_lt J hs
    have hv := cf_vb J hs (k := k) (by omega)
    have JT := jj_T J hR
    have ec := coef_dv JT hs (j := k) (by omega)
    have et := turned_of (pl := g_R_isPlain (i32 (S.1 2 s))) h3 s3 hv
    have j60 : jrg 60 (i32 s) = some s := jrg_i32 (by omega) (by decide)
    obtain ⟨T1, u1, u2, u3, u4⟩ := asks124_go J s3 hs (N := N) (k86 := k86) (v1 := v1) (v4 := v4) q n (k + 1) (tsZ T 63 (T.2.2.2 63 && okf S st s k)) (rt_Fz hR fz_Z) (by omega) (by omega)
    refine ⟨T1, ?_, fz_Z.trans u2, u3, ?_⟩
    · unfold h_R_asks_124
      rw [j60, obd_some, hR.1 2 (by decide), coefs_eq _ (jj_ws J hs).1.1, if_neg (by rw [i32_le (by omega) (by omega)]; omega), ec, obd_some, obd_some, hR.1 2 (by decide), et]
      unfold h_R_asks_186 h_R_asks_182 h_R_asks_187
      rw [jlet_eq, jlet_eq, show i32 k + 1 = i32 (k + 1) from i32_add k 1, ← u1]
      exact ask1 s3 rfl (fun z => ok_vb s3 z) (fun z => ok_ne z s3) (k := fun b => h_R_asks_124 N k86 n v1 (i32 st) (i32 (S.1 3 s)) v4 (i32 s) (i32 (k + 1)) (tsZ T 63 b))
    · rw [u4, z63, Bool.and_assoc]
      rfl
theorem asks86_go (J : JJ G E B bx m ad S A C T') (s3 : st < 3) (hc : c < S.1 16 0) (h0 : S.1 17 c ≠ 0) {N : Nat} (hN : 100 ≤ N) : ∀ (q n p x : Nat) (T : MT), RT S T → T.1 61 0 = i32 x → p + q = S.1 17 c → q < n →
    ∃ T1, h_R_asks_86 N n (i32 c) (i32 st) (i32 (cso S c)) (i32 p) T = some T1 ∧ Fz T T1 ∧ T1.1 61 0 = i32 (x + q) ∧ T1.1 62 = T.1 62 ∧ T1.2.2.2 63 = (T.2.2.2 63 && allR (okm S st c) p q)
  | 0, 0, _, _, _, _, _, _, h => absurd h (by omega)
  | 0, n + 1, p, x, T, hR, hx, hp, _ => by
    have h10 := (jj_wc J hc).1.1
    have hn := (jj_n J).2.1
    refine ⟨T, ?_, Fz.refl _, hx, rfl, (Bool.and_true _).symm⟩
    unfold h_R_asks_86
    rw [jrg_i32 (show c < 20 by omega) (by decide), obd_some, hR.1 17 (by decide), if_pos (by rw [i32_le (by omega) (by omega)]; omega)]
  | q + 1, 0, _, _, _, _, _, _, h => absurd h (by omega)
  | q + 1, n + 1, p, x, T, hR, hx, hp, hnn => by
    have h10 := (jj_wc J hc).1.1
    have hn := jj_n J
    have n5 := nfac_5 (S.1 2 (S.1 18 (10 * c + p)))
    have w := (jj_wc J hc).2.1 p (by omega)
    have hm := w.1
    have f1 : Fz T (tsI T 61 0 (i32 (x + 1))) := fz_I (by decide)
    obtain ⟨T1, u1, u2, u3, u4⟩ := asks124_go J s3 hm (N := N) (k86 := h_R_asks_86 N n) (v1 := i32 c) (v4 := i32 p) (nfac (S.1 2 (S.1 18 (10 * c + p)))) N 0 (tsI T 61 0 (i32 (x + 1))) (rt_Fz hR f1) (by omega) (by omega)
    rw [w.2.2.2] at u1
    obtain ⟨T2, v1, v2, v3, v4, v5⟩ := asks86_go J s3 hc h0 hN q n (p + 1) (x + 1) T1 (rt_Fz hR (f1.trans u2)) (by rw [u3]; exact ts_eq) (by omega) (by omega)
    refine ⟨T2, ?_, (f1.trans u2).trans v2, ?_, ?_, ?_⟩
    · have u1 : h_R_asks_124 N (h_R_asks_86 N n) N (i32 c) (i32 st) (i32 (cso S c)) (i32 p) (i32 (S.1 18 (10 * c + p))) 0 (tsI T 61 0 (i32 (x + 1))) = _ := u1
      unfold h_R_asks_86
      rw [jrg_i32 (show c < 20 by omega) (by decide), obd_some, hR.1 17 (by decide), if_neg (by rw [i32_le (by omega) (by omega)]; omega), show (10 : Int32) * i32 c + i32 p = i32 (10 * c + p) from by rw [show (10 : Int32) = i32 10 from rfl, i32_mul, i32_add], jrg_i32 (show 10 * c + p < 200 by omega) (by decide), obd_some, jlet_eq, hx, show i32 x + 1 = i32 (x + 1) from i32_add x 1, hR.1 18 (by decide), u1, show i32 p + 1 = i32 (p + 1) from i32_add p 1]
      exact v1
    · rw [v3]; congr 1; omega
    · rw [v4, u3]; exact funext fun j => ts_ne (by decide)
    · rw [v5, u4]
      show ((T.2.2.2 63 && okm S st c p) && _) = (T.2.2.2 63 && (okm S st c p && _))
      rw [Bool.and_assoc]
theorem asks21_go (J : JJ G E B bx m ad S A C T') (s3 : st < 3) (hc : c < S.1 16 0) (h0 : S.1 17 c ≠ 0) {N : Nat} : ∀ (q n i : Nat) (T : MT), RT S T → i + q = S.1 20 c → q < n →
    ∃ T1, h_R_asks_21 N n (i32 c) (i32 st) (i32 (cso S c)) (i32 (3 * c + i)) T = h_R_asks_86 N N (i32 c) (i32 st) (i32 (cso S c)) 0 T1 ∧ Fz T T1 ∧ T1.1 = T.1 ∧ T1.2.2.2 63 = (T.2.2.2 63 && allR (okl S st c) i q)
  | 0, 0, _, _, _, _, h => absurd h (by omega)
  | 0, n + 1, i, T, hR, hi, _ => by
    have h3 := (jj_wc J hc).1.2.1
    have hn := (jj_n J).2.1
    refine ⟨T, ?_, Fz.refl _, rfl, (Bool.and_true _).symm⟩
    unfold h_R_asks_21
    rw [jrg_i32 (show c < 20 by omega) (by decide), obd_some, hR.1 20 (by decide), show (3 : Int32) * i32 c + i32 (S.1 20 c) = i32 (3 * c + S.1 20 c) from by rw [show (3 : Int32) = i32 3 from rfl, i32_mul, i32_add], if_pos (by rw [i32_le (by omega) (by omega)]; omega)]
  | q + 1, 0, _, _, _, _, h => absurd h (by omega)
  | q + 1, n + 1, i, T, hR, hi, hnn => by
    have w := jj_wc J hc
    have h3 := w.1.2.1
    have hn := (jj_n J).2.1
    have hso : cso S c < 3 := so_lt J (w.2.1 0 (by omega)).1
    have wl := w.2.2.2.2.1 i (by omega)
    have et := turned_of (pl := false) hso s3 wl.2.2.2.2.2.1
    have e24 : T.2.2.1 24 (3 * c + i) = dv (cso S c) (S.2.1 24 (3 * c + i)) := by
      have := hR.2.2.2.2.2.2.2.1 (3 * c + i)
      rw [show (3 * c + i) / 3 = c by omega] at this
      exact this
    obtain ⟨T1, u1, u2, u3, u4⟩ := asks21_go J s3 hc h0 (N := N) q n (i + 1) (tsZ T 63 (T.2.2.2 63 && okl S st c i)) (rt_Fz hR fz_Z) (by omega) (by omega)
    refine ⟨T1, ?_, fz_Z.trans u2, u3, ?_⟩
    · unfold h_R_asks_21
      rw [jrg_i32 (show c < 20 by omega) (by decide), obd_some, hR.1 20 (by decide), show (3 : Int32) * i32 c + i32 (S.1 20 c) = i32 (3 * c + S.1 20 c) from by rw [show (3 : Int32) = i32 3 from rfl, i32_mul, i32_add], if_neg (by rw [i32_le (by omega) (by omega)]; omega), jrg_i32 (show 3 * c + i < 60 by omega) (by decide), obd_some, e24, et]
      unfold h_R_asks_73 h_R_asks_69 h_R_asks_74
      rw [jlet_eq, jlet_eq, show i32 (3 * c + i) + 1 = i32 (3 * c + (i + 1)) from i32_add _ 1, ← u1]
      exact ask1 s3 rfl (fun z => ok_vb s3 z) (fun z => ok_ne z s3) (k := fun b => h_R_asks_21 N n (i32 c) (i32 st) (i32 (cso S c)) (i32 (3 * c + (i + 1))) (tsZ T 63 b))
    · rw [u4, z63, Bool.and_assoc]
      rfl
theorem asks_of (J : JJ G E B bx m ad S A C T') (s3 : st < 3) (hc : c < S.1 16 0) (h0 : S.1 17 c ≠ 0) {N : Nat} (hN : 100 ≤ N) {x y : Nat} (hR : RT S T) (h61 : T.1 61 0 = i32 x) (h62 : T.1 62 0 = i32 y) :
    ∃ T1, h_R_asks N (i32 c) (i32 st) T = some T1 ∧ Fz T T1 ∧ T1.1 61 0 = i32 (x + S.1 17 c) ∧ T1.1 62 0 = i32 (y + 1) ∧ T1.2.2.2 63 = (T.2.2.2 63 && okc S st c) := by
  have h3 := (jj_wc J hc).1.2.1
  have h10 := (jj_wc J hc).1.1
  have f1 : Fz T (tsI T 62 0 (i32 (y + 1))) := fz_I (by decide)
  have hR1 := rt_Fz hR f1
  have hs := (sort_of (jj_T J hR1) hc).2
  rw [if_neg h0] at hs
  obtain ⟨T1, u1, u2, u3, u4⟩ := asks21_go J s3 hc h0 (N := N) (S.1 20 c) N 0 (tsI T 62 0 (i32 (y + 1))) hR1 (by omega) (by omega)
  obtain ⟨T2, v1, v2, v3, v4, v5⟩ := asks86_go J s3 hc h0 hN (S.1 17 c) N 0 x T1 (rt_Fz hR1 u2) (by rw [u3, ts_ne (by decide)]; exact h61) (by omega) (by omega)
  refine ⟨T2, ?_, (f1.trans u2).trans v2, v3, ?_, ?_⟩
  · unfold h_R_asks
    rw [jlet_eq, h62, show i32 y + 1 = i32 (y + 1) from i32_add y 1, hs, obd_some, show (3 : Int32) * i32 c = i32 (3 * c + 0) from by rw [show (3 : Int32) = i32 3 from rfl, i32_mul, Nat.add_zero], u1]
    exact v1
  · rw [v4, u3]; exact ts_eq
  · rw [v5, u4]
    show ((T.2.2.2 63 && _) && _) = (T.2.2.2 63 && (_ && _))
    rw [Bool.and_assoc, Bool.and_comm (allR (okl S st c) 0 (S.1 20 c))]
/-- all of them asked -/
theorem conv41_go (J : JJ G E B bx m ad S A C T') (s3 : st < 3) {N : Nat} (hN : 100 ≤ N) {v1 : Int32} {t : TR} (ht : t.1 ≤ 20) (hd : ∀ i, i < t.1 → t.2 i < S.1 16 0 ∧ S.1 17 (t.2 i) ≠ 0) : ∀ (q n i : Nat) (T : MT), RT S T → TM T t → T.1 61 0 = i32 (sm (szt S t) i) → T.1 62 0 = i32 i → i + q = t.1 → q < n →
    ∃ T1, h_R_convert_41 N n v1 (i32 st) (i32 i) T = (if (T.2.2.2 63 && allR (fun i => okc S st (t.2 i)) i q && fitT S t.1 (sm (szt S t) t.1)) = true then (tbd2 (h_R_anew N v1 (i32 st) T1) fun x1 T2 => some (x1, T2)) else some (-1, T1)) ∧ Fz T T1
  | 0, 0, _, _, _, _, _, _, _, h => absurd h (by omega)
  | 0, n + 1, i, T, hR, hM, h61, h62, hi, _ => by
    have e : i = t.1 := by omega
    subst e
    have hn := jj_n J
    have hsz : sm (szt S t) t.1 ≤ 10 * t.1 := sm_le fun i hi => (jj_wc J (hd i hi).1).1.1
    refine ⟨T, ?_, Fz.refl _⟩
    have ea : allR (fun i => okc S st (t.2 i)) t.1 0 = true := rfl
    unfold h_R_convert_41
    rw [hM.1, if_pos (Int32.le_refl _), ea, Bool.and_true, h61, h62, hR.2.1 1 (by decide), hR.2.1 16 (by decide), i32_add, i32_add]
    cases T.2.2.2 63 with
    | false => rw [if_neg (by decide), Bool.false_and, if_neg (by decide)]
    | true =>
      rw [if_pos rfl, Bool.true_and]
      unfold fitT
      by_cases h1 : S.1 1 0 + sm (szt S t) t.1 ≤ 60
      · rw [if_neg (by rw [show (60 : Int32) = i32 60 from rfl, i32_lt (by omega) (by omega)]; omega), decide_eq_true h1, Bool.true_and]
        by_cases h2 : S.1 16 0 + t.1 ≤ 20
        · rw [if_pos (by rw [show (20 : Int32) = i32 20 from rfl, i32_le (by omega) (by omega)]; omega), decide_eq_true h2, if_pos rfl]
        · rw [if_neg (by rw [show (20 : Int32) = i32 20 from rfl, i32_le (by omega) (by omega)]; omega), decide_eq_false h2, if_neg (by decide)]
      · rw [if_pos (by rw [show (60 : Int32) = i32 60 from rfl, i32_lt (by omega) (by omega)]; omega), decide_eq_false h1, Bool.false_and, if_neg (by decide)]
  | q + 1, 0, _, _, _, _, _, _, _, h => absurd h (by omega)
  | q + 1, n + 1, i, T, hR, hM, h61, h62, hi, hnn => by
    have hdi := hd i (by omega)
    have hn := jj_n J
    obtain ⟨T1, u1, u2, u3, u4, u5⟩ := asks_of J s3 hdi.1 hdi.2 hN hR h61 h62
    have hM1 : TM T1 t := by
      refine ⟨?_, fun a ha => ?_⟩
      · rw [u2.1 42 (by decide)]; exact hM.1
      · rw [u2.1 43 (by decide)]; exact hM.2 a ha
    obtain ⟨T2, w1, w2⟩ := conv41_go J s3 hN (v1 := v1) ht hd q n (i + 1) T1 (rt_Fz hR u2) hM1 u3 u4 (by omega) (by omega)
    refine ⟨T2, ?_, u2.trans w2⟩
    have ea : (T.2.2.2 63 && allR (fun i => okc S st (t.2 i)) i (q + 1) && fitT S t.1 (sm (szt S t) t.1)) = (T1.2.2.2 63 && allR (fun i => okc S st (t.2 i)) (i + 1) q && fitT S t.1 (sm (szt S t) t.1)) := by
      rw [u5]
      show (T.2.2.2 63 && (okc S st (t.2 i) && _) && _) = (T.2.2.2 63 && okc S st (t.2 i) && _ && _)
      rw [Bool.and_assoc, Bool.and_assoc, Bool.and_assoc, Bool.and_assoc]
    rw [ea, ← w1]
    show (if T.1 42 0 ≤ i32 i then _ else _) = _
    rw [hM.1, if_neg (by rw [i32_le (by omega) (by omega)]; omega), jrg_i32 (show i < 20 by omega) (by decide), obd_some, hM.2 i (by omega), u1, obd_some, show i32 i + 1 = i32 (i + 1) from i32_add i 1]
end ASKS
