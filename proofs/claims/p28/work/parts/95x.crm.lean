/-! a chain remade: the class, all of it -/
section CRMS
variable {G : GT} {E B bx m : Nat} {ad ad0 : Nat → Nat} {S S0 Z : ST} {A A0 As : AT} {C C0 Cs V Vs : CT} {T0 : MT} {X Y : Nat → Prop} {s c n st q p f nl : Nat} {x : CM}
theorem rq_fn {u w : Nat} (hF : FX S0 st c x Z) (h44 : Z.1 44 0 = x.1.1 44 0) (h20 : x.1.1 16 0 < 20) (hnl : S0.1 20 c = nl) (hnl3 : nl ≤ 3) (h : RQ (u + 4 + 3 * nl) (w + 423 + 70 * nl) x.1 A V) : RQ u w Z A V := by
  obtain ⟨⟨a1, a2, a3, a4, a5, a6, a7⟩, b1, b2, b3, b4, b5, b6, b7⟩ := hF
  intro z hz
  have := h z hz
  have es : sm (fun d => 3 - Z.1 20 d) (x.1.1 16 0 + 1) = sm (fun d => 3 - x.1.1 20 d) (x.1.1 16 0) + (3 - nl) := by
    show sm (fun d => 3 - Z.1 20 d) (x.1.1 16 0) + (3 - Z.1 20 (x.1.1 16 0)) = _
    rw [a5, hnl, sm_congr (f := fun d => 3 - Z.1 20 d) (g := fun d => 3 - x.1.1 20 d) (fun d hd => by
      show 3 - Z.1 20 d = 3 - x.1.1 20 d
      rw [b6 20 d (by decide) (by omega)])]
  rw [a1, a2, h44, es]
  omega
theorem rem_end (J0 : JJ G E B bx m ad0 S0 A0 C0 T0) (s3 : st < 3) {N : Nat} (hN : 100 ≤ N) (hcf : c < f + 1) (hc : c < S0.1 16 0) (h0 : S0.1 17 c ≠ 0) (hok : okc S0 st c = true) (hb : wti (wt (bad S0 st) S0 f) S0 c (S0.1 17 c) = 0) (hx : Ex S0 S) (hW : WF E S) (h60 : S.1 1 0 + S0.1 17 c + wti (wt (S0.1 17) S0 f) S0 c (S0.1 17 c) ≤ 60) (h20 : S.1 16 0 + wti (wt oneF S0 f) S0 c (S0.1 17 c) + 1 ≤ 20)
    (Js : JJ G E B bx m ad S As Vs (tOf S)) (hXs : ∀ a, X a → ∃ s, S0.1 1 0 ≤ s ∧ s < S.1 1 0 ∧ a = As 7 s) (hYs : ∀ a, Y a → ∃ d, S0.1 16 0 ≤ d ∧ d < S.1 16 0 ∧ a = As 1 d) (hbq : bx < (ck Cs).1) (hcs : ck Cs = ck Vs) (hsv : ∀ k, Cs.2.2.2.2.1 k (As 2 0) 0 = Vs.2.2.2.2.1 k (As 2 0) 0) {kS : Nat → Option Nat → Int32 → Option Nat → Int32 → CT → Option (Option Nat × CT)} {dep : Int32} {n : Nat} (hL : LI G E B bx m (adS ad (ad 0 + 20)) S As Cs Vs X Y (S0.1 17 c) (cmS (cvS S0 st f) S0 st c (S0.1 17 c) S) A V C) :
    ∃ A' V' C', c_B_remade_21 N kS (n + 1) bx (some (As 1 c)) (i32 st) (some (As 5 st)) dep (ck Cs).1 (i32 (S0.1 17 c)) C = some (some (A' 1 ((cvS S0 st (f + 1) c S).1 16 0 - 1)), C') ∧ JJ G E B bx m ad (cvS S0 st (f + 1) c S) A' V' (tOf (cvS S0 st (f + 1) c S)) ∧ Pd X Y C' V' ∧ AE S As (cvS S0 st (f + 1) c S) A' (ck Cs).1 ∧ Fm As bx Cs C' ∧ ∀ u w, RQ u w S As Vs → RQ u w (cvS S0 st (f + 1) c S) A' V' := by
  have w0 := jj_wc J0 hc
  have h10 := w0.1.1
  have ecv : cvS S0 st (f + 1) c S = fnS S0 st c (cmS (cvS S0 st f) S0 st c (S0.1 17 c) S) := rfl
  have hokl : allR (okl S0 st c) 0 (S0.1 20 c) = true := by
    unfold okc at hok
    rw [Bool.and_eq_true] at hok
    exact hok.2
  obtain ⟨k1, k2, k3, k4⟩ := cm_facts J0 s3 (pu_all J0 s3 f) hcf hc hok hb hx hW h60 h20 (S0.1 17 c) (Nat.le_refl _)
  have m44 := cm_44 (S0 := S0) (st := st) (c := c) (S := S) (cv_44 (S0 := S0) (st := st) f) (S0.1 17 c)
  have hwZ := lp_WF J0 hc h0 k1 (by omega) s3 hokl k2 (S0.1 20 c) (Nat.le_refl _)
  have hF := fn_FX k2
  have z44 := fn_44 (S0 := S0) (st := st) (c := c) (x := cmS (cvS S0 st f) S0 st c (S0.1 17 c) S)
  rw [ecv]
  have hwZ : WF E (fnS S0 st c (cmS (cvS S0 st f) S0 st c (S0.1 17 c) S)) := hwZ
  generalize cmS (cvS S0 st f) S0 st c (S0.1 17 c) S = x at *
  generalize hZ : fnS S0 st c x = Z at *
  obtain ⟨J, P, hO, hpf, ae, ⟨hqc, hfm⟩, hrq⟩ := hL
  obtain ⟨m1, m2, m3, m4, m5⟩ := id k2
  have hxx : Ex S0 x.1 := hx.trans m1
  have hwVs := Js.1.1
  have hAs : ∀ t i, VA S t i → t ≠ 0 → As t i < (ck Cs).1 := fun t i h h0 => by rw [hcs]; exact (hwVs.2.1 _ (va_tag Js h h0)).2
  have vaM : ∀ t i, VA S t i → VA x.1 t i := fun t i h => va_ex m1 (congrFun m44 0) h
  have hcS : c < S.1 16 0 := by have := hx.1.2; omega
  have hcx : c < x.1.1 16 0 := by have := m1.1.2; omega
  have eA1c : A 1 c = As 1 c := ae.1 1 c hcS (by decide)
  have eA5 : A 5 st = As 5 st := ae.1 5 st s3 (by decide)
  have eA30 : A 3 0 = As 3 0 := ae.1 3 0 (show (0 : Nat) < 4 by decide) (by decide)
  have eA31 : A 3 1 = As 3 1 := ae.1 3 1 (show (1 : Nat) < 4 by decide) (by decide)
  have eA20 : A 2 0 = As 2 0 := ae.1 2 0 rfl (by decide)
  have hXX : ∀ a, XM X A x (S0.1 17 c) a → ∃ s', S0.1 1 0 ≤ s' ∧ s' < x.1.1 1 0 ∧ a = A 7 s' := fun a z => by
    rcases z with z | ⟨r, hr, rfl⟩
    · obtain ⟨s', z1, z2, z3⟩ := hXs a z
      exact ⟨s', z1, by have := m1.1.1; omega, by rw [ae.1 7 s' z2 (by decide)]; exact z3⟩
    · have := (m2 r hr).1; have := hx.1.1
      exact ⟨x.2.1 r, by omega, by omega, rfl⟩
  have hYY : ∀ a, YM Y A x (S0.1 17 c) a → ∃ d, S0.1 16 0 ≤ d ∧ d < x.1.1 16 0 ∧ a = A 1 d := fun a z => by
    rcases z with z | ⟨r, hr, hr0, rfl⟩
    · obtain ⟨d, z1, z2, z3⟩ := hYs a z
      exact ⟨d, z1, by have := m1.1.2; omega, by rw [ae.1 1 d z2 (by decide)]; exact z3⟩
    · rcases m4 r hr with z | ⟨d, d', i1, i2, i3, i4⟩
      · exact absurd z.2 hr0
      · have := i4.1.1; have := hx.1.2
        exact ⟨x.2.2 r - 1, by omega, by omega, rfl⟩
  have hU : ∀ t i, VA x.1 t i → t ≠ 0 → A t i < (ck Cs).1 ∨ (ck Cs).1 + 4 ≤ A t i := fun t i h h0 => by
    rcases ae.2 t i h h0 with z | z
    · exact Or.inl (by rw [ae.1 t i z h0]; exact hAs t i z h0)
    · exact Or.inr z
  have nYc : ¬ YM Y A x (S0.1 17 c) (A 1 c) := fun z => by
    obtain ⟨d, z1, z2, z3⟩ := hYY _ z
    have := (J.2.1.2.2.2 1 c 1 d hcx z2 z3).2
    omega
  have hmem := (w0.2.1 0 (by omega)).1
  have nXs : ¬ XM X A x (S0.1 17 c) (A 7 (S0.1 18 (10 * c + 0))) := fun z => by
    obtain ⟨s', z1, z2, z3⟩ := hXX _ z
    have := (J.2.1.2.2.2 7 (S0.1 18 (10 * c + 0)) 7 s' (show _ < x.1.1 1 0 by have := hxx.1.1; omega) z2 z3).2
    omega
  have hcr : RCc x.1 A C c := pd_RCc P (jj_c J hcx) nYc
  have hsr : RCs x.1 A C (S0.1 18 (10 * c + 0)) := pd_RCs P (jj_s J (by have := hxx.1.1; omega)) nXs
  have e17 : x.1.1 17 c = S0.1 17 c := (hxx.2.2 c hc).1 17 (by decide)
  have e18 : x.1.1 18 (10 * c + 0) = S0.1 18 (10 * c + 0) := (hxx.2.2 c hc).2.1 0 (by omega)
  have e3 : x.1.1 3 (S0.1 18 (10 * c + 0)) = cso S0 c := (hxx.2.1 _ hmem).1 3 (by decide)
  have hbC := pd_RCb P (jj_b J)
  have hso : cso S0 c < 3 := so_lt J0 hmem
  have a0 : adS ad (ad 0 + 20) 0 = ad 0 + 20 := if_pos rfl
  -- the loops
  have hR0 : RQ (B + 5000 + ad 0) (1500000 + 1000 * ad 0) S As Vs := Js.1.2.2
  have hRx := hrq _ _ (rq_open Js hR0)
  obtain ⟨Ve, Ce, L, v1, v2, v3, v4, v5, v6, v7, v8, v9⟩ := loops_go J0 s3 hc h0 hxx nYc (show S0.1 20 c = S0.1 20 c from rfl) (N := N) (S0.1 20 c) N 0 _ _ V C (fun _ => 0) J P hO (fun j hj => absurd hj (Nat.not_lt_zero _)) (fun j k _ hk => absurd hk (Nat.not_lt_zero _)) (fun t k h hh => by have := hU t k h hh; omega) (by omega) hRx (by rw [a0]; have := w0.1.2.1; omega) (by rw [a0]; have := w0.1.2.1; omega) (by omega) (by have := w0.1.2.1; omega)
  have hbE := pd_RCb v3 (jj_b v2)
  have hreg := reg_run hbE v4.1.1 (show x.1.1 16 0 < 20 by omega)
  have pre : c_B_remade_21 N kS (n + 1) bx (some (As 1 c)) (i32 st) (some (As 5 st)) dep (ck Cs).1 (i32 (S0.1 17 c)) C = some (some (ck Cs).1, rgC Ce (ck Cs).1 (x.1.1 16 0) (A 3 1) bx) := by
    have hsort : c_Chain_sort (A 1 c) C = some (i32 (cso S0 c)) := by
      unfold c_Chain_sort
      rw [cob_of (rc_tag hcr), jgd_true, show (0 : Int32) = i32 0 from rfl, memberR hcr (by rw [e17]; exact h10) (by decide), e17, if_pos (by omega), obd_some, jon_some, e18, rs_sort hsr, obd_some, e3]
    have hlo : c_B_remakeLoops N bx (some (A 1 c)) (some (ck Cs).1) (some (A 5 st)) C = some Ce := by
      unfold c_B_remakeLoops
      rw [obd_some, cob_of (rc_tag hcr), jgd_true, hsort, obd_some, cob_of (ci := 0) (rb_tag hbC), jgd_true, numbersOf_some hbC hso, obd_some]
      exact v1
    rw [← eA1c, ← eA5]
    unfold c_B_remade_21
    rw [obd_some, rc_size hcr, obd_some, e17, if_pos (Int32.le_refl _), cob_of (ci := 0) (rb_tag hbC), jgd_true, hlo, obd_some, cob_of (ci := 0) (rb_tag hbE), jgd_true, hreg, cbd2_some]
  have hckE : (ck C).1 ≤ (ck Ce).1 := v8
  have eckE := pd_ck v3
  have hOe := v4
  have tagA : ∀ t i, VA x.1 t i → t ≠ 0 → A t i < (ck C).1 ∧ A t i ≠ (ck Cs).1 ∧ A t i ≠ (ck Cs).1 + 2 := fun t i h h0 => by
    have l := (J.1.1.2.1 _ (va_tag J h h0)).2
    have := hU t i h h0
    rw [← pd_ck P] at l
    exact ⟨l, by omega, by omega⟩
  have hpfE : ∀ r, r < S0.1 17 c → Ce.2.2.2.2.1 124 (A 7 (x.2.1 r)) 0 = some (ck Cs).1 ∧ Ce.2.2.1 125 (A 7 (x.2.1 r)) 0 = i32 r ∧ Ce.2.2.2.2.1 126 (A 7 (x.2.1 r)) 0 = oA A 1 (x.2.2 r) ∧ (x.2.2 r ≠ 0 → Ce.2.2.2.2.1 25 (A 1 (x.2.2 r - 1)) 0 = some (A 7 (x.2.1 r))) := fun r hr => by
    obtain ⟨g1, g2, g3, g4⟩ := hpf r hr
    obtain ⟨l1, l2, l3⟩ := tagA 7 (x.2.1 r) (m2 r hr).1.2 (by decide)
    have agm := v7 _ l1 l2 l3
    rw [agm.2.2.2.2.1, agm.2.2.1, agm.2.2.2.2.1]
    refine ⟨g1, g2, g3, fun hh => ?_⟩
    have hv : VA x.1 1 (x.2.2 r - 1) := by
      rcases m4 r hr with z | ⟨d, d', i1, i2, i3, i4⟩
      · exact absurd z.2 hh
      · show x.2.2 r - 1 < x.1.1 16 0
        have := i4.1.1; omega
    obtain ⟨l4, l5, l6⟩ := tagA 1 _ hv (by decide)
    rw [(v7 _ l4 l5 l6).2.2.2.2.1]
    exact g4 hh
  -- the tables of dead cycles
  have hD : Ve.2.2.2.2.1 37 (A 2 0) 0 ≠ none → A 0 1 < (ck Cs).1 ∧ A 0 2 < (ck Cs).1 := fun hn => by
    have tD : Ve.1 (A 2 0) = 3 := (jj_b v2).2.2.2.2.2.2.2
    have tDs : Vs.1 (As 2 0) = 3 := (jj_b Js).2.2.2.2.2.2.2
    have nX : ¬ XM X A x (S0.1 17 c) (A 2 0) := fun z => by have := (v3.2.2.2.1 _ z).1; rw [tD] at this; exact absurd this (by decide)
    have nY : ¬ YM Y A x (S0.1 17 c) (A 2 0) := fun z => by have := (v3.2.2.2.2 _ z).1; rw [tD] at this; exact absurd this (by decide)
    obtain ⟨l1, l2, l3⟩ := tagA 2 0 rfl (by decide)
    have f1 : ∀ k, Ve.2.2.2.2.1 k (A 2 0) 0 = Vs.2.2.2.2.1 k (As 2 0) 0 := fun k => by
      have b1 := congrFun ((pd_ag v3 nX nY).2.2.2.2.1 k) 0
      have b2 := congrFun ((v7 _ l1 l2 l3).2.2.2.2.1 k) 0
      have hne : As 2 0 ≠ bx := fun z => va_bx Js (show VA S 2 0 from rfl) (by decide) (by rw [z]; exact (jj_b Js).1.1)
      have b3 := congrFun ((hfm (As 2 0) (hAs 2 0 rfl (by decide)) hne (fun z => by have := (Js.2.1.2.2.2 2 0 3 0 rfl (show (0 : Nat) < 4 by decide) z).1; omega) (fun z => by have := (Js.2.1.2.2.2 2 0 3 1 rfl (show (1 : Nat) < 4 by decide) z).1; omega)).2.2.2.2.1 k) 0
      rw [← b1, b2, eA20, b3, hsv]
    rcases v2.2.2.2.2.2 with z | ⟨g1, g2, g3, g4, g5, g6, g7⟩
    · exact absurd z.1 hn
    · rcases Js.2.2.2.2.2 with z | ⟨y1, y2, y3, y4, y5, y6, y7⟩
      · rw [f1] at hn; exact absurd z.1 hn
      · rw [f1, y1] at g1
        rw [f1, y2] at g2
        have e1 : As 0 1 = A 0 1 := Option.some.inj g1
        have e2 : As 0 2 = A 0 2 := Option.some.inj g2
        rw [← e1, ← e2, hcs]
        exact ⟨(hwVs.2.1 _ (by rw [y3]; decide)).2, (hwVs.2.1 _ (by rw [y5]; decide)).2⟩
  have hZ44 : Z.1 44 0 = x.1.1 44 0 := congrFun z44 0
  have hro : ∀ u w, RQ u w S As Vs → RQ u w Z A Ve := fun u w h => rq_fn hF hZ44 (by omega) rfl w0.1.2.1 (v9 _ _ (hrq _ _ (rq_open Js h)))
  obtain ⟨A', V', t1, t2, t3, t4, t5, t6⟩ := taken (ad' := ad) (X := X) (Y := Y) v2 v3 rfl h10 rfl w0.1.2.1 (by omega) hwZ hF k2 v4 (fun i hi => (v5 i hi).1) (fun i hi => (w0.2.2.2.2.1 i hi).2.2.2.1) hpfE (fun t i h h0 => by have := hU t i h h0; omega) hbq hD (by rw [← eckE]; omega) (fun i hi => ⟨(v5 i hi).2.1, (v5 i hi).2.2.1, by rw [← eckE]; exact (v5 i hi).2.2.2⟩) v6
    (fun a ha r hr z => by
      obtain ⟨s', z1, z2, z3⟩ := hXs a ha
      rw [z, ← ae.1 7 s' z2 (by decide)] at z3
      have := (J.2.1.2.2.2 7 _ 7 s' (show x.2.1 r < x.1.1 1 0 from (m2 r hr).1.2) (show s' < x.1.1 1 0 by have := m1.1.1; omega) z3).2
      have := (m2 r hr).1.1
      omega)
    (fun a ha => by
      obtain ⟨d, z1, z2, z3⟩ := hYs a ha
      have hlt := hAs 1 d z2 (by decide)
      refine ⟨by omega, fun r hr hr0 z => ?_⟩
      rw [z, ← ae.1 1 d z2 (by decide)] at z3
      rcases m4 r hr with y | ⟨e, e', i1, i2, i3, i4⟩
      · exact hr0 y.2
      · have := i4.1.1
        have := (J.2.1.2.2.2 1 _ 1 d (show x.2.2 r - 1 < x.1.1 16 0 by omega) (show d < x.1.1 16 0 by have := m1.1.2; omega) z3).2
        omega)
    (ad_lsp v2.1.2.1) (hro _ _ hR0)
  have e16 : Z.1 16 0 - 1 = x.1.1 16 0 := by rw [hF.1.2.1]; omega
  refine ⟨A', V', rgC Ce (ck Cs).1 (x.1.1 16 0) (A 3 1) bx, ?_, t1, t2, ⟨fun t i h h0 => (t3 t i (vaM t i h) h0).trans (ae.1 t i h h0), fun t i h h0 => ?_⟩, ⟨?_, fun a h1 h2 h3 h4 => ?_⟩, fun u w h => t6 u w (hro u w h)⟩
  · rw [pre, e16, t4]
  · rcases t5 t i h h0 with z | z
    · rw [t3 t i z h0]
      rcases ae.2 t i z h0 with y | y
      · exact Or.inl y
      · exact Or.inr (by omega)
    · exact Or.inr z
  · show (ck Cs).1 ≤ (ck Ce).1
    omega
  · refine ag_trans (hfm a h1 h2 h3 h4) (ag_trans (v7 a (by omega) (by omega) (by omega)) ?_)
    unfold rgC
    exact ag_csI (ag_csA (ag_csI (Ag.refl _ _) (by omega)) (by rw [eA31]; exact h4)) h2
/-- the class's whole way -/
theorem crm_all (J0 : JJ G E B bx m ad0 S0 A0 C0 T0) (s3 : st < 3) {N : Nat} (hN : 100 ≤ N) : ∀ f, CRm G E B bx m S0 st N f
  | 0 => fun c g dep S A V C X Y ad h => absurd h (Nat.not_lt_zero _)
  | f + 1 => fun c g dep S A V C X Y ad hcf hc h0 hb hx J P hX hY h60 h20 hdep hg => by
    obtain ⟨g, rfl⟩ : ∃ g', g = g' + 1 := ⟨g - 1, by omega⟩
    have eb : wt (bad S0 st) S0 (f + 1) c = bad S0 st c + wti (wt (bad S0 st) S0 f) S0 c (S0.1 17 c) := rfl
    have e60 : wt (S0.1 17) S0 (f + 1) c = S0.1 17 c + wti (wt (S0.1 17) S0 f) S0 c (S0.1 17 c) := rfl
    have e20 : wt oneF S0 (f + 1) c = 1 + wti (wt oneF S0 f) S0 c (S0.1 17 c) := rfl
    have hok : okc S0 st c = true := by
      have hb0 : bad S0 st c = 0 := by omega
      unfold bad at hb0
      by_cases q : okc S0 st c = true
      · exact q
      · rw [if_neg q] at hb0; cases hb0
    have h10 := (jj_wc J0 hc).1.1
    have hn20 := (jj_n J0).2.1
    have hwV := J.1.1
    have hwC := pd_CW P hwV
    have eck := pd_ck P
    have hbC := pd_RCb P (jj_b J)
    have hbq : bx < (ck C).1 := (hwC.2.1 bx (by rw [hbC.1.1]; decide)).2
    have hAs : ∀ t i, VA S t i → t ≠ 0 → A t i < (ck C).1 := fun t i h h0 => by rw [eck]; exact (hwV.2.1 _ (va_tag J h h0)).2
    have hcC := chC_facts hwC
    have hL0 : LI G E B bx m (adS ad (ad 0 + 20)) S A C V X Y 0 (cmS (cvS S0 st f) S0 st c 0 S) A (chC V) (chC C) := by
      have eX : X = XM X A (cmS (cvS S0 st f) S0 st c 0 S) 0 := funext fun a => propext ⟨fun z => Or.inl z, fun z => by
        rcases z with z | ⟨r, hr, -⟩
        · exact z
        · exact absurd hr (Nat.not_lt_zero _)⟩
      have eY : Y = YM Y A (cmS (cvS S0 st f) S0 st c 0 S) 0 := funext fun a => propext ⟨fun z => Or.inl z, fun z => by
        rcases z with z | ⟨r, hr, -⟩
        · exact z
        · exact absurd hr (Nat.not_lt_zero _)⟩
      refine ⟨jj_open J, ?_, om_open hwC, fun r hr => absurd hr (Nat.not_lt_zero _), ⟨fun _ _ _ _ => rfl, fun _ _ h _ => Or.inl h⟩, ⟨?_, fun a ha _ _ _ => chC_agr.ag ha⟩, fun _ _ h => h⟩
      · rw [← eX, ← eY]; exact pd_ch P
      · rw [hcC.1.1]; exact Nat.le_refl _
    have hmem : ∀ r, r ≤ S0.1 17 c → ∃ A' V' C', c_B_remade_21 N (c_B_remade N g) N bx (some (A 1 c)) (i32 st) (some (A 5 st)) (i32 dep) (ck C).1 (i32 0) (chC C) = c_B_remade_21 N (c_B_remade N g) (N - r) bx (some (A 1 c)) (i32 st) (some (A 5 st)) (i32 dep) (ck C).1 (i32 r) C' ∧ LI G E B bx m (adS ad (ad 0 + 20)) S A C V X Y r (cmS (cvS S0 st f) S0 st c r S) A' V' C' := fun r => by
      induction r with
      | zero => exact fun _ => ⟨A, chC V, chC C, rfl, hL0⟩
      | succ r ih =>
        intro hr
        obtain ⟨A1, V1, C1, z1, z2⟩ := ih (by omega)
        obtain ⟨A2, V2, C2, y1, y2⟩ := mem_step J0 s3 hN (crm_all J0 s3 hN f) hcf hc hok (by omega) hx J.2.2.2.1 (by omega) (by omega) hX hY hbq hAs (dep := dep) (g := g) hdep (by omega) (n := N - (r + 1)) (show r < S0.1 17 c by omega) z2
        refine ⟨A2, V2, C2, ?_, y2⟩
        rw [z1, ← y1, show N - (r + 1) + 1 = N - r by omega]
    obtain ⟨A1, V1, C1, z1, z2⟩ := hmem (S0.1 17 c) (Nat.le_refl _)
    have tD : V.1 (A 2 0) = 3 := (jj_b J).2.2.2.2.2.2.2
    have hsv : ∀ k, C.2.2.2.2.1 k (A 2 0) 0 = V.2.2.2.2.1 k (A 2 0) 0 := fun k => congrFun ((pd_agt P (by rw [tD]; decide) (by rw [tD]; decide)).2.2.2.2.1 k) 0
    obtain ⟨A', V', C', y1, y2, y3, y4, y5, y6⟩ := rem_end J0 s3 hN hcf hc h0 hok (by omega) hx J.2.2.2.1 (by omega) (by omega) J hX hY hbq eck hsv (kS := c_B_remade N g) (dep := i32 dep) (n := N - S0.1 17 c - 1) z2
    refine ⟨A', V', C', ?_, y2, y3, y4, y5, y6⟩
    rw [← y1, show N - S0.1 17 c - 1 + 1 = N - S0.1 17 c by omega]
    show c_B_remade_b N (c_B_remade N g) bx (some (A 1 c)) (i32 st) (some (A 5 st)) (i32 dep) C = _
    unfold c_B_remade_b
    rw [if_pos (by rw [show (30 : Int32) = i32 30 from rfl, i32_le (by omega) (by omega)]; omega)]
    unfold cnew
    dsimp only
    rw [show cfr C (1 + 1) 0 (jnfl 1) = cfr C 2 0 10 from rfl, cinit_of, obd_some]
    exact z1
end CRMS
