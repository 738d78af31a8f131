/-! a chain remade, the reference: the whole way -/
section RALL
variable {G : GT} {E B bx m : Nat} {ad : Nat → Nat} {S0 S S1 X Y : ST} {A0 : AT} {C0 : CT} {T0 T T1 T2 : MT} {c s d n st so f p u : Nat} {Q L : List (Nat × Nat)} {x : CM}
theorem sub_zero {y : Nat} (h : Sub S0 c p y) : Sub S0 c 0 y := by
  rcases h with h | ⟨r, _, h⟩
  · exact Or.inl h
  · exact Or.inr ⟨r, Nat.zero_le _, h⟩
theorem in_lpL {n' e e' : Nat} : ∀ {i : Nat}, lpL S0 st c n' i (inS X e e') = inS (lpL S0 st c n' i X) e e'
  | 0 => rfl
  | i + 1 => by
    show lpS (lpL S0 st c n' i (inS X e e')) n' _ _ _ _ = inS (lpS (lpL S0 st c n' i X) n' _ _ _ _) e e'
    rw [in_lpL, in_lp]
/-- under way in chain c at place p -/
def RI (S0 : ST) (c u p : Nat) (L : List (Nat × Nat)) (x : CM) (T : MT) : Prop := RT (insL (pend x.2.1 x.2.2 p ++ L) x.1) T ∧ (T.1 66 u = i32 c ∧ T.1 67 u = i32 p) ∧ (∀ q, q < p → T.1 64 (S0.1 18 (10 * c + q)) = i32 (x.2.1 q)) ∧ ∀ y, y < S0.1 16 0 → Sub S0 c p y → T.1 65 y = -1
/-- what chain c leaves as it was -/
def FW (S0 : ST) (c u : Nat) (T T' : MT) : Prop := (∀ j, j < u → T'.1 66 j = T.1 66 j ∧ T'.1 67 j = T.1 67 j) ∧ (∀ s e, s < S0.1 1 0 → S0.1 8 s = e + 1 → c < e → T'.1 64 s = T.1 64 s) ∧ ∀ y, y < S0.1 16 0 → ¬ Sub S0 c 0 y → T'.1 65 y = T.1 65 y
theorem FW.refl (T : MT) : FW S0 c u T T := ⟨fun _ _ => ⟨rfl, rfl⟩, fun _ _ _ _ _ => rfl, fun _ _ _ => rfl⟩
theorem FW.trans (h : FW S0 c u T T1) (h' : FW S0 c u T1 T2) : FW S0 c u T T2 :=
  ⟨fun j hj => ⟨(h'.1 j hj).1.trans (h.1 j hj).1, (h'.1 j hj).2.trans (h.1 j hj).2⟩, fun s e h1 h2 h3 => (h'.2.1 s e h1 h2 h3).trans (h.2.1 s e h1 h2 h3), fun y h1 h2 => (h'.2.2 y h1 h2).trans (h.2.2 y h1 h2)⟩
def fuW (S0 : ST) : Nat → Nat := fun e => S0.1 17 e + 2
/-- what the reference's remaking of a chain comes to -/
def RMa (E N : Nat) (S0 : ST) (st so f : Nat) : Prop := ∀ (c u : Nat) (S : ST) (L : List (Nat × Nat)) (T : MT) (v1 : Int32), c < f → c < S0.1 16 0 → S0.1 17 c ≠ 0 → cso S0 c = so → wt (bad S0 st) S0 f c = 0 → Ex S0 S → WF E S → S.1 1 0 + wt (S0.1 17) S0 f c ≤ 60 → S.1 16 0 + wt oneF S0 f c ≤ 20 → u + c < 20 →
  (∀ e, e ∈ L → (S0.1 1 0 ≤ e.1 ∧ e.1 < S.1 1 0) ∧ S0.1 16 0 ≤ e.2 ∧ e.2 < S.1 16 0) → RT (insL L S) T → T.1 66 u = i32 c → T.1 67 u = i32 0 → (∀ y, y < S0.1 16 0 → Sub S0 c 0 y → T.1 65 y = -1) →
  ∃ (T' : MT) (k : Nat), k + 1 = wt (fuW S0) S0 f c ∧ (∀ n, h_R_anew_47 N (n + k) v1 (i32 st) (i32 so) (i32 (u + 1)) T = h_R_anew_47 N n v1 (i32 st) (i32 so) (i32 u) T') ∧ RT (insL L (cvS S0 st f c S)) T' ∧ T'.1 65 c = i32 ((cvS S0 st f c S).1 16 0 - 1) ∧ FW S0 c u T T'
/-- the member is made: what is known then -/
theorem ri_next {z v : Nat} {T3 T4 : MT} (h66 : T.1 66 u = i32 c) (h64 : ∀ q, q < p → T.1 64 (S0.1 18 (10 * c + q)) = i32 (x.2.1 q)) (h65 : ∀ y, y < S0.1 16 0 → Sub S0 c (p + 1) y → T.1 65 y = -1) (hneq : ∀ q, q < p → S0.1 18 (10 * c + q) ≠ S0.1 18 (10 * c + p)) (hneh : ∀ s e, S0.1 8 s = e + 1 → c < e → s ≠ S0.1 18 (10 * c + p))
    (h3 : FrW T T3) (h4 : FrW (tsI (tsI T3 64 (S0.1 18 (10 * c + p)) (i32 v)) 67 u (i32 (p + 1))) T4) (hR : RT (insL (pend (up1 x.2.1 p v) (up1 x.2.2 p z) (p + 1) ++ L) Y) T4) :
    RI S0 c u (p + 1) L (Y, up1 x.2.1 p v, up1 x.2.2 p z) T4 ∧ FW S0 c u T T4 := by
  have k64 : ∀ j, T4.1 64 j = (tsI T3 64 (S0.1 18 (10 * c + p)) (i32 v)).1 64 j := fun j => congrFun h4.1 j
  have k65 : ∀ j, T4.1 65 j = T.1 65 j := fun j => (congrFun h4.2.1 j).trans (congrFun h3.2.1 j)
  have k66 : ∀ j, T4.1 66 j = T.1 66 j := fun j => (congrFun h4.2.2.1 j).trans (congrFun h3.2.2.1 j)
  have k67 : ∀ j, T4.1 67 j = (tsI T3 67 u (i32 (p + 1))).1 67 j := fun j => congrFun h4.2.2.2 j
  refine ⟨⟨hR, ⟨(k66 u).trans h66, (k67 u).trans ts_eq⟩, fun q hq => ?_, fun y hy hs => (k65 y).trans (h65 y hy hs)⟩, fun j hj => ⟨k66 j, ((k67 j).trans (ts_nj (by omega))).trans (congrFun h3.2.2.2 j)⟩, fun s e h1 h2 h3' => ((k64 s).trans (ts_nj (hneh s e h2 h3'))).trans (congrFun h3.1 s), fun y _ _ => k65 y⟩
  show T4.1 64 (S0.1 18 (10 * c + q)) = i32 (up1 x.2.1 p v q)
  by_cases e : q = p
  · subst e
    rw [k64, up1_eq]; exact ts_eq
  · rw [k64, up1_ne e]
    exact ((ts_nj (hneq q (by omega))).trans (congrFun h3.1 _)).trans (h64 q (by omega))
/-- one member more -/
theorem rmem_step (J0 : JJ G E B bx m ad S0 A0 C0 T0) (s3 : st < 3) {N : Nat} (hN : 100 ≤ N) (hI : RMa E N S0 st so f) (hcf : c < f + 1) (hc : c < S0.1 16 0) (hso : cso S0 c = so) (hok : okc S0 st c = true) (hb : wti (wt (bad S0 st) S0 f) S0 c (S0.1 17 c) = 0) (hx : Ex S0 S) (hW : WF E S) (h60 : S.1 1 0 + S0.1 17 c + wti (wt (S0.1 17) S0 f) S0 c (S0.1 17 c) ≤ 60) (h20 : S.1 16 0 + wti (wt oneF S0 f) S0 c (S0.1 17 c) + 1 ≤ 20)
    (hu : u + c < 20) (hL : ∀ e, e ∈ L → (S0.1 1 0 ≤ e.1 ∧ e.1 < S.1 1 0) ∧ S0.1 16 0 ≤ e.2 ∧ e.2 < S.1 16 0) {v1 : Int32} (hp : p < S0.1 17 c) (hR : RI S0 c u p L (cmS (cvS S0 st f) S0 st c p S) T) :
    ∃ (T' : MT) (k : Nat), k = 1 + (if S0.1 10 (S0.1 18 (10 * c + p)) = 0 then 0 else wt (fuW S0) S0 f (S0.1 10 (S0.1 18 (10 * c + p)) - 1)) ∧ (∀ n, h_R_anew_47 N (n + k) v1 (i32 st) (i32 so) (i32 (u + 1)) T = h_R_anew_47 N n v1 (i32 st) (i32 so) (i32 (u + 1)) T') ∧ RI S0 c u (p + 1) L (cmS (cvS S0 st f) S0 st c (p + 1) S) T' ∧ FW S0 c u T T' := by
  have w0 := jj_wc J0 hc
  have h10 := w0.1.1
  have hn := jj_n J0
  obtain ⟨i1, ⟨m1, m2, m3, m4, m5⟩, i3, i4⟩ := cm_facts J0 s3 (pu_all J0 s3 f) hcf hc hok hb hx hW h60 h20 p (by omega)
  have hm := w0.2.1 p hp
  have hokm : allR (okm S0 st c) 0 (S0.1 17 c) = true := by
    unfold okc at hok
    rw [Bool.and_eq_true] at hok
    exact hok.1
  have hokf : allR (okf S0 st (S0.1 18 (10 * c + p))) 0 (nfac (S0.1 2 (S0.1 18 (10 * c + p)))) = true := allR_iff.mp hokm p (Nat.zero_le _) (by omega)
  have n60 := wti_mono (S0 := S0) (r := wt (S0.1 17) S0 f) (c := c) (show p + 1 ≤ S0.1 17 c by omega)
  have n20 := wti_mono (S0 := S0) (r := wt oneF S0 f) (c := c) (show p + 1 ≤ S0.1 17 c by omega)
  have nb := wti_mono (S0 := S0) (r := wt (bad S0 st) S0 f) (c := c) (show p + 1 ≤ S0.1 17 c by omega)
  have e60 : wti (wt (S0.1 17) S0 f) S0 c (p + 1) = wti (wt (S0.1 17) S0 f) S0 c p + if S0.1 10 (S0.1 18 (10 * c + p)) = 0 then 0 else wt (S0.1 17) S0 f (S0.1 10 (S0.1 18 (10 * c + p)) - 1) := rfl
  have e20 : wti (wt oneF S0 f) S0 c (p + 1) = wti (wt oneF S0 f) S0 c p + if S0.1 10 (S0.1 18 (10 * c + p)) = 0 then 0 else wt oneF S0 f (S0.1 10 (S0.1 18 (10 * c + p)) - 1) := rfl
  have eb : wti (wt (bad S0 st) S0 f) S0 c (p + 1) = wti (wt (bad S0 st) S0 f) S0 c p + if S0.1 10 (S0.1 18 (10 * c + p)) = 0 then 0 else wt (bad S0 st) S0 f (S0.1 10 (S0.1 18 (10 * c + p)) - 1) := rfl
  obtain ⟨ht, ⟨h66, h67⟩, h64, h65⟩ := hR
  have hx1 := hx.1
  have m1' := m1.1
  have hsoS : S0.1 3 (S0.1 18 (10 * c + p)) = so := hm.2.2.2.trans hso
  -- what is put off lies among what there is
  have hQ : ∀ e, e ∈ pend (cmS (cvS S0 st f) S0 st c p S).2.1 (cmS (cvS S0 st f) S0 st c p S).2.2 p ++ L → (S0.1 1 0 ≤ e.1 ∧ e.1 < (cmS (cvS S0 st f) S0 st c p S).1.1 1 0) ∧ S0.1 16 0 ≤ e.2 ∧ e.2 < (cmS (cvS S0 st f) S0 st c p S).1.1 16 0 := fun e he => by
    rcases List.mem_append.mp he with he | he
    · obtain ⟨q, hq, hb0, rfl⟩ := pend_mem he
      have a1 := (m2 q hq).1
      rcases m4 q hq with z | ⟨d, d', z1, z2, z3, z4⟩
      · exact absurd z.2 hb0
      · have := z4.1.1
        refine ⟨⟨?_, ?_⟩, ?_, ?_⟩ <;> dsimp only <;> omega
    · obtain ⟨⟨a1, a2⟩, a3, a4⟩ := hL e he
      exact ⟨⟨a1, by omega⟩, a3, by omega⟩
  have hxX : Ex S0 (cmS (cvS S0 st f) S0 st c p S).1 := hx.trans m1
  have hxQ := ex_insL hxX fun e he => ⟨(hQ e he).1.1, (hQ e he).2.1⟩
  obtain ⟨r17, r20, r18, -⟩ := rd_chn hxQ ht hc
  obtain ⟨-, -, r10, -⟩ := rd_sec hxQ ht hm.1
  have hs60 : S0.1 18 (10 * c + p) < 60 := by omega
  -- places of c are of different sections
  have hneq : ∀ q, q < p → S0.1 18 (10 * c + q) ≠ S0.1 18 (10 * c + p) := fun q hq e => by
    have a1 := (w0.2.1 q (by omega)).2.2.1
    have a2 := hm.2.2.1
    rw [e] at a1
    omega
  have hneh : ∀ s e, S0.1 8 s = e + 1 → c < e → s ≠ S0.1 18 (10 * c + p) := fun s e h1 h2 h3 => by
    have := hm.2.1
    rw [← h3] at this
    omega
  by_cases h0 : S0.1 10 (S0.1 18 (10 * c + p)) = 0
  · rw [if_pos h0] at e60 e20 eb ⊢
    have r10' : T.1 10 (S0.1 18 (10 * c + p)) = -1 := by rw [r10, h0]; exact im_zero
    have hcm : cmS (cvS S0 st f) S0 st c (p + 1) S = (cpS S0 st (S0.1 18 (10 * c + p)) (cmS (cvS S0 st f) S0 st c p S).1, up1 (cmS (cvS S0 st f) S0 st c p S).2.1 p ((cmS (cvS S0 st f) S0 st c p S).1.1 1 0), up1 (cmS (cvS S0 st f) S0 st c p S).2.2 p 0) := by
      show (cpS S0 st (S0.1 18 (10 * c + p)) (if S0.1 10 (S0.1 18 (10 * c + p)) = 0 then _ else _), up1 _ p ((if S0.1 10 (S0.1 18 (10 * c + p)) = 0 then _ else _ : ST).1 1 0), up1 _ p (if S0.1 10 (S0.1 18 (10 * c + p)) = 0 then 0 else _)) = _
      rw [if_pos h0, if_pos h0]
    rw [hcm]
    obtain ⟨T1, u1, u2, u3⟩ := rsec_run J0 s3 hm.1 hokf hN hxX i1 (by omega) (fun e he => ⟨(hQ e he).1, (hQ e he).2.1⟩) ht
    rw [hsoS] at u1
    obtain ⟨f1, f2, f3, f4, f5, f6, f7, f8⟩ := cp_facts J0 hm.1 s3 hokf i1 (by omega)
    obtain ⟨-, -, q10, -⟩ := rd_sec (ex_insL (f2 _ hxX) fun e he => ⟨(hQ e he).1.1, (hQ e he).2.1⟩) u2 hm.1
    rw [h0] at q10
    have q10 : T1.1 10 (S0.1 18 (10 * c + p)) = -1 := q10.trans im_zero
    have q67 : T1.1 67 u = i32 p := by rw [u3.2.2.2]; exact h67
    obtain ⟨g1, g2⟩ := ri_next (L := L) (x := cmS (cvS S0 st f) S0 st c p S) (Y := cpS S0 st (S0.1 18 (10 * c + p)) (cmS (cvS S0 st f) S0 st c p S).1) (v := (cmS (cvS S0 st f) S0 st c p S).1.1 1 0) (z := 0) h66 h64 (fun y hy hs => h65 y hy (sub_succ hs)) hneq hneh u3 (FrW.refl _) (by rw [pend_s0]; exact rt_scI (rt_scI u2 (by decide)) (by decide))
    refine ⟨_, 1, rfl, fun w => ?_, g1, g2⟩
    rw [rplace (by omega) (by omega) h10 hp h66 h67 r17 (r18 p (by omega)) hs60 (Or.inl r10'), u1]
    exact rlink0 hs60 (by omega) q67 q10
  · rw [if_neg h0] at e60 e20 eb ⊢
    obtain ⟨d, hd⟩ : ∃ d, S0.1 10 (S0.1 18 (10 * c + p)) = d + 1 := ⟨S0.1 10 (S0.1 18 (10 * c + p)) - 1, by omega⟩
    have ed : S0.1 10 (S0.1 18 (10 * c + p)) - 1 = d := by omega
    rw [ed] at e60 e20 eb ⊢
    obtain ⟨v1', v2', v3', v4', v5'⟩ := inner_und J0 hc hp hd
    have hd16 : d < S0.1 16 0 := by omega
    have r10' : T.1 10 (S0.1 18 (10 * c + p)) = i32 d := by rw [r10, hd]; exact im_succ d
    have d65 : T.1 65 d = -1 := h65 d hd16 (Or.inr ⟨p, Nat.le_refl _, v1'⟩)
    obtain ⟨p1, p2, p3, p4, p5⟩ := pu_all J0 s3 f d (cmS (cvS S0 st f) S0 st c p S).1 (by omega) hd16 v3' (by omega) hxX i1 (by omega) (by omega)
    obtain ⟨T2, k2, t1, t2, t3, t4, t5⟩ := hI d (u + 1) (cmS (cvS S0 st f) S0 st c p S).1 _ (tsI (tsI T 66 (u + 1) (i32 d)) 67 (u + 1) 0) v1 (by omega) hd16 v3' (v4'.trans hsoS) (by omega) hxX i1 (by omega) (by omega) (by omega) hQ (rt_scI (rt_scI ht (by decide)) (by decide)) ((ts_ne (by decide)).trans ts_eq) ts_eq (fun y hy hs => (show T.1 65 y = -1 from h65 y hy (sub_inner J0 hd16 hy v1' hs).1))
    have o1 := wt_one (S0 := S0) (show d < f by omega)
    have hQ2 : ∀ e, e ∈ pend (cmS (cvS S0 st f) S0 st c p S).2.1 (cmS (cvS S0 st f) S0 st c p S).2.2 p ++ L → (S0.1 1 0 ≤ e.1 ∧ e.1 < (cvS S0 st f d (cmS (cvS S0 st f) S0 st c p S).1).1 1 0) ∧ S0.1 16 0 ≤ e.2 := fun e he => by
      obtain ⟨⟨a1, a2⟩, a3, a4⟩ := hQ e he
      exact ⟨⟨a1, by omega⟩, a3⟩
    have hxY := hxX.trans p2
    have hxQ2 := ex_insL hxY fun e he => ⟨(hQ2 e he).1.1, (hQ2 e he).2⟩
    obtain ⟨y17, y20, y18, -⟩ := rd_chn hxQ2 t3 hc
    obtain ⟨-, -, y10, -⟩ := rd_sec hxQ2 t3 hm.1
    rw [hd, im_succ] at y10
    obtain ⟨T3, u1, u2, u3⟩ := rsec_run J0 s3 hm.1 hokf hN hxY p1 (by omega) hQ2 t3
    rw [hsoS] at u1
    obtain ⟨f1, f2, f3, f4, f5, f6, f7, f8⟩ := cp_facts J0 hm.1 s3 hokf p1 (by omega)
    obtain ⟨-, -, q10, -⟩ := rd_sec (ex_insL (f2 _ hxY) fun e he => ⟨(hQ2 e he).1.1, (hQ2 e he).2⟩) u2 hm.1
    rw [hd, im_succ] at q10
    have t66 : T2.1 66 u = i32 c := ((t5.1 u (by omega)).1.trans (show (tsI (tsI T 66 (u + 1) (i32 d)) 67 (u + 1) 0).1 66 u = T.1 66 u from (ts_ne (by decide)).trans (ts_nj (by omega)))).trans h66
    have t67 : T2.1 67 u = i32 p := ((t5.1 u (by omega)).2.trans (show (tsI (tsI T 66 (u + 1) (i32 d)) 67 (u + 1) 0).1 67 u = T.1 67 u from (ts_nj (by omega)).trans (ts_ne (by decide)))).trans h67
    have q67 : T3.1 67 u = i32 p := by rw [u3.2.2.2]; exact t67
    have q65 : T3.1 65 d = i32 ((cvS S0 st f d (cmS (cvS S0 st f) S0 st c p S).1).1 16 0 - 1) := by rw [u3.2.1]; exact t4
    have n65 : ¬ T2.1 65 d = -1 := fun q => i32_nonneg (n := (cvS S0 st f d (cmS (cvS S0 st f) S0 st c p S).1).1 16 0 - 1) (by omega) (by rw [← t4, q]; decide)
    -- what stands of T at T2
    have fwT : FW S0 c u T T2 := ⟨fun j hj => ⟨(t5.1 j (by omega)).1.trans ((ts_ne (by decide)).trans (ts_nj (by omega))), (t5.1 j (by omega)).2.trans ((ts_nj (by omega)).trans (ts_ne (by decide)))⟩, fun s e h1 h2 h3 => t5.2.1 s e h1 h2 (by omega), fun y hy hs => t5.2.2 y hy (fun z => hs (sub_zero (sub_inner J0 hd16 hy v1' z).1))⟩
    have s64 : ∀ q, q < p → T2.1 64 (S0.1 18 (10 * c + q)) = i32 ((cmS (cvS S0 st f) S0 st c p S).2.1 q) := fun q hq => by
      have a := w0.2.1 q (by omega)
      exact (t5.2.1 _ c a.1 a.2.1 v2').trans (h64 q hq)
    have s65 : ∀ y, y < S0.1 16 0 → Sub S0 c (p + 1) y → T2.1 65 y = -1 := fun y hy hs =>
      (t5.2.2 y hy (fun z => (sub_inner J0 hd16 hy v1' z).2 hs)).trans (h65 y hy (sub_succ hs))
    have hcm : cmS (cvS S0 st f) S0 st c (p + 1) S = (cpS S0 st (S0.1 18 (10 * c + p)) (cvS S0 st f d (cmS (cvS S0 st f) S0 st c p S).1), up1 (cmS (cvS S0 st f) S0 st c p S).2.1 p ((cvS S0 st f d (cmS (cvS S0 st f) S0 st c p S).1).1 1 0), up1 (cmS (cvS S0 st f) S0 st c p S).2.2 p ((cvS S0 st f d (cmS (cvS S0 st f) S0 st c p S).1).1 16 0)) := by
      show (cpS S0 st (S0.1 18 (10 * c + p)) (if S0.1 10 (S0.1 18 (10 * c + p)) = 0 then _ else _), up1 _ p ((if S0.1 10 (S0.1 18 (10 * c + p)) = 0 then _ else _ : ST).1 1 0), up1 _ p (if S0.1 10 (S0.1 18 (10 * c + p)) = 0 then 0 else _)) = _
      rw [if_neg h0, if_neg h0, ed]
    obtain ⟨d', hd'⟩ : ∃ d', (cvS S0 st f d (cmS (cvS S0 st f) S0 st c p S).1).1 16 0 = d' + 1 := ⟨(cvS S0 st f d (cmS (cvS S0 st f) S0 st c p S).1).1 16 0 - 1, by omega⟩
    have ed' : (cvS S0 st f d (cmS (cvS S0 st f) S0 st c p S).1).1 16 0 - 1 = d' := by omega
    rw [ed'] at q65
    rw [hcm, hd']
    obtain ⟨g1, g2⟩ := ri_next (L := L) (x := cmS (cvS S0 st f) S0 st c p S) (Y := cpS S0 st (S0.1 18 (10 * c + p)) (cvS S0 st f d (cmS (cvS S0 st f) S0 st c p S).1)) (v := (cvS S0 st f d (cmS (cvS S0 st f) S0 st c p S).1).1 1 0) (z := d' + 1)
      (T4 := tsI (tsI (tsI (tsI T3 64 (S0.1 18 (10 * c + p)) (i32 ((cvS S0 st f d (cmS (cvS S0 st f) S0 st c p S).1).1 1 0))) 67 u (i32 (p + 1))) 10 ((cvS S0 st f d (cmS (cvS S0 st f) S0 st c p S).1).1 1 0) (i32 d')) 19 d' (i32 ((cvS S0 st f d (cmS (cvS S0 st f) S0 st c p S).1).1 1 0)))
      t66 s64 s65 hneq hneh u3 ⟨rfl, rfl, rfl, rfl⟩ (by
        rw [pend_s1]
        exact rt_inz (rt_scI (rt_scI u2 (by decide)) (by decide)))
    refine ⟨_, 1 + wt (fuW S0) S0 f d, rfl, fun w => ?_, g1, fwT.trans g2⟩
    rw [show w + (1 + wt (fuW S0) S0 f d) = (w + 1 + k2) + 1 by omega, rpush (by omega) (by omega) (by omega) h10 hp h66 h67 r17 (r18 p (by omega)) hs60 r10' d65, t2,
      rplace (by omega) (by omega) h10 hp t66 t67 y17 (y18 p (by omega)) hs60 (Or.inr ⟨d, by omega, y10, n65⟩), u1]
    exact rlink1 hs60 (by omega) (by omega) (by omega) (by omega) q67 q10 q65
theorem rm_all (J0 : JJ G E B bx m ad S0 A0 C0 T0) (s3 : st < 3) {N : Nat} (hN : 100 ≤ N) : ∀ f, RMa E N S0 st so f
  | 0 => fun c u S L T v1 h => absurd h (Nat.not_lt_zero _)
  | f + 1 => fun c u S L T v1 hcf hc h0 hso hb hx hW h60 h20 hu hL hR h66 h67 h65 => by
    have w0 := jj_wc J0 hc
    have h10 := w0.1.1
    have hn := jj_n J0
    have eb : wt (bad S0 st) S0 (f + 1) c = bad S0 st c + wti (wt (bad S0 st) S0 f) S0 c (S0.1 17 c) := rfl
    have e60 : wt (S0.1 17) S0 (f + 1) c = S0.1 17 c + wti (wt (S0.1 17) S0 f) S0 c (S0.1 17 c) := rfl
    have e20 : wt oneF S0 (f + 1) c = 1 + wti (wt oneF S0 f) S0 c (S0.1 17 c) := rfl
    have ef : wt (fuW S0) S0 (f + 1) c = S0.1 17 c + 2 + wti (wt (fuW S0) S0 f) S0 c (S0.1 17 c) := rfl
    have hok : okc S0 st c = true := by
      have hb0 : bad S0 st c = 0 := by omega
      unfold bad at hb0
      by_cases q : okc S0 st c = true
      · exact q
      · rw [if_neg q] at hb0; cases hb0
    have hokl : allR (okl S0 st c) 0 (S0.1 20 c) = true := by
      unfold okc at hok
      rw [Bool.and_eq_true] at hok
      exact hok.2
    have hb' : wti (wt (bad S0 st) S0 f) S0 c (S0.1 17 c) = 0 := by omega
    have hI : RMa E N S0 st so f := rm_all J0 s3 hN f
    -- the members
    have hmem : ∀ p, p ≤ S0.1 17 c → ∃ T1, (∀ n, h_R_anew_47 N (n + (p + wti (wt (fuW S0) S0 f) S0 c p)) v1 (i32 st) (i32 so) (i32 (u + 1)) T = h_R_anew_47 N n v1 (i32 st) (i32 so) (i32 (u + 1)) T1) ∧ RI S0 c u p L (cmS (cvS S0 st f) S0 st c p S) T1 ∧ FW S0 c u T T1 := fun p => by
      induction p with
      | zero => exact fun _ => ⟨T, fun n => rfl, ⟨hR, ⟨h66, h67⟩, fun q hq => absurd hq (Nat.not_lt_zero _), h65⟩, FW.refl T⟩
      | succ p ih =>
        intro hp
        obtain ⟨T1, a1, a2, a3⟩ := ih (by omega)
        obtain ⟨T2, k, b1, b2, b3, b4⟩ := rmem_step J0 s3 hN hI hcf hc hso hok hb' hx hW (by omega) (by omega) hu hL (v1 := v1) (show p < S0.1 17 c by omega) a2
        refine ⟨T2, fun n => ?_, b3, a3.trans b4⟩
        have e : wti (wt (fuW S0) S0 f) S0 c (p + 1) = wti (wt (fuW S0) S0 f) S0 c p + if S0.1 10 (S0.1 18 (10 * c + p)) = 0 then 0 else wt (fuW S0) S0 f (S0.1 10 (S0.1 18 (10 * c + p)) - 1) := rfl
        rw [show n + (p + 1 + wti (wt (fuW S0) S0 f) S0 c (p + 1)) = n + k + (p + wti (wt (fuW S0) S0 f) S0 c p) by omega, a1, b2]
    obtain ⟨T1, a1, ⟨a2, ⟨a3, a4⟩, a5, a6⟩, a7⟩ := hmem (S0.1 17 c) (Nat.le_refl _)
    obtain ⟨k1, k2, k3, k4⟩ := cm_facts J0 s3 (pu_all J0 s3 f) hcf hc hok hb' hx hW (by omega) (by omega) (S0.1 17 c) (Nat.le_refl _)
    have hxX := hx.trans k2.1
    have hx1 := hx.1
    have m1' := k2.1.1
    have hP : ∀ e, e ∈ pend (cmS (cvS S0 st f) S0 st c (S0.1 17 c) S).2.1 (cmS (cvS S0 st f) S0 st c (S0.1 17 c) S).2.2 (S0.1 17 c) → (S.1 1 0 ≤ e.1 ∧ e.1 < (cmS (cvS S0 st f) S0 st c (S0.1 17 c) S).1.1 1 0) ∧ S.1 16 0 ≤ e.2 ∧ e.2 < (cmS (cvS S0 st f) S0 st c (S0.1 17 c) S).1.1 16 0 := fun e he => by
      obtain ⟨m1, m2, m3, m4, m5⟩ := k2
      obtain ⟨q, hq, hb0, rfl⟩ := pend_mem he
      have a1 := (m2 q hq).1
      rcases m4 q hq with z | ⟨d, d', z1, z2, z3, z4⟩
      · exact absurd z.2 hb0
      · have := z4.1.1
        refine ⟨⟨?_, ?_⟩, ?_, ?_⟩ <;> dsimp only <;> omega
    have hQ : ∀ e, e ∈ pend (cmS (cvS S0 st f) S0 st c (S0.1 17 c) S).2.1 (cmS (cvS S0 st f) S0 st c (S0.1 17 c) S).2.2 (S0.1 17 c) ++ L → S0.1 1 0 ≤ e.1 ∧ S0.1 16 0 ≤ e.2 ∧ e.2 < (cmS (cvS S0 st f) S0 st c (S0.1 17 c) S).1.1 16 0 := fun e he => by
      rcases List.mem_append.mp he with he | he
      · obtain ⟨⟨b1, b2⟩, b3, b4⟩ := hP e he
        exact ⟨by omega, by omega, b4⟩
      · obtain ⟨⟨b1, b2⟩, b3, b4⟩ := hL e he
        exact ⟨b1, b3, by omega⟩
    obtain ⟨T2, g1, g2, g3⟩ := gathers_of J0 s3 hc h0 hokl hxX k1 (by omega) k2 hx hQ hN a2 a5
    rw [hso] at g1
    have hF := (fn_FX k2).1
    have hcv : cvS S0 st (f + 1) c S = fnS S0 st c (cmS (cvS S0 st f) S0 st c (S0.1 17 c) S) := rfl
    have hcnt : (cvS S0 st (f + 1) c S).1 16 0 - 1 = (cmS (cvS S0 st f) S0 st c (S0.1 17 c) S).1.1 16 0 := by rw [hcv, hF.2.1, Nat.add_sub_cancel]
    obtain ⟨r17, -, -, -⟩ := rd_chn (ex_insL hxX fun e he => ⟨(hQ e he).1, (hQ e he).2.1⟩) a2 hc
    refine ⟨tsI T2 65 c (i32 ((cmS (cvS S0 st f) S0 st c (S0.1 17 c) S).1.1 16 0)), S0.1 17 c + wti (wt (fuW S0) S0 f) S0 c (S0.1 17 c) + 1, by omega, fun n => ?_, ?_, ?_, a7.trans ?_⟩
    · rw [show n + (S0.1 17 c + wti (wt (fuW S0) S0 f) S0 c (S0.1 17 c) + 1) = n + 1 + (S0.1 17 c + wti (wt (fuW S0) S0 f) S0 c (S0.1 17 c)) by omega, a1]
      show (if i32 (u + 1) ≤ 0 then _ else _) = _
      rw [if_neg (by rw [show (0 : Int32) = i32 0 from rfl, i32_le (by omega) (by decide)]; omega), show i32 (u + 1) - 1 = i32 u from i32_sub (b := 1) (by omega), jrg_i32 (show u < 20 by omega) (by decide), obd_some, obd_some, a3, jrg_i32 (show c < 20 by omega) (by decide), obd_some, a4, r17, if_pos rfl, g1, tbd2_some, obd_some, jlet_eq,
        show i32 (u + 1) + (-1) = i32 u from by rw [← i32_add u 1, Int32.add_assoc, show i32 1 + (-1 : Int32) = 0 from by decide, Int32.add_zero]]
    · refine rt_scI ?_ (by decide)
      have e1 : insL L (cvS S0 st (f + 1) c S) = insL (pend (cmS (cvS S0 st f) S0 st c (S0.1 17 c) S).2.1 (cmS (cvS S0 st f) S0 st c (S0.1 17 c) S).2.2 (S0.1 17 c) ++ L) (lpL S0 st c ((cmS (cvS S0 st f) S0 st c (S0.1 17 c) S).1.1 16 0) (S0.1 20 c) (jnL ((cmS (cvS S0 st f) S0 st c (S0.1 17 c) S).1.1 16 0) (cmS (cvS S0 st f) S0 st c (S0.1 17 c) S).2.1 (S0.1 17 c) (chS (cmS (cvS S0 st f) S0 st c (S0.1 17 c) S).1))) := by
        rw [insL_app, insL_swap (fun e he e' he' => by
          obtain ⟨⟨b1, b2⟩, b3, b4⟩ := hL e he
          obtain ⟨⟨d1, d2⟩, d3, d4⟩ := hP e' he'
          exact ⟨by omega, by omega⟩), hcv]
        unfold fnS
        rw [← pend_in]
        exact congrArg (insL L) (insL_com (F := fun Z => lpL S0 st c ((cmS (cvS S0 st f) S0 st c (S0.1 17 c) S).1.1 16 0) (S0.1 20 c) Z) fun e _ Z _ _ => in_lpL)
      rw [e1]; exact g2
    · rw [hcnt]; exact ts_eq
    · refine ⟨fun j hj => ⟨congrFun g3.2.2.1 j, congrFun g3.2.2.2 j⟩, fun s e h1 h2 h3 => congrFun g3.1 s, fun y hy hs => ?_⟩
      exact (ts_nj (fun q => hs (Or.inl q))).trans (congrFun g3.2.1 y)
end RALL
