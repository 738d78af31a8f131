/-! same: both sides -/
section SAME
variable {G : GT} {E B bx m k c so : Nat} {ad : Nat → Nat} {S : ST} {A : AT} {C C' : CT} {T : MT}
theorem vb0_dv (h3 : so < 3) {b : Int64} (hv : vb so b) : vb 0 (dv so b).toInt64 := by
  show (dv so b) &&& 0x7fffffffffffffff ≤ 0x7ff0000000000000 ∨ (dv so b).toInt64 = 0x7ff8000000000000
  by_cases h2 : so < 2
  · obtain ⟨d, hd, rfl⟩ := vb_ev h2 hv
    rw [dv_ev h2 hd]
    by_cases hn : d = .nan
    · subst hn
      rw [rv_nan h2]
      exact Or.inr (by decide)
    · exact Or.inl ((n64_rv h2 hd).mpr hn)
  · have : so = 2 := by omega
    subst this
    refine Or.inl ((n64_iff _).mpr ?_)
    rw [dv2, FP.Core.val64_l2d]
    exact round_num (fun z => by cases z)
theorem bits0 (h3 : so < 3) {b : Int64} (hv : vb so b) : g_R_bitsOf (0 : Int32) (dv so b) = some (dv so b).toInt64 := by
  have e := bitsOf_dv (so := 0) (by decide) (vb0_dv h3 hv)
  exact e
theorem dv_inj (h3 : so < 3) {b b' : Int64} (hv : vb so b) (hv' : vb so b') (h : dv so b = dv so b') : b = b' := by
  have e := bitsOf_dv h3 hv
  rw [h, bitsOf_dv h3 hv'] at e
  exact (Option.some.inj e).symm
theorem dvb_iff (h3 : so < 3) {b b' : Int64} (hv : vb so b) (hv' : vb so b') : (dv so b).toInt64 = (dv so b').toInt64 ↔ b = b' :=
  ⟨fun h => dv_inj h3 hv hv' (congrArg Int64.toUInt64 h), fun h => by rw [h]⟩
/-- what is kept of a section, of a loop, of a chain is what there is -/
def SVs (S : ST) (k s : Nat) : Prop := S.2.1 48 (60 * k + s) = S.2.1 15 s ∧ ∀ y, y < rln S s → S.2.1 46 (64 * (60 * k + s) + (S.1 47 (60 * k + s) + y) % rln S s) = S.2.1 13 (64 * s + (S.1 14 s + y) % rln S s)
def SVl (S : ST) (k l : Nat) : Prop := ∀ y, y < S.1 23 l → S.2.1 49 (64 * (60 * k + l) + (S.1 50 (60 * k + l) + y) % S.1 23 l) = S.2.1 25 (64 * l + (S.1 26 l + y) % S.1 23 l)
def SVc (S : ST) (k d : Nat) : Prop := (∀ p, p < S.1 17 d → SVs S k (S.1 18 (10 * d + p))) ∧ ∀ q, q < S.1 20 d → SVl S k (3 * d + q)
/-- the kept values of a section, of a loop, of a chain lie in a row from x on -/
def VKs (S : ST) (C : CT) (b x k s : Nat) : Prop := C.2.2.2.1 900 b x = S.2.1 48 (60 * k + s) ∧ ∀ y, y < rln S s → C.2.2.2.1 900 b (x + 1 + y) = S.2.1 46 (64 * (60 * k + s) + (S.1 47 (60 * k + s) + y) % rln S s)
def VKl (S : ST) (C : CT) (b x k l : Nat) : Prop := ∀ y, y < S.1 23 l → C.2.2.2.1 900 b (x + y) = S.2.1 49 (64 * (60 * k + l) + (S.1 50 (60 * k + l) + y) % S.1 23 l)
def VKc (S : ST) (C : CT) (b x k d : Nat) : Prop := (∀ p, p < S.1 17 d → VKs S C b (x + sm (fV S d) p) k (S.1 18 (10 * d + p))) ∧ ∀ q, q < S.1 20 d → VKl S C b (x + sm (fV S d) (S.1 17 d) + sm (lV S d) q) k (3 * d + q)
theorem vk_of (hr : RKb S A C k) {t : TR} (hf : FT S k t) : C.1 (A 50 k) = 21 ∧ C.2.1 (A 50 k) = rmV S t t.1 ∧ ∀ i, i < t.1 → VKc S C (A 50 k) (rmV S t i) k (t.2 i) := by
  obtain ⟨-, -, -, g8, g9, gA⟩ := hr
  obtain ⟨f1, f2⟩ := hf
  have ek : ∀ i, i < t.1 → ksz S k (kch S k i) = vcn S (t.2 i) := fun i hi => by
    obtain ⟨h1, h2, h3⟩ := f2 i hi
    unfold ksz vcn
    rw [h1, h2, h3]
    rfl
  have es : ∀ i, i ≤ t.1 → sm (fun i => ksz S k (kch S k i)) i = rmV S t i := fun i hi => sm_congr fun j hj => ek j (by omega)
  refine ⟨g8, by rw [g9, f1]; exact es _ (Nat.le_refl _), fun i hi => ?_⟩
  obtain ⟨h1, h2, h3⟩ := f2 i hi
  have g := gA i (by omega)
  rw [es i (by omega), h1, h2, h3] at g
  exact ⟨fun p hp => g.1 p hp, fun q hq y hy => g.2 q hq y hy⟩
/-! the class -/
theorem rholds_go {N r a n e base rr x b L : Nat} {f : Nat → Int64} (hn : n ≤ 64) (hL : L < 1000000) (hx : x + n ≤ L) (h : RW C r a n e f base rr) (tb : C.1 b = 21) (lb : C.2.1 b = L) : ∀ (q g j : Nat), j + q = n → q < g →
    ∃ v, c_Row_holdsValues_2 N g r (some b) (i32 x) (i32 j) C = some v ∧ (v = true ↔ ∀ y, j ≤ y → y < n → C.2.2.2.1 900 b (x + y) = f (base + (rr + y) % n))
  | 0, 0, _, _, h => absurd h (by omega)
  | 0, g + 1, j, hj, _ => by
    have ec : cgA C r 6 0 = some (some a) := (if_pos h.1).trans (congrArg some h.2.1)
    have el : cal C a = some (i32 n) := cal_of (by rw [h.2.2.2.1]; decide) h.2.2.2.2.1
    refine ⟨true, ?_, fun _ y h1 h2 => absurd h2 (by omega), fun _ => rfl⟩
    unfold c_Row_holdsValues_2
    rw [ec, obd_some, obd_some, el, obd_some, if_pos (by rw [i32_le (by omega) (by omega)]; omega)]
  | q + 1, 0, _, _, h => absurd h (by omega)
  | q + 1, g + 1, j, hj, hq => by
    have ec : cgA C r 6 0 = some (some a) := (if_pos h.1).trans (congrArg some h.2.1)
    have el : cal C a = some (i32 n) := cal_of (by rw [h.2.2.2.1]; decide) h.2.2.2.2.1
    have eb : cal C b = some (i32 L) := cal_of (by rw [tb]; decide) lb
    obtain ⟨v', r3, r4⟩ := rholds_go (N := N) hn hL hx h tb lb q g (j + 1) (by omega) (by omega)
    have pre : c_Row_holdsValues_2 N (g + 1) r (some b) (i32 x) (i32 j) C = if C.2.2.2.1 900 b (x + j) = f (base + (rr + j) % n) then some v' else some false := by
      rw [← r3, show i32 (j + 1) = i32 j + 1 from (i32_add j 1).symm]
      show (obd (cgA C r 6 0) fun x1 => _) = _
      rw [ec, obd_some, obd_some, el, obd_some, if_neg (by rw [i32_le (by omega) (by omega)]; omega), i32_add, if_neg (i32_nonneg (by omega)), obd_some, eb, obd_some, if_neg (by rw [i32_le (by omega) (by omega)]; omega), caJ_of tb lb (by omega) (by omega), obd_some, cob_of (ci := 6) h.1, jgd_true, ring_at h.1 h.2.1 h.2.2.1 h.2.2.2 (by omega) hn, obd_some]
    rw [pre]
    by_cases hh : C.2.2.2.1 900 b (x + j) = f (base + (rr + j) % n)
    · rw [if_pos hh]
      refine ⟨v', rfl, ?_⟩
      rw [r4]
      exact ⟨fun z y h1 h2 => by
        by_cases e : y = j
        · subst e; exact hh
        · exact z y (by omega) h2, fun z y h1 h2 => z y (by omega) h2⟩
    · rw [if_neg hh]
      exact ⟨false, rfl, fun z => (by cases z), fun z => absurd (z j (Nat.le_refl _) (by omega)) hh⟩
theorem hold_step {N g d r row x n b : Nat} {v : Bool} (J : JJ G E B bx m ad S A C T) (hd : d < S.1 16 0) (hr : r < 2 * S.1 17 d + S.1 20 d) (hrow : c_Chain_rowAt (A 1 d) (i32 r) C = some (some row)) (h7 : C.1 row = 7) (hs : c_Row_size row C = some (i32 n)) (hv : c_Row_holdsValues N row (some b) (i32 x) C = some v) :
    c_Chain_holdsValues_5 N (g + 1) (A 1 d) (some b) (i32 x) (i32 r) C = if v = true then c_Chain_holdsValues_5 N g (A 1 d) (some b) (i32 (x + n)) (i32 (r + 1)) C else some false := by
  have w := (jj_wc J hd).1
  rw [show i32 (r + 1) = i32 r + 1 from (i32_add r 1).symm, ← i32_add x n]
  show (jgd (cob C (A 1 d) 1) _) = _
  rw [cob_of (rc_tag (jj_c J hd)), jgd_true, rowCount_of J hd, obd_some, if_neg (by rw [i32_le (by omega) (by omega)]; omega), jgd_true, hrow, obd_some, jon_some, cob_of (ci := 6) h7, jgd_true, hv, obd_some, jgd_true, hs, obd_some]
theorem hold56_go {N d x b L : Nat} (hN : 100 ≤ N) (J : JJ G E B bx m ad S A C T) (hd : d < S.1 16 0) (tb : C.1 b = 21) (lb : C.2.1 b = L) (hL : L < 1000000) (hx : x + sm (lV S d) (S.1 20 d) ≤ L) (hv : ∀ q, q < S.1 20 d → VKl S C b (x + sm (lV S d) q) k (3 * d + q)) : ∀ (q g i : Nat), i + q = S.1 20 d →
    ∃ v, c_Chain_holdsValues_5 N (g + 1 + q) (A 1 d) (some b) (i32 (x + sm (lV S d) i)) (i32 (2 * S.1 17 d + i)) C = some v ∧ (v = true ↔ ∀ y, i ≤ y → y < S.1 20 d → SVl S k (3 * d + y))
  | 0, g, i, hi => by
    have w := (jj_wc J hd).1
    refine ⟨true, ?_, fun _ y h1 h2 => absurd h2 (by omega), fun _ => rfl⟩
    show (jgd (cob C (A 1 d) 1) _) = _
    rw [cob_of (rc_tag (jj_c J hd)), jgd_true, rowCount_of J hd, obd_some, if_pos (by rw [i32_le (by omega) (by omega)]; omega)]
  | q + 1, g, i, hi => by
    have hw := (jj_wc J hd).2.2.2.2.1 i (by omega)
    have m1 := sm_mono (f := lV S d) (p := i + 1) (n := S.1 20 d) (by omega)
    have m2 : sm (lV S d) (i + 1) = sm (lV S d) i + S.1 23 (3 * d + i) := rfl
    have h64 := hw.2.2.2.1
    have hr := rl_rw J hd (i := i) (by omega)
    obtain ⟨v, r1, r2⟩ := rholds_go (N := N) (x := x + sm (lV S d) i) h64 hL (by omega) hr tb lb (S.1 23 (3 * d + i)) N 0 (by omega) (by omega)
    obtain ⟨v', r3, r4⟩ := hold56_go hN J hd tb lb hL hx hv q g (i + 1) (by omega)
    have pre := hold_step (g := g + 1 + q) (v := v) J hd (show 2 * S.1 17 d + i < 2 * S.1 17 d + S.1 20 d by omega) (rowAt_loop J hd (by omega)) hr.1 (rsize_of hr) (show c_Row_holdsValues N (A 67 (3 * d + i)) (some b) (i32 (x + sm (lV S d) i)) C = some v from r1)
    have r3' := r3
    rw [show x + sm (lV S d) (i + 1) = x + sm (lV S d) i + S.1 23 (3 * d + i) by omega, show 2 * S.1 17 d + (i + 1) = 2 * S.1 17 d + i + 1 by omega] at r3'
    rw [r3'] at pre
    have e : v = true ↔ SVl S k (3 * d + i) := by
      rw [r2]
      have hv' := hv i (by omega)
      exact ⟨fun z y hy => (hv' y hy).symm.trans (z y (Nat.zero_le _) hy), fun z y _ hy => (hv' y hy).trans (z y hy)⟩
    cases v with
    | true =>
      refine ⟨v', pre, ?_⟩
      rw [r4]
      have z0 := e.mp rfl
      exact ⟨fun z y h1 h2 => by
        by_cases ey : y = i
        · subst ey; exact z0
        · exact z y (by omega) h2, fun z y h1 h2 => z y (by omega) h2⟩
    | false => exact ⟨false, pre, fun z => (by cases z), fun z => e.mpr (z i (Nat.le_refl _) (by omega))⟩
theorem hold5_go {N d x b L : Nat} (hN : 100 ≤ N) (J : JJ G E B bx m ad S A C T) (hd : d < S.1 16 0) (tb : C.1 b = 21) (lb : C.2.1 b = L) (hL : L < 1000000) (hx : x + vcn S d ≤ L) (hv : VKc S C b x k d) : ∀ (q g p : Nat), p + q = S.1 17 d →
    ∃ v, c_Chain_holdsValues_5 N (g + 1 + S.1 20 d + 2 * q) (A 1 d) (some b) (i32 (x + sm (fV S d) p)) (i32 (2 * p)) C = some v ∧ (v = true ↔ (∀ y, p ≤ y → y < S.1 17 d → SVs S k (S.1 18 (10 * d + y))) ∧ ∀ y, y < S.1 20 d → SVl S k (3 * d + y))
  | 0, g, p, hp => by
    have hx' := hx
    unfold vcn at hx'
    obtain ⟨v, r1, r2⟩ := hold56_go (k := k) (x := x + sm (fV S d) (S.1 17 d)) hN J hd tb lb hL (by omega) hv.2 (S.1 20 d) g 0 (by omega)
    have : p = S.1 17 d := by omega
    refine ⟨v, ?_, ?_⟩
    · rw [this]
      exact r1
    · rw [r2]
      exact ⟨fun z => ⟨fun y h1 h2 => absurd h2 (by omega), fun y hy => z y (Nat.zero_le _) hy⟩, fun z y _ hy => z.2 y hy⟩
  | q + 1, g, p, hp => by
    have hs := places_lt J hd (p := p) (by omega)
    have hle := rln_le J hs
    have m1 := sm_mono (f := fV S d) (p := p + 1) (n := S.1 17 d) (by omega)
    have m2 : sm (fV S d) (p + 1) = sm (fV S d) p + (rln S (S.1 18 (10 * d + p)) + 1) := rfl
    have hx' := hx
    unfold vcn at hx'
    have hvp := hv.1 p (by omega)
    obtain ⟨v0, z1, z2⟩ := rholds_go (N := N) (x := x + sm (fV S d) p) (by decide) hL (by omega) (rest_rw J hs) tb lb 1 N 0 (by omega) (by omega)
    obtain ⟨v, r1, r2⟩ := rholds_go (N := N) (x := x + sm (fV S d) p + 1) hle hL (by omega) (rs_rw J hs) tb lb (rln S (S.1 18 (10 * d + p))) N 0 (by omega) (by omega)
    obtain ⟨v', r3, r4⟩ := hold5_go hN J hd tb lb hL hx hv q g (p + 1) (by omega)
    have pre0 := hold_step (g := g + 1 + S.1 20 d + 2 * q + 1) (v := v0) J hd (show 2 * p < 2 * S.1 17 d + S.1 20 d by omega) (rowAt_rest J hd (by omega)) (rest_rw J hs).1 (rsize_of (rest_rw J hs)) (show c_Row_holdsValues N (A 121 (S.1 18 (10 * d + p))) (some b) (i32 (x + sm (fV S d) p)) C = some v0 from z1)
    have pre := hold_step (g := g + 1 + S.1 20 d + 2 * q) (v := v) J hd (show 2 * p + 1 < 2 * S.1 17 d + S.1 20 d by omega) (rowAt_states J hd (by omega)) (rs_rw J hs).1 (rsize_of (rs_rw J hs)) (show c_Row_holdsValues N (A 118 (S.1 18 (10 * d + p))) (some b) (i32 (x + sm (fV S d) p + 1)) C = some v from r1)
    rw [show x + sm (fV S d) p + 1 + rln S (S.1 18 (10 * d + p)) = x + sm (fV S d) (p + 1) by omega, show 2 * p + 1 + 1 = 2 * (p + 1) by omega, r3] at pre
    rw [pre] at pre0
    have e0 : v0 = true ↔ S.2.1 48 (60 * k + S.1 18 (10 * d + p)) = S.2.1 15 (S.1 18 (10 * d + p)) := by
      rw [z2]
      refine ⟨fun z => hvp.1.symm.trans (z 0 (Nat.le_refl _) (by decide)), fun z y _ hy => ?_⟩
      have : y = 0 := by omega
      subst this
      exact hvp.1.trans z
    have e : v = true ↔ ∀ y, y < rln S (S.1 18 (10 * d + p)) → S.2.1 46 (64 * (60 * k + S.1 18 (10 * d + p)) + (S.1 47 (60 * k + S.1 18 (10 * d + p)) + y) % rln S (S.1 18 (10 * d + p))) = S.2.1 13 (64 * S.1 18 (10 * d + p) + (S.1 14 (S.1 18 (10 * d + p)) + y) % rln S (S.1 18 (10 * d + p))) := by
      rw [r2]
      exact ⟨fun z y hy => (hvp.2 y hy).symm.trans (z y (Nat.zero_le _) hy), fun z y _ hy => (hvp.2 y hy).trans (z y hy)⟩
    cases v0 with
    | true =>
      cases v with
      | true =>
        refine ⟨v', pre0, ?_⟩
        rw [r4]
        have z0 : SVs S k (S.1 18 (10 * d + p)) := ⟨e0.mp rfl, e.mp rfl⟩
        exact ⟨fun z => ⟨fun y h1 h2 => by
          by_cases ey : y = p
          · subst ey; exact z0
          · exact z.1 y (by omega) h2, z.2⟩, fun z => ⟨fun y h1 h2 => z.1 y (by omega) h2, z.2⟩⟩
      | false => exact ⟨false, pre0, fun z => (by cases z), fun z => e.mpr (z.1 p (Nat.le_refl _) (by omega)).2⟩
    | false => exact ⟨false, pre0, fun z => (by cases z), fun z => e0.mpr (z.1 p (Nat.le_refl _) (by omega)).1⟩
theorem cholds_of {N d x b L : Nat} (hN : 100 ≤ N) (J : JJ G E B bx m ad S A C T) (hd : d < S.1 16 0) (tb : C.1 b = 21) (lb : C.2.1 b = L) (hL : L < 1000000) (hx : x + vcn S d ≤ L) (hv : VKc S C b x k d) :
    ∃ v, c_Chain_holdsValues N (A 1 d) (some b) (i32 x) C = some v ∧ (v = true ↔ SVc S k d) := by
  have h10 := (jj_wc J hd).1.1
  obtain ⟨n, hn⟩ : ∃ n, N = n + 1 + S.1 20 d + 2 * S.1 17 d := ⟨N - 1 - S.1 20 d - 2 * S.1 17 d, by have := (jj_wc J hd).1; omega⟩
  obtain ⟨v, r1, r2⟩ := hold5_go (k := k) hN J hd tb lb hL hx hv (S.1 17 d) n 0 (by omega)
  refine ⟨v, ?_, ?_⟩
  · unfold c_Chain_holdsValues
    have en : c_Chain_holdsValues_5 N N = c_Chain_holdsValues_5 N (n + 1 + S.1 20 d + 2 * S.1 17 d) := congrArg (c_Chain_holdsValues_5 N) hn
    rw [en]
    exact r1
  · rw [r2]
    exact ⟨fun z => ⟨fun p hp => z.1 p (Nat.zero_le _) hp, z.2⟩, fun z => ⟨fun p _ hp => z.1 p hp, z.2⟩⟩
theorem same25_go {N b : Nat} (hN : 100 ≤ N) (J : JJ G E B bx m ad S A C T) {t : TR} (h20 : t.1 ≤ 20) (hH : TH A C t) (ht : ∀ a, a < t.1 → t.2 a < S.1 16 0) (t48 : C.1 (A 48 k) = 4) (f50 : C.2.2.2.2.1 50 (A 48 k) 0 = some b) (tb : C.1 b = 21) (lb : C.2.1 b = rmV S t t.1) (hcc : c_Kept_chainCount (A 48 k) C = some (i32 t.1)) (hv : ∀ i, i < t.1 → VKc S C b (rmV S t i) k (t.2 i)) : ∀ (q g i : Nat), i + q = t.1 → q < g →
    ∃ v, c_B_same_25 N g bx (A 48 k) (i32 (rmV S t i)) (i32 i) C = some (v, C) ∧ (v = true ↔ ∀ x, i ≤ x → x < t.1 → SVc S k (t.2 x))
  | 0, 0, _, _, h => absurd h (by omega)
  | 0, g + 1, i, hi, _ => by
    refine ⟨true, ?_, fun _ x h1 h2 => absurd h2 (by omega), fun _ => rfl⟩
    unfold c_B_same_25
    rw [cob_of (ci := 3) t48, jgd_true, hcc, obd_some, if_pos (by rw [i32_le (by omega) (by omega)]; omega)]
  | q + 1, 0, _, _, h => absurd h (by omega)
  | q + 1, g + 1, i, hi, hq => by
    have hb := jj_b J
    have hd := ht i (by omega)
    have hrm := rmV_le J ht t.1 (Nat.le_refl _)
    have e : rmV S t (i + 1) = rmV S t i + vcn S (t.2 i) := rfl
    have hm : rmV S t (i + 1) ≤ rmV S t t.1 := sm_mono (f := fun i => vcn S (t.2 i)) (by omega)
    have hca : caA C (A 3 3) 1 (i32 i) = some (some (A 1 (t.2 i))) := by
      rw [caA_of (ci := 1) (n := 20) hb.2.2.2.2.2.2.1.1 (by decide) hb.2.2.2.2.2.2.1.2 (by omega) (by decide), hH i (by omega)]
    have e50 : cgA C (A 48 k) 3 2 = some (some b) := (if_pos t48).trans (congrArg some f50)
    obtain ⟨v, r1, r2⟩ := cholds_of (k := k) (x := rmV S t i) hN J hd tb lb (by omega) (by omega) (hv i (by omega))
    obtain ⟨v', r3, r4⟩ := same25_go hN J h20 hH ht t48 f50 tb lb hcc hv q g (i + 1) (by omega) (by omega)
    have pre : c_B_same_25 N (g + 1) bx (A 48 k) (i32 (rmV S t i)) (i32 i) C = if v = true then some (v', C) else some (false, C) := by
      rw [← r3, show i32 (i + 1) = i32 i + 1 from (i32_add i 1).symm, e, ← i32_add (rmV S t i) (vcn S (t.2 i))]
      show (jgd (cob C (A 48 k) 3) _) = _
      rw [cob_of (ci := 3) t48, jgd_true, hcc, obd_some, if_neg (by rw [i32_le (by omega) (by omega)]; omega), rb_tree hb, obd_some, obd_some, cal_of (n := 20) (by rw [hb.2.2.2.2.2.2.1.1]; decide) hb.2.2.2.2.2.2.1.2, obd_some, if_neg (by rw [i32_le (by omega) (by omega)]; omega), obd_some, obd_some, hca, obd_some, jon_some, obd_some, obd_some, hca, obd_some, e50, obd_some, obd_some, cob_of (rc_tag (jj_c J hd)), jgd_true, r1, obd_some, obd_some, obd_some, hca, obd_some, obd_some, cob_of (rc_tag (jj_c J hd)), jgd_true, cvc_of hN J hd, obd_some]
    rw [pre]
    cases v with
    | true =>
      refine ⟨v', rfl, ?_⟩
      rw [r4]
      have z0 := r2.mp rfl
      exact ⟨fun z x h1 h2 => by
        by_cases ex : x = i
        · subst ex; exact z0
        · exact z x (by omega) h2, fun z x h1 h2 => z x (by omega) h2⟩
    | false => exact ⟨false, rfl, fun z => (by cases z), fun z => r2.mpr (z i (Nat.le_refl _) (by omega))⟩
/-! the reference -/
theorem ksec_of (hr : RKb S A C k) {t : TR} (hf : FT S k t) {i : Nat} (hi : i < t.1) : (∀ p, p < S.1 17 (t.2 i) → KWs S k (S.1 18 (10 * t.2 i + p))) ∧ ∀ q, q < S.1 20 (t.2 i) → KWl S k (t.2 i) (3 * t.2 i + q) := by
  obtain ⟨-, ⟨-, -, -, -, -, -, -, -, kw⟩, -⟩ := hr
  obtain ⟨f1, f2⟩ := hf
  obtain ⟨h1, h2, h3⟩ := f2 i hi
  have h1 : S.1 73 (20 * k + i) = t.2 i := h1
  have w := kw i (by omega)
  rw [h1, h2, h3] at w
  exact ⟨w.1, fun q hq => (w.2 q hq).2⟩
theorem al37_go {N l d : Nat} {k4 : Int32 → Int32 → Int32 → MT → Option Bool} {v1 v2 : Int32} (hR : RT S T) (hl : l < 60) (hk : k < 8) (hso : cso S d < 3) (hd : l / 3 = d) (hn : 1 ≤ S.1 23 l) (h64 : S.1 23 l ≤ 64) (h26 : S.1 26 l < S.1 23 l) (hw : KWl S k d l) (hv : ∀ y, y < 64 → vb (cso S d) (S.2.1 25 (64 * l + y))) : ∀ (q g j : Nat), j + q = S.1 23 l → q < g →
    ∃ u : Bool, h_R_alike_37 N k4 g v1 v2 (i32 l) (i32 (60 * k + l)) (i32 (S.1 23 l)) (i32 j) T = (if u = true then k4 v1 v2 (i32 (l + 1)) T else some false) ∧ (u = true ↔ ∀ y, j ≤ y → y < S.1 23 l → S.2.1 49 (64 * (60 * k + l) + (S.1 50 (60 * k + l) + y) % S.1 23 l) = S.2.1 25 (64 * l + (S.1 26 l + y) % S.1 23 l))
  | 0, 0, _, _, h => absurd h (by omega)
  | 0, g + 1, j, hj, _ => by
    refine ⟨true, ?_, fun _ y h1 h2 => absurd h2 (by omega), fun _ => rfl⟩
    unfold h_R_alike_37
    rw [if_pos (by rw [i32_le (by omega) (by omega)]; omega), show i32 l + 1 = i32 (l + 1) from i32_add l 1, if_pos rfl]
  | q + 1, 0, _, _, h => absurd h (by omega)
  | q + 1, g + 1, j, hj, hq => by
    have m1 := Nat.mod_lt (S.1 26 l + j) (show 0 < S.1 23 l by omega)
    have m2 := Nat.mod_lt (S.1 50 (60 * k + l) + j) (show 0 < S.1 23 l by omega)
    have h50 := hw.1
    obtain ⟨u, r3, r4⟩ := al37_go (N := N) (k4 := k4) (v1 := v1) (v2 := v2) hR hl hk hso hd hn h64 h26 hw hv q g (j + 1) (by omega) (by omega)
    have x1 := hv _ (show (S.1 26 l + j) % S.1 23 l < 64 by omega)
    have x2 := hw.2 _ (show (S.1 50 (60 * k + l) + j) % S.1 23 l < 64 by omega)
    have d1 : T.2.2.1 25 (64 * l + (S.1 26 l + j) % S.1 23 l) = dv (cso S d) (S.2.1 25 (64 * l + (S.1 26 l + j) % S.1 23 l)) := by
      rw [hR.2.2.2.2.2.2.2.2.1]
      congr 2
      omega
    have d2 : T.2.2.1 49 (64 * (60 * k + l) + (S.1 50 (60 * k + l) + j) % S.1 23 l) = dv (cso S d) (S.2.1 49 (64 * (60 * k + l) + (S.1 50 (60 * k + l) + j) % S.1 23 l)) := by
      rw [hR.2.2.2.2.2.2.2.2.2.2.2]
      congr 2
      omega
    have pre : h_R_alike_37 N k4 (g + 1) v1 v2 (i32 l) (i32 (60 * k + l)) (i32 (S.1 23 l)) (i32 j) T = if (dv (cso S d) (S.2.1 25 (64 * l + (S.1 26 l + j) % S.1 23 l))).toInt64 = (dv (cso S d) (S.2.1 49 (64 * (60 * k + l) + (S.1 50 (60 * k + l) + j) % S.1 23 l))).toInt64 then h_R_alike_37 N k4 g v1 v2 (i32 l) (i32 (60 * k + l)) (i32 (S.1 23 l)) (i32 (j + 1)) T else some false := by
      show (if i32 (S.1 23 l) ≤ i32 j then _ else _) = _
      rw [if_neg (by rw [i32_le (by omega) (by omega)]; omega), jrg_i32 hl (by decide), obd_some, hR.1 26 (by decide), i32_add, jrem_i32 (by omega) (by omega) (by omega), obd_some, show (64 : Int32) * i32 l + i32 ((S.1 26 l + j) % S.1 23 l) = i32 (64 * l + (S.1 26 l + j) % S.1 23 l) from by rw [show (64 : Int32) = i32 64 from rfl, i32_mul, i32_add], jrg_i32 (show 64 * l + (S.1 26 l + j) % S.1 23 l < 3840 by omega) (by decide), obd_some, d1, bits0 hso x1, obd_some,
        jrg_i32 (show 60 * k + l < 480 by omega) (by decide), obd_some, hR.1 50 (by decide), i32_add, jrem_i32 (by omega) (by omega) (by omega), obd_some, show (64 : Int32) * i32 (60 * k + l) + i32 ((S.1 50 (60 * k + l) + j) % S.1 23 l) = i32 (64 * (60 * k + l) + (S.1 50 (60 * k + l) + j) % S.1 23 l) from by rw [show (64 : Int32) = i32 64 from rfl, i32_mul, i32_add], jrg_i32 (show 64 * (60 * k + l) + (S.1 50 (60 * k + l) + j) % S.1 23 l < 30720 by omega) (by decide), obd_some, d2, bits0 hso x2, obd_some, show i32 j + 1 = i32 (j + 1) from i32_add j 1]
    rw [pre]
    by_cases hh : S.2.1 25 (64 * l + (S.1 26 l + j) % S.1 23 l) = S.2.1 49 (64 * (60 * k + l) + (S.1 50 (60 * k + l) + j) % S.1 23 l)
    · rw [if_pos ((dvb_iff hso x1 x2).mpr hh), r3]
      refine ⟨u, rfl, ?_⟩
      rw [r4]
      exact ⟨fun z y h1 h2 => by
        by_cases e : y = j
        · subst e; exact hh.symm
        · exact z y (by omega) h2, fun z y h1 h2 => z y (by omega) h2⟩
    · rw [if_neg (fun z => hh ((dvb_iff hso x1 x2).mp z))]
      exact ⟨false, rfl, fun z => (by cases z), fun z => absurd (z j (Nat.le_refl _) (by omega)).symm hh⟩
end SAME
