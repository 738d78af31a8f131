/-! the class saves values in a row of longs -/
section KSAVE
variable {G : GT} {E B bx m b L : Nat} {ad : Nat → Nat} {S : ST} {A : AT} {C C' : CT} {T : MT}
theorem sm_mono {f : Nat → Nat} {p : Nat} : ∀ {n : Nat}, p ≤ n → sm f p ≤ sm f n
  | 0, h => by
    have : p = 0 := by omega
    subst this; exact Nat.le_refl _
  | n + 1, h => by
    by_cases e : p = n + 1
    · subst e; exact Nat.le_refl _
    · exact Nat.le_trans (sm_mono (n := n) (by omega)) (Nat.le_add_right _ _)
theorem sm_succ {f : Nat → Nat} {n : Nat} : sm f (n + 1) = sm f n + f n := rfl
/-- only longs of one row change, between two places -/
def Wb (b lo hi : Nat) (C C' : CT) : Prop := C'.1 = C.1 ∧ C'.2.1 = C.2.1 ∧ C'.2.2.1 = C.2.2.1 ∧ (∀ k x j, ¬ (k = 900 ∧ x = b ∧ lo ≤ j ∧ j < hi) → C'.2.2.2.1 k x j = C.2.2.2.1 k x j) ∧ C'.2.2.2.2 = C.2.2.2.2
theorem Wb.refl {lo hi : Nat} : Wb b lo hi C C := ⟨rfl, rfl, rfl, fun _ _ _ _ => rfl, rfl⟩
theorem Wb.mono {lo hi lo' hi' : Nat} (h : Wb b lo hi C C') (h1 : lo' ≤ lo) (h2 : hi ≤ hi') : Wb b lo' hi' C C' := ⟨h.1, h.2.1, h.2.2.1, fun k x j q => h.2.2.2.1 k x j (fun z => q ⟨z.1, z.2.1, by omega, by omega⟩), h.2.2.2.2⟩
theorem Wb.trans {lo hi : Nat} {C'' : CT} (h : Wb b lo hi C C') (h' : Wb b lo hi C' C'') : Wb b lo hi C C'' := ⟨h'.1.trans h.1, h'.2.1.trans h.2.1, h'.2.2.1.trans h.2.2.1, fun k x j q => (h'.2.2.2.1 k x j q).trans (h.2.2.2.1 k x j q), h'.2.2.2.2.trans h.2.2.2.2⟩
theorem Wb.cat {lo mi hi : Nat} {C'' : CT} (h : Wb b lo mi C C') (h' : Wb b mi hi C' C'') (h1 : lo ≤ mi) (h2 : mi ≤ hi) : Wb b lo hi C C'' := (h.mono (Nat.le_refl _) h2).trans (h'.mono h1 (Nat.le_refl _))
theorem wb_csJ {j : Nat} {v : Int64} {lo hi : Nat} (h1 : lo ≤ j) (h2 : j < hi) : Wb b lo hi C (csJ C 900 b j v) := ⟨rfl, rfl, rfl, fun k x y q => by
  simp only [csJ, up3]
  rw [if_neg (fun z => q ⟨z.1, z.2.1, by omega, by omega⟩)], rfl⟩
/-- a place that is none of what there is -/
def Fa (bx : Nat) (S : ST) (A : AT) (C : CT) (x : Nat) : Prop := bx ≠ x ∧ (∀ t i, VA S t i → t ≠ 0 → A t i ≠ x) ∧ (C.2.2.2.2.1 37 (A 2 0) 0 ≠ none → ∀ i, i ∈ [1, 2] → A 0 i ≠ x)
/-- only ints of one row and longs of another change -/
def W2 (a b : Nat) (C C' : CT) : Prop := C'.1 = C.1 ∧ C'.2.1 = C.2.1 ∧ (∀ k x j, ¬ (k = 900 ∧ x = a) → C'.2.2.1 k x j = C.2.2.1 k x j) ∧ (∀ k x j, ¬ (k = 900 ∧ x = b) → C'.2.2.2.1 k x j = C.2.2.2.1 k x j) ∧ C'.2.2.2.2 = C.2.2.2.2
theorem W2.refl {a : Nat} : W2 a b C C := ⟨rfl, rfl, fun _ _ _ _ => rfl, fun _ _ _ _ => rfl, rfl⟩
theorem W2.trans {a : Nat} {C'' : CT} (h : W2 a b C C') (h' : W2 a b C' C'') : W2 a b C C'' := ⟨h'.1.trans h.1, h'.2.1.trans h.2.1, fun k x j q => (h'.2.2.1 k x j q).trans (h.2.2.1 k x j q), fun k x j q => (h'.2.2.2.1 k x j q).trans (h.2.2.2.1 k x j q), h'.2.2.2.2.trans h.2.2.2.2⟩
theorem Wb.w2 {a lo hi : Nat} (h : Wb b lo hi C C') : W2 a b C C' := ⟨h.1, h.2.1, fun _ _ _ _ => by rw [h.2.2.1], fun k x j q => h.2.2.2.1 k x j (fun z => q ⟨z.1, z.2.1⟩), h.2.2.2.2⟩
theorem w2_ag {a x : Nat} (h : W2 a b C C') (ha : x ≠ a) (hb : x ≠ b) : Ag C C' x := ⟨by rw [h.1], by rw [h.2.1], fun k => funext fun j => h.2.2.1 k x j (fun z => ha z.2), fun k => funext fun j => h.2.2.2.1 k x j (fun z => hb z.2), fun k => by rw [h.2.2.2.2], by rw [h.2.2.2.2]⟩
theorem w2_fa {a x : Nat} (h : W2 a b C C') (hf : Fa bx S A C x) : Fa bx S A C' x := ⟨hf.1, hf.2.1, by rw [h.2.2.2.2]; exact hf.2.2⟩
theorem cw_w2 {a : Nat} (hw : CW B C) (h : W2 a b C C') (ha : C.1 a ≠ 0) (hb : C.1 b ≠ 0) : CW B C' := by
  have eck : ck C' = ck C := congrArg (fun x : (Nat → Nat → Nat → Option Nat) × (Nat → Bool) × (Nat × Nat) => x.2.2) h.2.2.2.2
  refine ⟨by rw [eck]; exact hw.1, by rw [eck, h.1]; exact hw.2.1, fun x hx k j => ?_⟩
  rw [eck] at hx
  have h1 := (hw.2.1 a ha).2
  have h2 := (hw.2.1 b hb).2
  rw [h.2.2.1 k x j (fun z => by omega), h.2.2.2.1 k x j (fun z => by omega), h.2.2.2.2]
  exact hw.2.2 x hx k j
theorem jj_w2 {a : Nat} (J : JJ G E B bx m ad S A C T) (h : W2 a b C C') (ha : Fa bx S A C a) (hb : Fa bx S A C b) (ta : C.1 a ≠ 0) (tb : C.1 b ≠ 0) : JJ G E B bx m ad S A C' T := by
  have eck : ck C' = ck C := congrArg (fun x : (Nat → Nat → Nat → Option Nat) × (Nat → Bool) × (Nat × Nat) => x.2.2) h.2.2.2.2
  refine jj_else J (cw_w2 J.1.1 h ta tb) (fun t i hv h0 => w2_ag h (ha.2.1 t i hv h0) (hb.2.1 t i hv h0)) (fun hn i hi => w2_ag h (ha.2.2 hn i hi) (hb.2.2 hn i hi)) (w2_ag h ha.1 hb.1) ?_ ?_
  · have := J.1.2.1
    unfold lsp lsep at this ⊢
    rw [h.1, eck]; exact this
  · have := J.1.2.2
    unfold RO at this ⊢
    rw [h.2.2.2.2, eck]; exact this
/-! a row of the class -/
def RW (C : CT) (r a n e : Nat) (f : Nat → Int64) (base rr : Nat) : Prop := C.1 r = 7 ∧ C.2.2.2.2.1 96 r 0 = some a ∧ C.2.2.1 97 r 0 = i32 e ∧ ring C a n e f base rr
theorem rw_wb {r a n e base rr lo hi : Nat} {f : Nat → Int64} (h : RW C r a n e f base rr) (hw : Wb b lo hi C C') (hn : a ≠ b) : RW C' r a n e f base rr :=
  ⟨by rw [hw.1]; exact h.1, by rw [hw.2.2.2.2]; exact h.2.1, by rw [hw.2.2.1]; exact h.2.2.1, ring_cong h.2.2.2 (by rw [hw.1]) (by rw [hw.2.1]) (funext fun j => hw.2.2.2.1 900 a j (fun z => hn z.2.1)) (fun _ _ => rfl)⟩
theorem rsave_go {N r a n e base rr x : Nat} {f : Nat → Int64} (hn : n ≤ 64) (hL : L < 1000000) (hx : x + n ≤ L) (hab : a ≠ b) : ∀ (q g j : Nat) (C : CT), RW C r a n e f base rr → C.1 b = 21 → C.2.1 b = L → j + q = n → q < g →
    ∃ C', c_Row_save_2 N g r (some b) (i32 x) (i32 j) C = some (i32 (x + n), C') ∧ Wb b (x + j) (x + n) C C' ∧ ∀ y, j ≤ y → y < n → C'.2.2.2.1 900 b (x + y) = f (base + (rr + y) % n)
  | 0, 0, _, _, _, _, _, _, h => absurd h (by omega)
  | 0, g + 1, j, C, h, tb, lb, hj, _ => by
    have ec : cgA C r 6 0 = some (some a) := (if_pos h.1).trans (congrArg some h.2.1)
    have el : cal C a = some (i32 n) := cal_of (by rw [h.2.2.2.1]; decide) h.2.2.2.2.1
    refine ⟨C, ?_, Wb.refl, fun y h1 h2 => absurd h2 (by omega)⟩
    unfold c_Row_save_2
    rw [ec, obd_some, obd_some, el, obd_some, if_pos (by rw [i32_le (by omega) (by omega)]; omega), obd_some, obd_some, el, obd_some, i32_add]
  | q + 1, 0, _, _, _, _, _, _, h => absurd h (by omega)
  | q + 1, g + 1, j, C, h, tb, lb, hj, hq => by
    have ec : cgA C r 6 0 = some (some a) := (if_pos h.1).trans (congrArg some h.2.1)
    have el : cal C a = some (i32 n) := cal_of (by rw [h.2.2.2.1]; decide) h.2.2.2.2.1
    have eb : cal C b = some (i32 L) := cal_of (by rw [tb]; decide) lb
    have w0 : Wb b (x + j) (x + j + 1) C (csJ C 900 b (x + j) (f (base + (rr + j) % n))) := wb_csJ (Nat.le_refl _) (by omega)
    obtain ⟨C1, u1, u2, u3⟩ := rsave_go (N := N) (x := x) hn hL hx hab q g (j + 1) _ (rw_wb h w0 hab) tb lb (by omega) (by omega)
    refine ⟨C1, ?_, w0.cat u2 (by omega) (by omega), fun y h1 h2 => ?_⟩
    · unfold c_Row_save_2
      rw [ec, obd_some, obd_some, el, obd_some, if_neg (by rw [i32_le (by omega) (by omega)]; omega), i32_add, if_neg (i32_nonneg (by omega)), obd_some, eb, obd_some, if_neg (by rw [i32_le (by omega) (by omega)]; omega), cob_of (ci := 6) h.1, jgd_true, ring_at h.1 h.2.1 h.2.2.1 h.2.2.2 (by omega) hn, obd_some, cqJ_of tb lb (by omega) (by omega), obd_some]
      unfold c_Row_save_35
      rw [show i32 j + 1 = i32 (j + 1) from i32_add j 1]
      exact u1
    · by_cases e : y = j
      · subst e
        rw [u2.2.2.2.1 900 b (x + y) (by omega)]
        simp [csJ, up3]
      · exact u3 y (by omega) h2
theorem rs_rw (J : JJ G E B bx m ad S A C T) {s : Nat} (hs : s < S.1 1 0) : RW C (A 118 s) (A 96 s) (rln S s) (S.1 70 s) (S.2.1 13) (64 * s) (S.1 14 s) := (jj_s J hs).2.2.2
theorem rl_rw (J : JJ G E B bx m ad S A C T) {c i : Nat} (hc : c < S.1 16 0) (hi : i < S.1 20 c) : RW C (A 67 (3 * c + i)) (A 68 (3 * c + i)) (S.1 23 (3 * c + i)) (S.1 71 (3 * c + i)) (S.2.1 25) (64 * (3 * c + i)) (S.1 26 (3 * c + i)) := ((jj_c J hc).2.2.2.2 i hi).2
theorem va_lop (J : JJ G E B bx m ad S A C T) {c i t : Nat} (hc : c < S.1 16 0) (hi : i < S.1 20 c) (ht : t ∈ [4, 67, 68]) : VA S t (3 * c + i) := by
  have hi3 : i < 3 := by have := (jj_wc J hc).1.2.1; omega
  have hq : (3 * c + i) / 3 < S.1 16 0 ∧ (3 * c + i) % 3 < S.1 20 ((3 * c + i) / 3) := by
    rw [show (3 * c + i) / 3 = c by omega, show (3 * c + i) % 3 = i by omega]; exact ⟨hc, hi⟩
  simp only [List.mem_cons, List.not_mem_nil, or_false] at ht
  rcases ht with rfl | rfl | rfl <;> exact hq
theorem rest_rw (J : JJ G E B bx m ad S A C T) {s : Nat} (hs : s < S.1 1 0) : RW C (A 121 s) (A 98 s) 1 0 (S.2.1 15) s 0 := by
  have h := jj_s J hs
  obtain ⟨-, r2, r3, r4, -⟩ := h.2.1.2.2.1
  exact ⟨r2, r3, r4, rest_ring h⟩
theorem rsize_of {r a n e base rr : Nat} {f : Nat → Int64} (h : RW C r a n e f base rr) : c_Row_size r C = some (i32 n) := by
  have ec : cgA C r 6 0 = some (some a) := (if_pos h.1).trans (congrArg some h.2.1)
  unfold c_Row_size
  rw [ec, obd_some, obd_some, cal_of (by rw [h.2.2.2.1]; decide) h.2.2.2.2.1, obd_some]
theorem save_step {N g d r row a n e base rr x : Nat} {f : Nat → Int64} (J : JJ G E B bx m ad S A C T) (hd : d < S.1 16 0) (hr : r < 2 * S.1 17 d + S.1 20 d) (hrow : c_Chain_rowAt (A 1 d) (i32 r) C = some (some row)) (h : RW C row a n e f base rr) (h64 : n ≤ 64) (hN : 100 ≤ N) (hL : L < 1000000) (hx : x + n ≤ L) (hab : a ≠ b) (tb : C.1 b = 21) (lb : C.2.1 b = L) :
    ∃ C', c_Chain_save_5 N (g + 1) (A 1 d) (some b) (i32 x) (i32 r) C = c_Chain_save_5 N g (A 1 d) (some b) (i32 (x + n)) (i32 (r + 1)) C' ∧ Wb b x (x + n) C C' ∧ ∀ y, y < n → C'.2.2.2.1 900 b (x + y) = f (base + (rr + y) % n) := by
  have w := (jj_wc J hd).1
  obtain ⟨C', u1, u2, u3⟩ := rsave_go (N := N) (x := x) h64 hL hx hab n N 0 C h tb lb (by omega) (by omega)
  rw [Nat.add_zero] at u2
  refine ⟨C', ?_, u2, fun y hy => u3 y (Nat.zero_le _) hy⟩
  show (jgd (cob C (A 1 d) 1) _) = _
  rw [cob_of (rc_tag (jj_c J hd)), jgd_true, rowCount_of J hd, obd_some, if_neg (by rw [i32_le (by omega) (by omega)]; omega), jgd_true, hrow, obd_some, jon_some, cob_of (ci := 6) h.1, jgd_true]
  unfold c_Row_save c_Chain_save_38
  rw [show (0 : Int32) = i32 0 from rfl, u1, cbd2_some, show i32 r + 1 = i32 (r + 1) from i32_add r 1]
/-- how many values a section, a loop has -/
def fV (S : ST) (d p : Nat) : Nat := rln S (S.1 18 (10 * d + p)) + 1
def lV (S : ST) (d i : Nat) : Nat := S.1 23 (3 * d + i)
def vcn (S : ST) (d : Nat) : Nat := sm (fV S d) (S.1 17 d) + sm (lV S d) (S.1 20 d)
theorem fV_le (J : JJ G E B bx m ad S A C T) {d : Nat} (hd : d < S.1 16 0) : ∀ n, n ≤ S.1 17 d → sm (fV S d) n ≤ 65 * n
  | 0, _ => Nat.le_refl _
  | n + 1, h => by
    have := fV_le J hd n (by omega)
    have := rln_le J (places_lt J hd (p := n) (by omega))
    show sm (fV S d) n + fV S d n ≤ _
    unfold fV at *
    omega
theorem lV_le (J : JJ G E B bx m ad S A C T) {d : Nat} (hd : d < S.1 16 0) : ∀ n, n ≤ S.1 20 d → sm (lV S d) n ≤ 64 * n
  | 0, _ => Nat.le_refl _
  | n + 1, h => by
    have := lV_le J hd n (by omega)
    have := ((jj_wc J hd).2.2.2.2.1 n (by omega)).2.2.2.1
    show sm (lV S d) n + lV S d n ≤ _
    unfold lV at *
    omega
theorem vcn_le (J : JJ G E B bx m ad S A C T) {d : Nat} (hd : d < S.1 16 0) : vcn S d ≤ 850 := by
  have h1 := fV_le J hd _ (Nat.le_refl _)
  have h2 := lV_le J hd _ (Nat.le_refl _)
  have := (jj_wc J hd).1
  unfold vcn
  omega
/-- the saved values of a section, of a loop -/
def VSs (S : ST) (C : CT) (b x s : Nat) : Prop := C.2.2.2.1 900 b x = S.2.1 15 s ∧ ∀ y, y < rln S s → C.2.2.2.1 900 b (x + 1 + y) = S.2.1 13 (64 * s + (S.1 14 s + y) % rln S s)
def VSl (S : ST) (C : CT) (b x l : Nat) : Prop := ∀ y, y < S.1 23 l → C.2.2.2.1 900 b (x + y) = S.2.1 25 (64 * l + (S.1 26 l + y) % S.1 23 l)
theorem VSs.wb {x s lo hi : Nat} (h : VSs S C b x s) (hw : Wb b lo hi C C') (hl : x + (rln S s + 1) ≤ lo) : VSs S C' b x s := ⟨by rw [hw.2.2.2.1 900 b x (by omega)]; exact h.1, fun y hy => by rw [hw.2.2.2.1 900 b _ (by omega)]; exact h.2 y hy⟩
theorem VSl.wb {x l lo hi : Nat} (h : VSl S C b x l) (hw : Wb b lo hi C C') (hl : x + S.1 23 l ≤ lo) : VSl S C' b x l := fun y hy => by rw [hw.2.2.2.1 900 b _ (by omega)]; exact h y hy
theorem sav5_go {N d x : Nat} (hN : 100 ≤ N) (hL : L < 1000000) (hd : d < S.1 16 0) (hx : x + vcn S d ≤ L) : ∀ (q g p : Nat) (C : CT), JJ G E B bx m ad S A C T → Fa bx S A C b → C.1 b = 21 → C.2.1 b = L → p + q = S.1 17 d →
    ∃ C', c_Chain_save_5 N (g + 2 * q) (A 1 d) (some b) (i32 (x + sm (fV S d) p)) (i32 (2 * p)) C = c_Chain_save_5 N g (A 1 d) (some b) (i32 (x + sm (fV S d) (S.1 17 d))) (i32 (2 * S.1 17 d)) C' ∧ Wb b (x + sm (fV S d) p) (x + sm (fV S d) (S.1 17 d)) C C' ∧ ∀ y, p ≤ y → y < S.1 17 d → VSs S C' b (x + sm (fV S d) y) (S.1 18 (10 * d + y))
  | 0, g, p, C, J, hf, tb, lb, hp => by
    have : p = S.1 17 d := by omega
    rw [this]
    exact ⟨C, rfl, Wb.refl, fun y h1 h2 => absurd h2 (by omega)⟩
  | q + 1, g, p, C, J, hf, tb, lb, hp => by
    have h10 := (jj_wc J hd).1.1
    have hs := places_lt J hd (p := p) (by omega)
    have hle := rln_le J hs
    have m1 := sm_mono (f := fV S d) (p := p + 1) (n := S.1 17 d) (by omega)
    have m2 : sm (fV S d) (p + 1) = sm (fV S d) p + (rln S (S.1 18 (10 * d + p)) + 1) := rfl
    have hx' := hx
    unfold vcn at hx'
    obtain ⟨C1, u1, u2, u3⟩ := save_step (g := g + 2 * q + 1) (x := x + sm (fV S d) p) J hd (show 2 * p < 2 * S.1 17 d + S.1 20 d by omega) (rowAt_rest J hd (by omega)) (rest_rw J hs) (by decide) hN hL (by omega) (hf.2.1 98 _ hs (by decide)) tb lb
    have w1 : W2 b b C C1 := u2.w2
    have J1 := jj_w2 J w1 hf hf (by rw [tb]; decide) (by rw [tb]; decide)
    have tb1 : C1.1 b = 21 := by rw [u2.1]; exact tb
    have lb1 : C1.2.1 b = L := by rw [u2.2.1]; exact lb
    have hf1 := w2_fa w1 hf
    obtain ⟨C2, v1, v2, v3⟩ := save_step (g := g + 2 * q) (x := x + sm (fV S d) p + 1) J1 hd (show 2 * p + 1 < 2 * S.1 17 d + S.1 20 d by omega) (rowAt_states J1 hd (by omega)) (rs_rw J1 hs) hle hN hL (by omega) (hf.2.1 96 _ hs (by decide)) tb1 lb1
    rw [show x + sm (fV S d) p + 1 + rln S (S.1 18 (10 * d + p)) = x + sm (fV S d) (p + 1) by omega] at v1 v2
    have w2 : W2 b b C1 C2 := v2.w2
    have J2 := jj_w2 J1 w2 hf1 hf1 (by rw [tb1]; decide) (by rw [tb1]; decide)
    have u12 := u2.cat v2 (by omega) (by omega)
    obtain ⟨C3, z1, z2, z3⟩ := sav5_go hN hL hd hx q g (p + 1) C2 J2 (w2_fa w2 hf1) (by rw [v2.1]; exact tb1) (by rw [v2.2.1]; exact lb1) (by omega)
    refine ⟨C3, (u1.trans v1).trans z1, u12.cat z2 (by omega) (by omega), fun y h1 h2 => ?_⟩
    by_cases e : y = p
    · subst e
      refine VSs.wb ⟨?_, fun z hz => v3 z hz⟩ z2 (by omega)
      rw [v2.2.2.2.1 900 b _ (by omega)]
      exact u3 0 (by decide)
    · exact z3 y (by omega) h2
theorem sav48_go {N d x : Nat} (hN : 100 ≤ N) (hL : L < 1000000) (hd : d < S.1 16 0) (hx : x + sm (lV S d) (S.1 20 d) ≤ L) : ∀ (q g i : Nat) (C : CT), JJ G E B bx m ad S A C T → Fa bx S A C b → C.1 b = 21 → C.2.1 b = L → i + q = S.1 20 d →
    ∃ C', c_Chain_save_5 N (g + 1 + q) (A 1 d) (some b) (i32 (x + sm (lV S d) i)) (i32 (2 * S.1 17 d + i)) C = some (i32 (x + sm (lV S d) (S.1 20 d)), C') ∧ Wb b (x + sm (lV S d) i) (x + sm (lV S d) (S.1 20 d)) C C' ∧ ∀ y, i ≤ y → y < S.1 20 d → VSl S C' b (x + sm (lV S d) y) (3 * d + y)
  | 0, g, i, C, J, hf, tb, lb, hp => by
    have w := (jj_wc J hd).1
    have : i = S.1 20 d := by omega
    refine ⟨C, ?_, by rw [this]; exact Wb.refl, fun y h1 h2 => absurd h2 (by omega)⟩
    show (jgd (cob C (A 1 d) 1) _) = _
    rw [cob_of (rc_tag (jj_c J hd)), jgd_true, rowCount_of J hd, obd_some, if_pos (by rw [i32_le (by omega) (by omega)]; omega), this]
  | q + 1, g, i, C, J, hf, tb, lb, hp => by
    have hw := (jj_wc J hd).2.2.2.2.1 i (by omega)
    have m1 := sm_mono (f := lV S d) (p := i + 1) (n := S.1 20 d) (by omega)
    have m2 : sm (lV S d) (i + 1) = sm (lV S d) i + S.1 23 (3 * d + i) := rfl
    have hab : A 68 (3 * d + i) ≠ b := hf.2.1 68 _ (va_lop J hd (by omega) (by decide)) (by decide)
    have h64 := hw.2.2.2.1
    obtain ⟨C1, u1, u2, u3⟩ := save_step (g := g + 1 + q) (x := x + sm (lV S d) i) J hd (show 2 * S.1 17 d + i < 2 * S.1 17 d + S.1 20 d by omega) (rowAt_loop J hd (by omega)) (rl_rw J hd (by omega)) h64 hN hL (by omega) hab tb lb
    rw [show x + sm (lV S d) i + S.1 23 (3 * d + i) = x + sm (lV S d) (i + 1) by omega] at u1 u2
    have w2 : W2 b b C C1 := u2.w2
    obtain ⟨C2, v1, v2, v3⟩ := sav48_go hN hL hd hx q g (i + 1) C1 (jj_w2 J w2 hf hf (by rw [tb]; decide) (by rw [tb]; decide)) (w2_fa w2 hf) (by rw [u2.1]; exact tb) (by rw [u2.2.1]; exact lb) (by omega)
    refine ⟨C2, u1.trans v1, u2.cat v2 (by omega) (by omega), fun y h1 h2 => ?_⟩
    by_cases e : y = i
    · subst e
      exact VSl.wb (fun z hz => u3 z hz) v2 (by
        have m2 : sm (lV S d) (y + 1) = sm (lV S d) y + S.1 23 (3 * d + y) := rfl
        omega)
    · exact v3 y (by omega) h2
/-- the saved values of a chain, from x on -/
def VSc (S : ST) (C : CT) (b x d : Nat) : Prop := (∀ y, y < S.1 17 d → VSs S C b (x + sm (fV S d) y) (S.1 18 (10 * d + y))) ∧ ∀ y, y < S.1 20 d → VSl S C b (x + sm (fV S d) (S.1 17 d) + sm (lV S d) y) (3 * d + y)
theorem VSc.wb {x d lo hi : Nat} (h : VSc S C b x d) (hw : Wb b lo hi C C') (hl : x + vcn S d ≤ lo) : VSc S C' b x d := by
  unfold vcn at hl
  refine ⟨fun y hy => (h.1 y hy).wb hw ?_, fun y hy => (h.2 y hy).wb hw ?_⟩
  · have m1 := sm_mono (f := fV S d) (p := y + 1) (n := S.1 17 d) (by omega)
    have m2 : sm (fV S d) (y + 1) = sm (fV S d) y + (rln S (S.1 18 (10 * d + y)) + 1) := rfl
    omega
  · have m1 := sm_mono (f := lV S d) (p := y + 1) (n := S.1 20 d) (by omega)
    have m2 : sm (lV S d) (y + 1) = sm (lV S d) y + S.1 23 (3 * d + y) := rfl
    omega
theorem csave_of {N d x : Nat} (hN : 100 ≤ N) (J : JJ G E B bx m ad S A C T) (hd : d < S.1 16 0) (hf : Fa bx S A C b) (tb : C.1 b = 21) (lb : C.2.1 b = L) (hL : L < 1000000) (hx : x + vcn S d ≤ L) :
    ∃ C', c_Chain_save N (A 1 d) (some b) (i32 x) C = some (i32 (x + vcn S d), C') ∧ Wb b x (x + vcn S d) C C' ∧ VSc S C' b x d := by
  have h10 := (jj_wc J hd).1
  obtain ⟨n, hn⟩ : ∃ n, N = n + 1 + S.1 20 d + 2 * S.1 17 d := ⟨N - 1 - S.1 20 d - 2 * S.1 17 d, by omega⟩
  obtain ⟨C1, u1, u2, u3⟩ := sav5_go (T := T) hN hL hd hx (S.1 17 d) (n + 1 + S.1 20 d) 0 C J hf tb lb (by omega)
  have w2 : W2 b b C C1 := u2.w2
  have J1 := jj_w2 J w2 hf hf (by rw [tb]; decide) (by rw [tb]; decide)
  have hx' := hx
  unfold vcn at hx'
  obtain ⟨C2, v1, v2, v3⟩ := sav48_go (T := T) (x := x + sm (fV S d) (S.1 17 d)) hN hL hd (by omega) (S.1 20 d) n 0 C1 J1 (w2_fa w2 hf) (by rw [u2.1]; exact tb) (by rw [u2.2.1]; exact lb) (by omega)
  have e : x + sm (fV S d) (S.1 17 d) + sm (lV S d) (S.1 20 d) = x + vcn S d := by unfold vcn; omega
  rw [e] at v1 v2
  refine ⟨C2, ?_, u2.cat v2 (Nat.le_add_right _ _) (by unfold vcn; omega), fun y hy => (u3 y (Nat.zero_le _) hy).wb v2 ?_, fun y hy => v3 y (Nat.zero_le _) hy⟩
  · unfold c_Chain_save
    have en : c_Chain_save_5 N N = c_Chain_save_5 N (n + 1 + S.1 20 d + 2 * S.1 17 d) := congrArg (c_Chain_save_5 N) hn
    rw [en]
    exact u1.trans v1
  · have m1 := sm_mono (f := fV S d) (p := y + 1) (n := S.1 17 d) (by omega)
    have m2 : sm (fV S d) (y + 1) = sm (fV S d) y + (rln S (S.1 18 (10 * d + y)) + 1) := rfl
    have m0 : sm (lV S d) 0 = 0 := rfl
    omega
/-- how many values there are -/
theorem vc_step {N g d r row a n e base rr x : Nat} {f : Nat → Int64} (J : JJ G E B bx m ad S A C T) (hd : d < S.1 16 0) (hr : r < 2 * S.1 17 d + S.1 20 d) (hrow : c_Chain_rowAt (A 1 d) (i32 r) C = some (some row)) (h : RW C row a n e f base rr) :
    c_Chain_valueCount_4 N (g + 1) (A 1 d) (i32 x) (i32 r) C = c_Chain_valueCount_4 N g (A 1 d) (i32 (x + n)) (i32 (r + 1)) C := by
  have w := (jj_wc J hd).1
  show (jgd (cob C (A 1 d) 1) _) = _
  rw [cob_of (rc_tag (jj_c J hd)), jgd_true, rowCount_of J hd, obd_some, if_neg (by rw [i32_le (by omega) (by omega)]; omega), jgd_true, hrow, obd_some, jon_some, cob_of (ci := 6) h.1, jgd_true, rsize_of h, obd_some]
  unfold c_Chain_valueCount_31
  rw [i32_add, show i32 r + 1 = i32 (r + 1) from i32_add r 1]
theorem vc4_go {N d : Nat} (hd : d < S.1 16 0) (J : JJ G E B bx m ad S A C T) : ∀ (q g p : Nat), p + q = S.1 17 d → c_Chain_valueCount_4 N (g + 2 * q) (A 1 d) (i32 (sm (fV S d) p)) (i32 (2 * p)) C = c_Chain_valueCount_4 N g (A 1 d) (i32 (sm (fV S d) (S.1 17 d))) (i32 (2 * S.1 17 d)) C
  | 0, g, p, hp => by
    have : p = S.1 17 d := by omega
    rw [this]; rfl
  | q + 1, g, p, hp => by
    have hs := places_lt J hd (p := p) (by omega)
    have e1 := vc_step (N := N) (g := g + 2 * q + 1) (x := sm (fV S d) p) J hd (show 2 * p < 2 * S.1 17 d + S.1 20 d by omega) (rowAt_rest J hd (by omega)) (rest_rw J hs)
    have e2 := vc_step (N := N) (g := g + 2 * q) (x := sm (fV S d) p + 1) J hd (show 2 * p + 1 < 2 * S.1 17 d + S.1 20 d by omega) (rowAt_states J hd (by omega)) (rs_rw J hs)
    have m2 : sm (fV S d) (p + 1) = sm (fV S d) p + (rln S (S.1 18 (10 * d + p)) + 1) := rfl
    rw [show sm (fV S d) p + 1 + rln S (S.1 18 (10 * d + p)) = sm (fV S d) (p + 1) by omega] at e2
    exact (e1.trans e2).trans (vc4_go hd J q g (p + 1) (by omega))
theorem vc41_go {N d x : Nat} (hd : d < S.1 16 0) (J : JJ G E B bx m ad S A C T) : ∀ (q g i : Nat), i + q = S.1 20 d → c_Chain_valueCount_4 N (g + 1 + q) (A 1 d) (i32 (x + sm (lV S d) i)) (i32 (2 * S.1 17 d + i)) C = some (i32 (x + sm (lV S d) (S.1 20 d)))
  | 0, g, i, hp => by
    have w := (jj_wc J hd).1
    have : i = S.1 20 d := by omega
    show (jgd (cob C (A 1 d) 1) _) = _
    rw [cob_of (rc_tag (jj_c J hd)), jgd_true, rowCount_of J hd, obd_some, if_pos (by rw [i32_le (by omega) (by omega)]; omega), this]
  | q + 1, g, i, hp => by
    have e1 := vc_step (N := N) (g := g + 1 + q) (x := x + sm (lV S d) i) J hd (show 2 * S.1 17 d + i < 2 * S.1 17 d + S.1 20 d by omega) (rowAt_loop J hd (by omega)) (rl_rw J hd (by omega))
    have m2 : sm (lV S d) (i + 1) = sm (lV S d) i + S.1 23 (3 * d + i) := rfl
    rw [show x + sm (lV S d) i + S.1 23 (3 * d + i) = x + sm (lV S d) (i + 1) by omega] at e1
    exact e1.trans (vc41_go (N := N) (x := x) hd J q g (i + 1) (by omega))
theorem cvc_of {N d : Nat} (hN : 100 ≤ N) (J : JJ G E B bx m ad S A C T) (hd : d < S.1 16 0) : c_Chain_valueCount N (A 1 d) C = some (i32 (vcn S d)) := by
  have h10 := (jj_wc J hd).1
  obtain ⟨n, hn⟩ : ∃ n, N = n + 1 + S.1 20 d + 2 * S.1 17 d := ⟨N - 1 - S.1 20 d - 2 * S.1 17 d, by omega⟩
  unfold c_Chain_valueCount
  have en : c_Chain_valueCount_4 N N = c_Chain_valueCount_4 N (n + 1 + S.1 20 d + 2 * S.1 17 d) := congrArg (c_Chain_valueCount_4 N) hn
  rw [en]
  exact (vc4_go (N := N) hd J (S.1 17 d) (n + 1 + S.1 20 d) 0 (by omega)).trans (vc41_go (N := N) (x := sm (fV S d) (S.1 17 d)) hd J (S.1 20 d) n 0 (by omega))
end KSAVE
