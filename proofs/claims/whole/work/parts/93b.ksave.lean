/-! the class saves values in a row of longs -/
section KSAVE
variable {G : GT} {E B bx m b L : Nat} {ad : Nat → Nat} {S : ST} {A : AT} {C C' : CT} {T : MT}
theorem sm_mono {f : Nat → Nat} {p : Nat} : ∀ {n : Nat}, p ≤ n → sm f p ≤ sm f n
  | 0, h => by
    have : p = 0 := by omega
    subst this; exact Nat.le_refl _
  | n + 1, h => by
    by_cases e : p = n + 1
    · subst e; exact Nat.le_refl _
    · exact Nat.le_trans (sm_mono (n := n) (by omega)) (Nat.le_add_right _ _)
theorem sm_succ {f : Nat → Nat} {n : Nat} : sm f (n + 1) = sm f n + f n := rfl
/-- only longs of one row change, between two places -/
def Wb (b lo hi : Nat) (C C' : CT) : Prop := C'.1 = C.1 ∧ C'.2.1 = C.2.1 ∧ C'.2.2.1 = C.2.2.1 ∧ (∀ k x j, ¬ (k = 900 ∧ x = b ∧ lo ≤ j ∧ j < hi) → C'.2.2.2.1 k x j = C.2.2.2.1 k x j) ∧ C'.2.2.2.2 = C.2.2.2.2
theorem Wb.refl {lo hi : Nat} : Wb b lo hi C C := ⟨rfl, rfl, rfl, fun _ _ _ _ => rfl, rfl⟩
theorem Wb.mono {lo hi lo' hi' : Nat} (h : Wb b lo hi C C') (h1 : lo' ≤ lo) (h2 : hi ≤ hi') : Wb b lo' hi' C C' := ⟨h.1, h.2.1, h.2.2.1, fun k x j q => h.2.2.2.1 k x j (fun z => q ⟨z.1, z.2.1, by omega, by omega⟩), h.2.2.2.2⟩
theorem Wb.trans {lo hi : Nat} {C'' : CT} (h : Wb b lo hi C C') (h' : Wb b lo hi C' C'') : Wb b lo hi C C'' := ⟨h'.1.trans h.1, h'.2.1.trans h.2.1, h'.2.2.1.trans h.2.2.1, fun k x j q => (h'.2.2.2.1 k x j q).trans (h.2.2.2.1 k x j q), h'.2.2.2.2.trans h.2.2.2.2⟩
theorem Wb.cat {lo mi hi : Nat} {C'' : CT} (h : Wb b lo mi C C') (h' : Wb b mi hi C' C'') (h1 : lo ≤ mi) (h2 : mi ≤ hi) : Wb b lo hi C C'' := (h.mono (Nat.le_refl _) h2).trans (h'.mono h1 (Nat.le_refl _))
theorem wb_csJ {j : Nat} {v : Int64} {lo hi : Nat} (h1 : lo ≤ j) (h2 : j < hi) : Wb b lo hi C (csJ C 900 b j v) := ⟨rfl, rfl, rfl, fun k x y q => by
  simp only [csJ, up3]
  rw [if_neg (fun z => q ⟨z.1, z.2.1, by omega, by omega⟩)], rfl⟩
/-- a place that is none of what there is -/
def Fa (bx : Nat) (S : ST) (A : AT) (C : CT) (x : Nat) : Prop := bx ≠ x ∧ (∀ t i, VA S t i → t ≠ 0 → A t i ≠ x) ∧ (C.2.2.2.2.1 37 (A 2 0) 0 ≠ none → ∀ i, i ∈ [1, 2] → A 0 i ≠ x)
/-- only ints of one row and longs of another change -/
def W2 (a b : Nat) (C C' : CT) : Prop := C'.1 = C.1 ∧ C'.2.1 = C.2.1 ∧ (∀ k x j, ¬ (k = 900 ∧ x = a) → C'.2.2.1 k x j = C.2.2.1 k x j) ∧ (∀ k x j, ¬ (k = 900 ∧ x = b) → C'.2.2.2.1 k x j = C.2.2.2.1 k x j) ∧ C'.2.2.2.2 = C.2.2.2.2
theorem W2.refl {a : Nat} : W2 a b C C := ⟨rfl, rfl, fun _ _ _ _ => rfl, fun _ _ _ _ => rfl, rfl⟩
theorem W2.trans {a : Nat} {C'' : CT} (h : W2 a b C C') (h' : W2 a b C' C'') : W2 a b C C'' := ⟨h'.1.trans h.1, h'.2.1.trans h.2.1, fun k x j q => (h'.2.2.1 k x j q).trans (h.2.2.1 k x j q), fun k x j q => (h'.2.2.2.1 k x j q).trans (h.2.2.2.1 k x j q), h'.2.2.2.2.trans h.2.2.2.2⟩
theorem Wb.w2 {a lo hi : Nat} (h : Wb b lo hi C C') : W2 a b C C' := ⟨h.1, h.2.1, fun _ _ _ _ => by rw [h.2.2.1], fun k x j q => h.2.2.2.1 k x j (fun z => q ⟨z.1, z.2.1⟩), h.2.2.2.2⟩
theorem w2_ag {a x : Nat} (h : W2 a b C C') (ha : x ≠ a) (hb : x ≠ b) : Ag C C' x := ⟨by rw [h.1], by rw [h.2.1], fun k => funext fun j => h.2.2.1 k x j (fun z => ha z.2), fun k => funext fun j => h.2.2.2.1 k x j (fun z => hb z.2), fun k => by rw [h.2.2.2.2], by rw [h.2.2.2.2]⟩
theorem w2_fa {a x : Nat} (h : W2 a b C C') (hf : Fa bx S A C x) : Fa bx S A C' x := ⟨hf.1, hf.2.1, by rw [h.2.2.2.2]; exact hf.2.2⟩
theorem cw_w2 {a : Nat} (hw : CW B C) (h : W2 a b C C') (ha : C.1 a ≠ 0) (hb : C.1 b ≠ 0) : CW B C' := by
  have eck : ck C' = ck C := congrArg (fun x : (Nat → Nat → Nat → Option Nat) × (Nat → Bool) × (Nat × Nat) => x.2.2) h.2.2.2.2
  refine ⟨by rw [eck]; exact hw.1, by rw [eck, h.1]; exact hw.2.1, fun x hx k j => ?_⟩
  rw [eck] at hx
  have h1 := (hw.2.1 a ha).2
  have h2 := (hw.2.1 b hb).2
  rw [h.2.2.1 k x j (fun z => by omega), h.2.2.2.1 k x j (fun z => by omega), h.2.2.2.2]
  exact hw.2.2 x hx k j
theorem jj_w2 {a : Nat} (J : JJ G E B bx m ad S A C T) (h : W2 a b C C') (ha : Fa bx S A C a) (hb : Fa bx S A C b) (ta : C.1 a ≠ 0) (tb : C.1 b ≠ 0) : JJ G E B bx m ad S A C' T := by
  have eck : ck C' = ck C := congrArg (fun x : (Nat → Nat → Nat → Option Nat) × (Nat → Bool) × (Nat × Nat) => x.2.2) h.2.2.2.2
  refine jj_else J (cw_w2 J.1.1 h ta tb) (fun t i hv h0 => w2_ag h (ha.2.1 t i hv h0) (hb.2.1 t i hv h0)) (fun hn i hi => w2_ag h (ha.2.2 hn i hi) (hb.2.2 hn i hi)) (w2_ag h ha.1 hb.1) ?_ ?_
  · have := J.1.2.1
    unfold lsp lsep at this ⊢
    rw [h.1, eck]; exact this
  · have := J.1.2.2
    unfold RO at this ⊢
    rw [h.2.2.2.2, eck]; exact this
/-! a row of the class -/
def RW (C : CT) (r a n e : Nat) (f : Nat → Int64) (base rr : Nat) : Prop := C.1 r = 7 ∧ C.2.2.2.2.1 96 r 0 = some a ∧ C.2.2.1 97 r 0 = i32 e ∧ ring C a n e f base rr
theorem rw_wb {r a n e base rr lo hi : Nat} {f : Nat → Int64} (h : RW C r a n e f base rr) (hw : Wb b lo hi C C') (hn : a ≠ b) : RW C' r a n e f base rr :=
  ⟨by rw [hw.1]; exact h.1, by rw [hw.2.2.2.2]; exact h.2.1, by rw [hw.2.2.1]; exact h.2.2.1, ring_cong h.2.2.2 (by rw [hw.1]) (by rw [hw.2.1]) (funext fun j => hw.2.2.2.1 900 a j (fun z => hn z.2.1)) (fun _ _ => rfl)⟩
theorem rsave_go {N r a n e base rr x : Nat} {f : Nat → Int64} (hn : n ≤ 64) (hL : L < 1000000) (hx : x + n ≤ L) (hab : a ≠ b) : ∀ (q g j : Nat) (C : CT), RW C r a n e f base rr → C.1 b = 21 → C.2.1 b = L → j + q = n → q < g →
    ∃ C', c_Row_save_2 N g r (some b) (i32 x) (i32 j) C = some (i32 (x + n), C') ∧ Wb b (x + j) (x + n) C C' ∧ ∀ y, j ≤ y → y < n → C'.2.2.2.1 900 b (x + y) = f (base + (rr + y) % n)
  | 0, 0, _, _, _, _, _, _, h => absurd h (by omega)
  | 0, g + 1, j, C, h, tb, lb, hj, _ => by
    have ec : cgA C r 6 0 = some (some a) := (if_pos h.1).trans (congrArg some h.2.1)
    have el : cal C a = some (i32 n) := cal_of (by rw [h.2.2.2.1]; decide) h.2.2.2.2.1
    refine ⟨C, ?_, Wb.refl, fun y h1 h2 => absurd h2 (by omega)⟩
    unfold c_Row_save_2
    rw [ec, obd_some, obd_some, el, obd_some, if_pos (by rw [i32_le (by omega) (by omega)]; omega), obd_some, obd_some, el, obd_some, i32_add]
  | q + 1, 0, _, _, _, _, _, _, h => absurd h (by omega)
  | q + 1, g + 1, j, C, h, tb, lb, hj, hq => by
    have ec : cgA C r 6 0 = some (some a) := (if_pos h.1).trans (congrArg some h.2.1)
    have el : cal C a = some (i32 n) := cal_of (by rw [h.2.2.2.1]; decide) h.2.2.2.2.1
    have eb : cal C b = some (i32 L) := cal_of (by rw [tb]; decide) lb
    have w0 : Wb b (x + j) (x + j + 1) C (csJ C 900 b (x + j) (f (base + (rr + j) % n))) := wb_csJ (Nat.le_refl _) (by omega)
    obtain ⟨C1, u1, u2, u3⟩ := rsave_go (N := N) (x := x) hn hL hx hab q g (j + 1) _ (rw_wb h w0 hab) tb lb (by omega) (by omega)
    refine ⟨C1, ?_, w0.cat u2 (by omega) (by omega), fun y h1 h2 => ?_⟩
    · unfold c_Row_save_2
      rw [ec, obd_some, obd_some, el, obd_some, if_neg (by rw [i32_le (by omega) (by omega)]; omega), i32_add, if_neg (i32_nonneg (by omega)), obd_some, eb, obd_some, if_neg (by rw [i32_le (by omega) (by omega)]; omega), cob_of (ci := 6) h.1, jgd_true, ring_at h.1 h.2.1 h.2.2.1 h.2.2.2 (by omega) hn, obd_some, cqJ_of tb lb (by omega) (by omega), obd_some]
      unfold c_Row_save_35
      rw [show i32 j + 1 = i32 (j + 1) from i32_add j 1]
      exact u1
    · by_cases e : y = j
      · subst e
        rw [u2.2.2.2.1 900 b (x + y) (by omega)]
        simp [csJ, up3]
      · exact u3 y (by omega) h2
theorem rs_rw (J : JJ G E B bx m ad S A C T) {s : Nat} (hs : s < S.1 1 0) : RW C (A 118 s) (A 96 s) (rln S s) (S.1 70 s) (S.2.1 13) (64 * s) (S.1 14 s) := (jj_s J hs).2.2.2
theorem rl_rw (J : JJ G E B bx m ad S A C T) {c i : Nat} (hc : c < S.1 16 0) (hi : i < S.1 20 c) : RW C (A 67 (3 * c + i)) (A 68 (3 * c + i)) (S.1 23 (3 * c + i)) (S.1 71 (3 * c + i)) (S.2.1 25) (64 * (3 * c + i)) (S.1 26 (3 * c + i)) := ((jj_c J hc).2.2.2.2 i hi).2
theorem va_lop (J : JJ G E B bx m ad S A C T) {c i t : Nat} (hc : c < S.1 16 0) (hi : i < S.1 20 c) (ht : t ∈ [4, 67, 68]) : VA S t (3 * c + i) := by
  have hi3 : i < 3 := by have := (jj_wc J hc).1.2.1; omega
  have hq : (3 * c + i) / 3 < S.1 16 0 ∧ (3 * c + i) % 3 < S.1 20 ((3 * c + i) / 3) := by
    rw [show (3 * c + i) / 3 = c by omega, show (3 * c + i) % 3 = i by omega]; exact ⟨hc, hi⟩
  simp only [List.mem_cons, List.not_mem_nil, or_false] at ht
  rcases ht with rfl | rfl | rfl <;> exact hq
theorem ssave_of {N s x : Nat} (hN : 100 ≤ N) (J : JJ G E B bx m ad S A C T) (hs : s < S.1 1 0) (hf : Fa bx S A C b) (tb : C.1 b = 21) (lb : C.2.1 b = L) (hL : L < 1000000) (hx : x + (rln S s + 1) ≤ L) :
    ∃ C', c_Section_save N (A 7 s) (some b) (i32 x) C = some (i32 (x + (rln S s + 1)), C') ∧ Wb b x (x + (rln S s + 1)) C C' ∧ C'.2.2.2.1 900 b x = S.2.1 15 s ∧ ∀ y, y < rln S s → C'.2.2.2.1 900 b (x + 1 + y) = S.2.1 13 (64 * s + (S.1 14 s + y) % rln S s) := by
  have hle := rln_le J hs
  have hr := jj_s J hs
  have w0 : Wb b x (x + 1) C (csJ C 900 b x (S.2.1 15 s)) := wb_csJ (Nat.le_refl _) (by omega)
  have hab : A 96 s ≠ b := hf.2.1 96 s hs (by decide)
  obtain ⟨C1, u1, u2, u3⟩ := rsave_go (N := N) (x := x + 1) (L := L) (b := b) hle hL (by omega) hab (rln S s) N 0 _ (rw_wb (rs_rw J hs) w0 hab) tb lb (by omega) (by omega)
  refine ⟨C1, ?_, w0.cat (u2.mono (by omega) (by omega)) (by omega) (by omega), ?_, fun y hy => u3 y (Nat.zero_le _) hy⟩
  · have est : cgA (csJ C 900 b x (S.2.1 15 s)) (A 7 s) 7 6 = some (some (A 118 s)) := (show cgA C (A 7 s) 7 6 = some (some (A 118 s)) from rs_states hr)
    have t118 : cob (csJ C 900 b x (S.2.1 15 s)) (A 118 s) 6 = true := cob_of (ci := 6) hr.2.2.2.1
    unfold c_Section_save
    rw [if_neg (i32_nonneg (by omega)), obd_some, cal_of (n := L) (by rw [tb]; decide) lb, obd_some, if_neg (by rw [i32_le (by omega) (by omega)]; omega), rs_rest hr, obd_some, cqJ_of tb lb (by omega) (by omega), obd_some]
    unfold c_Section_save_17 c_Row_save
    rw [est, obd_some, obd_some, t118, jgd_true, show i32 x + (1 : Int32) = i32 (x + 1) from i32_add x 1, show (0 : Int32) = i32 0 from rfl, u1, cbd2_some, show x + 1 + rln S s = x + (rln S s + 1) by omega]
  · rw [u2.2.2.2.1 900 b x (by omega)]
    simp [csJ, up3]
/-- how many values a section, a loop has -/
def fV (S : ST) (d p : Nat) : Nat := rln S (S.1 18 (10 * d + p)) + 1
def lV (S : ST) (d i : Nat) : Nat := S.1 23 (3 * d + i)
def vcn (S : ST) (d : Nat) : Nat := sm (fV S d) (S.1 17 d) + sm (lV S d) (S.1 20 d)
theorem fV_le (J : JJ G E B bx m ad S A C T) {d : Nat} (hd : d < S.1 16 0) : ∀ n, n ≤ S.1 17 d → sm (fV S d) n ≤ 65 * n
  | 0, _ => Nat.le_refl _
  | n + 1, h => by
    have := fV_le J hd n (by omega)
    have := rln_le J (places_lt J hd (p := n) (by omega))
    show sm (fV S d) n + fV S d n ≤ _
    unfold fV at *
    omega
theorem lV_le (J : JJ G E B bx m ad S A C T) {d : Nat} (hd : d < S.1 16 0) : ∀ n, n ≤ S.1 20 d → sm (lV S d) n ≤ 64 * n
  | 0, _ => Nat.le_refl _
  | n + 1, h => by
    have := lV_le J hd n (by omega)
    have := ((jj_wc J hd).2.2.2.2.1 n (by omega)).2.2.2.1
    show sm (lV S d) n + lV S d n ≤ _
    unfold lV at *
    omega
theorem vcn_le (J : JJ G E B bx m ad S A C T) {d : Nat} (hd : d < S.1 16 0) : vcn S d ≤ 850 := by
  have h1 := fV_le J hd _ (Nat.le_refl _)
  have h2 := lV_le J hd _ (Nat.le_refl _)
  have := (jj_wc J hd).1
  unfold vcn
  omega
/-- the saved values of a section, of a loop -/
def VSs (S : ST) (C : CT) (b x s : Nat) : Prop := C.2.2.2.1 900 b x = S.2.1 15 s ∧ ∀ y, y < rln S s → C.2.2.2.1 900 b (x + 1 + y) = S.2.1 13 (64 * s + (S.1 14 s + y) % rln S s)
def VSl (S : ST) (C : CT) (b x l : Nat) : Prop := ∀ y, y < S.1 23 l → C.2.2.2.1 900 b (x + y) = S.2.1 25 (64 * l + (S.1 26 l + y) % S.1 23 l)
theorem VSs.wb {x s lo hi : Nat} (h : VSs S C b x s) (hw : Wb b lo hi C C') (hl : x + (rln S s + 1) ≤ lo) : VSs S C' b x s := ⟨by rw [hw.2.2.2.1 900 b x (by omega)]; exact h.1, fun y hy => by rw [hw.2.2.2.1 900 b _ (by omega)]; exact h.2 y hy⟩
theorem VSl.wb {x l lo hi : Nat} (h : VSl S C b x l) (hw : Wb b lo hi C C') (hl : x + S.1 23 l ≤ lo) : VSl S C' b x l := fun y hy => by rw [hw.2.2.2.1 900 b _ (by omega)]; exact h y hy
theorem sav5_go {N d x : Nat} (hN : 100 ≤ N) (hL : L < 1000000) (hd : d < S.1 16 0) (hx : x + vcn S d ≤ L) : ∀ (q g p : Nat) (C : CT), JJ G E B bx m ad S A C T → Fa bx S A C b → C.1 b = 21 → C.2.1 b = L → p + q = S.1 17 d → q < g →
    ∃ C', c_Chain_save_5 N g (A 1 d) (some b) (i32 (x + sm (fV S d) p)) (i32 p) C = c_Chain_save_48 N N (A 1 d) (some b) (i32 (x + sm (fV S d) (S.1 17 d))) 0 C' ∧ Wb b (x + sm (fV S d) p) (x + sm (fV S d) (S.1 17 d)) C C' ∧ ∀ y, p ≤ y → y < S.1 17 d → VSs S C' b (x + sm (fV S d) y) (S.1 18 (10 * d + y))
  | 0, 0, _, _, _, _, _, _, _, h => absurd h (by omega)
  | 0, g + 1, p, C, J, hf, tb, lb, hp, _ => by
    have h10 := (jj_wc J hd).1.1
    have : p = S.1 17 d := by omega
    refine ⟨C, ?_, by rw [this]; exact Wb.refl, fun y h1 h2 => absurd h2 (by omega)⟩
    unfold c_Chain_save_5
    rw [rc_size (jj_c J hd), obd_some, if_pos (by rw [i32_le (by omega) (by omega)]; omega), this]
  | q + 1, 0, _, _, _, _, _, _, _, h => absurd h (by omega)
  | q + 1, g + 1, p, C, J, hf, tb, lb, hp, hq => by
    have h10 := (jj_wc J hd).1.1
    have hs := places_lt J hd (p := p) (by omega)
    have m1 := sm_mono (f := fV S d) (p := p + 1) (n := S.1 17 d) (by omega)
    have m2 : sm (fV S d) (p + 1) = sm (fV S d) p + (rln S (S.1 18 (10 * d + p)) + 1) := rfl
    unfold vcn at hx
    obtain ⟨C1, u1, u2, u3, u4⟩ := ssave_of hN J hs hf tb lb hL (x := x + sm (fV S d) p) (by omega)
    rw [show x + sm (fV S d) p + (rln S (S.1 18 (10 * d + p)) + 1) = x + sm (fV S d) (p + 1) by omega] at u1 u2
    have w2 : W2 b b C C1 := u2.w2
    obtain ⟨C2, v1, v2, v3⟩ := sav5_go hN hL hd (by unfold vcn; omega) q g (p + 1) C1 (jj_w2 J w2 hf hf (by rw [tb]; decide) (by rw [tb]; decide)) (w2_fa w2 hf) (by rw [u2.1]; exact tb) (by rw [u2.2.1]; exact lb) (by omega) (by omega)
    refine ⟨C2, ?_, u2.cat v2 (by omega) (by omega), fun y h1 h2 => ?_⟩
    · unfold c_Chain_save_5
      rw [rc_size (jj_c J hd), obd_some, if_neg (by rw [i32_le (by omega) (by omega)]; omega), cob_of (rc_tag (jj_c J hd)), jgd_true, member_of J hd (by omega), if_pos (by omega), obd_some, jon_some, cob_of (rs_tag (jj_s J hs)), jgd_true, u1, cbd2_some]
      unfold c_Chain_save_38
      rw [show i32 p + 1 = i32 (p + 1) from i32_add p 1]
      exact v1
    · by_cases e : y = p
      · subst e
        exact VSs.wb ⟨u3, u4⟩ v2 (by omega)
      · exact v3 y (by omega) h2
theorem sav48_go {N d x : Nat} (hN : 100 ≤ N) (hL : L < 1000000) (hd : d < S.1 16 0) (hx : x + sm (lV S d) (S.1 20 d) ≤ L) : ∀ (q g i : Nat) (C : CT), JJ G E B bx m ad S A C T → Fa bx S A C b → C.1 b = 21 → C.2.1 b = L → i + q = S.1 20 d → q < g →
    ∃ C', c_Chain_save_48 N g (A 1 d) (some b) (i32 (x + sm (lV S d) i)) (i32 i) C = some (i32 (x + sm (lV S d) (S.1 20 d)), C') ∧ Wb b (x + sm (lV S d) i) (x + sm (lV S d) (S.1 20 d)) C C' ∧ ∀ y, i ≤ y → y < S.1 20 d → VSl S C' b (x + sm (lV S d) y) (3 * d + y)
  | 0, 0, _, _, _, _, _, _, _, h => absurd h (by omega)
  | 0, g + 1, i, C, J, hf, tb, lb, hp, _ => by
    have h3 := (jj_wc J hd).1.2.1
    have : i = S.1 20 d := by omega
    refine ⟨C, ?_, by rw [this]; exact Wb.refl, fun y h1 h2 => absurd h2 (by omega)⟩
    unfold c_Chain_save_48
    rw [rc_loopCount (jj_c J hd), obd_some, if_pos (by rw [i32_le (by omega) (by omega)]; omega), this]
  | q + 1, 0, _, _, _, _, _, _, _, h => absurd h (by omega)
  | q + 1, g + 1, i, C, J, hf, tb, lb, hp, hq => by
    have h3 := (jj_wc J hd).1.2.1
    have hl := (jj_c J hd).2.2.2.2 i (by omega)
    have hw := (jj_wc J hd).2.2.2.2.1 i (by omega)
    have m1 := sm_mono (f := lV S d) (p := i + 1) (n := S.1 20 d) (by omega)
    have m2 : sm (lV S d) (i + 1) = sm (lV S d) i + S.1 23 (3 * d + i) := rfl
    have hab : A 68 (3 * d + i) ≠ b := hf.2.1 68 _ (va_lop J hd (by omega) (by decide)) (by decide)
    have h64 := hw.2.2.2.1
    obtain ⟨C1, u1, u2, u3⟩ := rsave_go (N := N) (x := x + sm (lV S d) i) (L := L) (b := b) h64 hL (by omega) hab (S.1 23 (3 * d + i)) N 0 C (rl_rw J hd (by omega)) tb lb (by omega) (by omega)
    rw [show x + sm (lV S d) i + S.1 23 (3 * d + i) = x + sm (lV S d) (i + 1) by omega] at u1 u2
    rw [Nat.add_zero] at u2
    have w2 : W2 b b C C1 := u2.w2
    obtain ⟨C2, v1, v2, v3⟩ := sav48_go hN hL hd hx q g (i + 1) C1 (jj_w2 J w2 hf hf (by rw [tb]; decide) (by rw [tb]; decide)) (w2_fa w2 hf) (by rw [u2.1]; exact tb) (by rw [u2.2.1]; exact lb) (by omega) (by omega)
    refine ⟨C2, ?_, u2.cat v2 (by omega) (by omega), fun y h1 h2 => ?_⟩
    · unfold c_Chain_save_48
      rw [rc_loopCount (jj_c J hd), obd_some, if_neg (by rw [i32_le (by omega) (by omega)]; omega), cob_of (rc_tag (jj_c J hd)), jgd_true, loopAt_of J hd (by omega), if_pos (by omega), obd_some, jon_some, rl_past hl, obd_some, obd_some, cob_of (ci := 6) hl.2.1, jgd_true]
      unfold c_Row_save c_Chain_save_84
      rw [show (0 : Int32) = i32 0 from rfl, u1, cbd2_some, show i32 i + 1 = i32 (i + 1) from i32_add i 1]
      exact v1
    · by_cases e : y = i
      · subst e
        exact VSl.wb (fun z hz => u3 z (Nat.zero_le _) hz) v2 (by
          have m2 : sm (lV S d) (y + 1) = sm (lV S d) y + S.1 23 (3 * d + y) := rfl
          omega)
      · exact v3 y (by omega) h2
/-- the saved values of a chain, from x on -/
def VSc (S : ST) (C : CT) (b x d : Nat) : Prop := (∀ y, y < S.1 17 d → VSs S C b (x + sm (fV S d) y) (S.1 18 (10 * d + y))) ∧ ∀ y, y < S.1 20 d → VSl S C b (x + sm (fV S d) (S.1 17 d) + sm (lV S d) y) (3 * d + y)
theorem VSc.wb {x d lo hi : Nat} (h : VSc S C b x d) (hw : Wb b lo hi C C') (hl : x + vcn S d ≤ lo) : VSc S C' b x d := by
  unfold vcn at hl
  refine ⟨fun y hy => (h.1 y hy).wb hw ?_, fun y hy => (h.2 y hy).wb hw ?_⟩
  · have m1 := sm_mono (f := fV S d) (p := y + 1) (n := S.1 17 d) (by omega)
    have m2 : sm (fV S d) (y + 1) = sm (fV S d) y + (rln S (S.1 18 (10 * d + y)) + 1) := rfl
    omega
  · have m1 := sm_mono (f := lV S d) (p := y + 1) (n := S.1 20 d) (by omega)
    have m2 : sm (lV S d) (y + 1) = sm (lV S d) y + S.1 23 (3 * d + y) := rfl
    omega
theorem csave_of {N d x : Nat} (hN : 100 ≤ N) (J : JJ G E B bx m ad S A C T) (hd : d < S.1 16 0) (hf : Fa bx S A C b) (tb : C.1 b = 21) (lb : C.2.1 b = L) (hL : L < 1000000) (hx : x + vcn S d ≤ L) :
    ∃ C', c_Chain_save N (A 1 d) (some b) (i32 x) C = some (i32 (x + vcn S d), C') ∧ Wb b x (x + vcn S d) C C' ∧ VSc S C' b x d := by
  have h10 := (jj_wc J hd).1
  obtain ⟨C1, u1, u2, u3⟩ := sav5_go (T := T) hN hL hd hx (S.1 17 d) N 0 C J hf tb lb (by omega) (by omega)
  have w2 : W2 b b C C1 := u2.w2
  have J1 := jj_w2 J w2 hf hf (by rw [tb]; decide) (by rw [tb]; decide)
  have hx' := hx
  unfold vcn at hx'
  obtain ⟨C2, v1, v2, v3⟩ := sav48_go (T := T) (x := x + sm (fV S d) (S.1 17 d)) hN hL hd (by omega) (S.1 20 d) N 0 C1 J1 (w2_fa w2 hf) (by rw [u2.1]; exact tb) (by rw [u2.2.1]; exact lb) (by omega) (by omega)
  have e : x + sm (fV S d) (S.1 17 d) + sm (lV S d) (S.1 20 d) = x + vcn S d := by unfold vcn; omega
  rw [e] at v1 v2
  refine ⟨C2, ?_, u2.cat v2 (Nat.le_add_right _ _) (by unfold vcn; omega), fun y hy => (u3 y (Nat.zero_le _) hy).wb v2 ?_, fun y hy => v3 y (Nat.zero_le _) hy⟩
  · unfold c_Chain_save
    exact u1.trans v1
  · have m1 := sm_mono (f := fV S d) (p := y + 1) (n := S.1 17 d) (by omega)
    have m2 : sm (fV S d) (y + 1) = sm (fV S d) y + (rln S (S.1 18 (10 * d + y)) + 1) := rfl
    have m0 : sm (lV S d) 0 = 0 := rfl
    omega
/-- how many values there are -/
theorem vc41_go {N d x : Nat} (hd : d < S.1 16 0) (J : JJ G E B bx m ad S A C T) (hx : x ≤ 10000) : ∀ (q g i : Nat), i + q = S.1 20 d → q < g → c_Chain_valueCount_41 N g (A 1 d) (i32 (x + sm (lV S d) i)) (i32 i) C = some (i32 (x + sm (lV S d) (S.1 20 d)))
  | 0, 0, _, _, h => absurd h (by omega)
  | 0, g + 1, i, hp, _ => by
    have h3 := (jj_wc J hd).1.2.1
    have : i = S.1 20 d := by omega
    unfold c_Chain_valueCount_41
    rw [rc_loopCount (jj_c J hd), obd_some, if_pos (by rw [i32_le (by omega) (by omega)]; omega), this]
  | q + 1, 0, _, _, h => absurd h (by omega)
  | q + 1, g + 1, i, hp, hq => by
    have h3 := (jj_wc J hd).1.2.1
    have hl := (jj_c J hd).2.2.2.2 i (by omega)
    have m2 : sm (lV S d) (i + 1) = sm (lV S d) i + S.1 23 (3 * d + i) := rfl
    have es : c_Row_size (A 67 (3 * d + i)) C = some (i32 (S.1 23 (3 * d + i))) := by
      unfold c_Row_size
      rw [rl_cells hl, obd_some, obd_some, cal_of (by rw [hl.2.2.2.2.1]; decide) hl.2.2.2.2.2.1, obd_some]
    unfold c_Chain_valueCount_41
    rw [rc_loopCount (jj_c J hd), obd_some, if_neg (by rw [i32_le (by omega) (by omega)]; omega), cob_of (rc_tag (jj_c J hd)), jgd_true, loopAt_of J hd (by omega), if_pos (by omega), obd_some, jon_some, rl_past hl, obd_some, obd_some, cob_of (ci := 6) hl.2.1, jgd_true, es, obd_some]
    unfold c_Chain_valueCount_71
    rw [i32_add, show i32 i + 1 = i32 (i + 1) from i32_add i 1, show x + sm (lV S d) i + S.1 23 (3 * d + i) = x + sm (lV S d) (i + 1) by omega]
    exact vc41_go hd J hx q g (i + 1) (by omega) (by omega)
theorem svc_of (J : JJ G E B bx m ad S A C T) {s : Nat} (hs : s < S.1 1 0) : c_Section_valueCount (A 7 s) C = some (i32 (rln S s + 1)) := by
  have hr := jj_s J hs
  unfold c_Section_valueCount c_Row_size
  rw [rs_states hr, obd_some, obd_some, cob_of (ci := 6) hr.2.2.2.1, jgd_true, rs_cells hr, obd_some, obd_some, cal_of (by rw [hr.2.2.2.2.2.2.1]; decide) hr.2.2.2.2.2.2.2.1, obd_some, obd_some, show i32 (rln S s) + (1 : Int32) = i32 (rln S s + 1) from i32_add _ 1]
theorem vc4_go {N d : Nat} (hN : 100 ≤ N) (hd : d < S.1 16 0) (J : JJ G E B bx m ad S A C T) : ∀ (q g p : Nat), p + q = S.1 17 d → q < g → c_Chain_valueCount_4 N g (A 1 d) (i32 (sm (fV S d) p)) (i32 p) C = some (i32 (vcn S d))
  | 0, 0, _, _, h => absurd h (by omega)
  | 0, g + 1, p, hp, _ => by
    have h10 := (jj_wc J hd).1
    have hv := fV_le J hd _ (Nat.le_refl _)
    have : p = S.1 17 d := by omega
    unfold c_Chain_valueCount_4
    rw [rc_size (jj_c J hd), obd_some, if_pos (by rw [i32_le (by omega) (by omega)]; omega), this]
    exact vc41_go (x := sm (fV S d) (S.1 17 d)) hd J (by omega) (S.1 20 d) N 0 (by omega) (by omega)
  | q + 1, 0, _, _, h => absurd h (by omega)
  | q + 1, g + 1, p, hp, hq => by
    have h10 := (jj_wc J hd).1.1
    have hs := places_lt J hd (p := p) (by omega)
    unfold c_Chain_valueCount_4
    rw [rc_size (jj_c J hd), obd_some, if_neg (by rw [i32_le (by omega) (by omega)]; omega), cob_of (rc_tag (jj_c J hd)), jgd_true, member_of J hd (by omega), if_pos (by omega), obd_some, jon_some, cob_of (rs_tag (jj_s J hs)), jgd_true, svc_of J hs, obd_some]
    unfold c_Chain_valueCount_31
    rw [i32_add, show i32 p + 1 = i32 (p + 1) from i32_add p 1]
    exact vc4_go hN hd J q g (p + 1) (by omega) (by omega)
theorem cvc_of {N d : Nat} (hN : 100 ≤ N) (J : JJ G E B bx m ad S A C T) (hd : d < S.1 16 0) : c_Chain_valueCount N (A 1 d) C = some (i32 (vcn S d)) := by
  have h10 := (jj_wc J hd).1.1
  unfold c_Chain_valueCount
  exact vc4_go hN hd J (S.1 17 d) N 0 (by omega) (by omega)
end KSAVE
