/-! what was kept comes back: the class, the call -/
section SIMBACK
variable {G : GT} {E B bx m k c s l b L : Nat} {ad : Nat → Nat} {S S' : ST} {A : AT} {C C' : CT} {T T' : MT} {ps pl : Nat → Bool}
/-- what stays while values come back -/
def Bk (b : Nat) (C C' : CT) : Prop := C'.1 = C.1 ∧ C'.2.1 = C.2.1 ∧ C'.2.2.2.2 = C.2.2.2.2 ∧ C'.2.2.2.1 900 b = C.2.2.2.1 900 b
theorem Bk.refl : Bk b C C := ⟨rfl, rfl, rfl, rfl⟩
theorem Bk.trans {C'' : CT} (h : Bk b C C') (h' : Bk b C' C'') : Bk b C C'' := ⟨h'.1.trans h.1, h'.2.1.trans h.2.1, h'.2.2.1.trans h.2.2.1, h'.2.2.2.trans h.2.2.2⟩
theorem vk_bk {x d : Nat} (h : VKc S C b x k d) (w : Bk b C C') : VKc S C' b x k d := by
  unfold VKc VKs VKl at h ⊢
  rw [w.2.2.2]; exact h
theorem rload_go {N r a n e x : Nat} (hn : n ≤ 64) (hL : L < 1000000) (hx : x + n ≤ L) (hab : a ≠ b) : ∀ (q g j : Nat) (C : CT), C.1 r = 7 → C.2.2.2.2.1 96 r 0 = some a → C.2.2.1 97 r 0 = i32 e → C.1 a = 21 → C.2.1 a = n → (e = 0 ∨ e < n) → C.1 b = 21 → C.2.1 b = L → j + q = n → q < g →
    ∃ C', c_Row_load_2 N g r (some b) (i32 x) (i32 j) C = some (i32 (x + n), C') ∧ Wb a 0 n C C' ∧ (∀ y, y < n → C'.2.2.2.1 900 a ((e + y) % n) = if j ≤ y then C.2.2.2.1 900 b (x + y) else C.2.2.2.1 900 a ((e + y) % n))
  | 0, 0, _, _, _, _, _, _, _, _, _, _, _, h => absurd h (by omega)
  | 0, g + 1, j, C, h1, h2, h3, h4, h5, h6, tb, lb, hj, _ => by
    have ec : cgA C r 6 0 = some (some a) := (if_pos h1).trans (congrArg some h2)
    have el : cal C a = some (i32 n) := cal_of (by rw [h4]; decide) h5
    refine ⟨C, ?_, Wb.refl, fun y hy => by rw [if_neg (by omega)]⟩
    unfold c_Row_load_2
    rw [ec, obd_some, obd_some, el, obd_some, if_pos (by rw [i32_le (by omega) (by omega)]; omega), obd_some, obd_some, el, obd_some, i32_add]
  | q + 1, 0, _, _, _, _, _, _, _, _, _, _, _, h => absurd h (by omega)
  | q + 1, g + 1, j, C, h1, h2, h3, h4, h5, h6, tb, lb, hj, hq => by
    have ec : cgA C r 6 0 = some (some a) := (if_pos h1).trans (congrArg some h2)
    have el : cal C a = some (i32 n) := cal_of (by rw [h4]; decide) h5
    have eb : cal C b = some (i32 L) := cal_of (by rw [tb]; decide) lb
    have hm := Nat.mod_lt (e + j) (show 0 < n by omega)
    have w0 : Wb a 0 n C (csJ C 900 a ((e + j) % n) (C.2.2.2.1 900 b (x + j))) := wb_csJ (Nat.zero_le _) hm
    obtain ⟨C1, u1, u2, u3⟩ := rload_go (N := N) (r := r) (e := e) (x := x) hn hL hx hab q g (j + 1) (csJ C 900 a ((e + j) % n) (C.2.2.2.1 900 b (x + j))) h1 h2 h3 h4 h5 h6 tb lb (by omega) (by omega)
    refine ⟨C1, ?_, w0.trans u2, fun y hy => ?_⟩
    · unfold c_Row_load_2
      rw [ec, obd_some, obd_some, el, obd_some, if_neg (by rw [i32_le (by omega) (by omega)]; omega), i32_add, if_neg (i32_nonneg (by omega)), obd_some, eb, obd_some, if_neg (by rw [i32_le (by omega) (by omega)]; omega), caJ_of tb lb (by omega) (by omega), obd_some, cob_of (ci := 6) h1, jgd_true, put_of h1 h2 h3 h4 h5 h6 (by omega) hn, obd_some]
      unfold c_Row_load_35
      rw [show i32 j + 1 = i32 (j + 1) from i32_add j 1]
      exact u1
    · rw [u3 y hy]
      have eB : (csJ C 900 a ((e + j) % n) (C.2.2.2.1 900 b (x + j))).2.2.2.1 900 b (x + y) = C.2.2.2.1 900 b (x + y) := by simp [csJ, up3, Ne.symm hab]
      by_cases hjy : j + 1 ≤ y
      · rw [if_pos hjy, if_pos (by omega), eB]
      · rw [if_neg hjy]
        by_cases e1 : y = j
        · subst e1
          rw [if_pos (Nat.le_refl _)]
          simp [csJ, up3]
        · rw [if_neg (by omega)]
          have hne : (e + y) % n ≠ (e + j) % n := fun z => e1 (mod_inj hy (by omega) z)
          simp [csJ, up3, hne]
/-- one cell of a row changes -/
theorem wb_one {a : Nat} {v : Int64} (h : Wb a 0 1 C C') (hv : C'.2.2.2.1 900 a 0 = v) : C' = csJ C 900 a 0 v := by
  obtain ⟨h1, h2, h3, h4, h5⟩ := h
  refine Prod.ext h1 (Prod.ext h2 (Prod.ext h3 (Prod.ext (funext fun k => funext fun x => funext fun j => ?_) h5)))
  show C'.2.2.2.1 k x j = (if k = 900 ∧ x = a ∧ j = 0 then v else C.2.2.2.1 k x j)
  by_cases q : k = 900 ∧ x = a ∧ j = 0
  · rw [if_pos q, q.1, q.2.1, q.2.2]; exact hv
  · rw [if_neg q]; exact h4 k x j (fun z => q ⟨z.1, z.2.1, by omega⟩)
theorem sload_of {N x : Nat} (hN : 100 ≤ N) (J : JJ G E B bx m ad (baS S k ps pl) A C T) (hs : s < S.1 1 0) (hb : A 96 s ≠ b) (hb98 : A 98 s ≠ b) (tb : C.1 b = 21) (lb : C.2.1 b = L) (hL : L < 1000000) (hx : x + (rln S s + 1) ≤ L) (hv : VKs S C b x k s) (hw : KWs S k s) (h3 : S.1 3 s < 3) :
    ∃ C', c_Row_load N (A 121 s) (some b) (i32 x) C = some (i32 (x + 1), csJ C 900 (A 98 s) 0 (S.2.1 48 (60 * k + s))) ∧ c_Row_load N (A 118 s) (some b) (i32 (x + 1)) (csJ C 900 (A 98 s) 0 (S.2.1 48 (60 * k + s))) = some (i32 (x + 1 + rln S s), C') ∧
      JJ G E B bx m ad (baS S k (ad1 ps s) pl) A C' (tOf (baS S k (ad1 ps s) pl)) ∧ Bk b C C' := by
  have hs' : s < (baS S k ps pl).1 1 0 := by rw [baS_k (by decide) (by decide)]; exact hs
  have erln : rln (baS S k ps pl) = rln S := dy_rln ba_dy
  have hle := rln_le J hs'
  have hr := jj_s J hs'
  have hws := jj_ws J hs'
  have r2 := hr.2.2.2
  rw [erln] at hle r2
  obtain ⟨-, q2, q3, q4, q5, q6, -⟩ := hr.2.1.2.2.1
  have n98 : A 98 s ≠ A 96 s := ax_t J.2.1 (show VA (baS S k ps pl) 96 s from hs') (show VA (baS S k ps pl) 98 s from hs') (Or.inl (by decide))
  obtain ⟨C0, z1, z2, z3⟩ := rload_go (N := N) (r := A 121 s) (a := A 98 s) (n := 1) (e := 0) (x := x) (L := L) (b := b) (by decide) hL (by omega) hb98 1 N 0 C q2 q3 (show C.2.2.1 97 (A 121 s) 0 = i32 0 from q4) q5 q6 (Or.inl rfl) tb lb (by decide) (by omega)
  have ev : C0.2.2.2.1 900 (A 98 s) 0 = S.2.1 48 (60 * k + s) := by
    have z := z3 0 (by decide)
    rw [if_pos (Nat.le_refl _)] at z
    exact z.trans hv.1
  rw [wb_one z2 ev] at z1
  obtain ⟨C1, u1, u2, u3⟩ := rload_go (N := N) (r := A 118 s) (a := A 96 s) (n := rln S s) (e := (baS S k ps pl).1 70 s) (x := x + 1) (L := L) (b := b) hle hL (by omega) hb (rln S s) N 0 (csJ C 900 (A 98 s) 0 (S.2.1 48 (60 * k + s))) r2.1 r2.2.1 r2.2.2.1 r2.2.2.2.1 r2.2.2.2.2.1 r2.2.2.2.2.2.1 tb lb (by omega) (by omega)
  have eb2 : ∀ y, (csJ C 900 (A 98 s) 0 (S.2.1 48 (60 * k + s))).2.2.2.1 900 b y = C.2.2.2.1 900 b y := fun y => by simp [csJ, up3, Ne.symm hb98]
  refine ⟨C1, ?_, ?_, ?_, ⟨u2.1, u2.2.1, u2.2.2.2.2, ?_⟩⟩
  · unfold c_Row_load
    exact z1
  · unfold c_Row_load
    exact u1
  · have e13 : ∀ y, y < 64 → (baS S k (ad1 ps s) pl).2.1 13 (64 * s + y) = S.2.1 46 (64 * (60 * k + s) + y) := fun y hy => by
      rw [bs_2, if_neg (fun q => absurd q.1 (by decide)), if_pos ⟨rfl, by omega⟩, show 3840 * k + (64 * s + y) = 64 * (60 * k + s) + y by omega]
    have e14 : (baS S k (ad1 ps s) pl).1 14 s = S.1 47 (60 * k + s) := by rw [bs_1, if_pos ⟨rfl, rfl⟩]
    have e15 : (baS S k (ad1 ps s) pl).2.1 15 s = S.2.1 48 (60 * k + s) := by rw [bs_2, if_pos ⟨rfl, rfl⟩]
    have e70 : (baS S k (ad1 ps s) pl).1 70 = (baS S k ps pl).1 70 := by rw [baS_k (by decide) (by decide), baS_k (by decide) (by decide)]
    refine jj_sec J hs' ⟨fun x j h => ?_, fun x j h h' => ?_, fun _ _ _ => rfl⟩ ⟨u2.1, u2.2.1, fun x a j _ _ => by rw [u2.2.2.1]; rfl, fun x a j h h' => ?_, u2.2.2.2.2⟩ ⟨?_, ?_, ?_, ?_, ?_⟩ ?_ (rt_tOf _)
    · rw [bs_1, if_neg (fun q => h ⟨Or.inl q.1, q.2⟩)]
    · rw [bs_2, if_neg (fun q => h ⟨q.1, q.2⟩), if_neg (fun q => h' ⟨q.1, by omega, by omega⟩)]
    · rw [u2.2.2.2.1 x a j (fun z => h' ⟨z.1, z.2.1⟩)]
      show (if x = 900 ∧ a = A 98 s ∧ j = 0 then S.2.1 48 (60 * k + s) else C.2.2.2.1 x a j) = _
      rw [if_neg (fun z => h ⟨z.1, z.2.1⟩)]
    · refine ⟨by rw [u2.2.2.1]; exact q4, ?_⟩
      rw [u2.2.2.2.1 900 (A 98 s) 0 (fun z => n98 z.2.1), e15]
      simp [csJ, up3]
    · rw [u2.2.2.1]; exact hr.2.1.2.2.2.1
    · rw [u2.2.2.1]; exact hr.2.1.2.2.2.2.1
    · rw [u2.2.2.1, e70]; exact r2.2.2.1
    · rw [dy_rln ba_dy, e70, e14]
      refine ⟨by rw [u2.1]; exact r2.2.2.2.1, by rw [u2.2.1]; exact r2.2.2.2.2.1, r2.2.2.2.2.2.1, hw.2.1, fun y hy => ?_⟩
      rw [u3 y hy, if_pos (Nat.zero_le _), eb2, hv.2 y hy]
      have hmm := Nat.mod_lt (S.1 47 (60 * k + s) + y) (show 0 < rln S s by omega)
      exact (e13 _ (by omega)).symm
    · unfold Ws
      rw [dy_rln ba_dy, dy_vso ba_dy, e14, e15, e70, baS_k (x := 3) (by decide) (by decide), baS_k (x := 2) (by decide) (by decide)]
      obtain ⟨w1, w2, w3, w4, w5, w6⟩ := hw
      refine ⟨w1, w2, fun q => ⟨w3 q, ?_⟩, fun j hj => by rw [e13 j hj]; exact w4 j hj, fun j hj hj' => by rw [e13 j hj]; exact w5 j hj hj', fun q => ?_⟩
      · have := (hws.2.2.2.2.2.2.2.1 (by rw [baS_k (x := 2) (by decide) (by decide)]; exact q)).2
        exact this
      · have e0 := e13 0 (by decide)
        rw [Nat.add_zero, Nat.add_zero] at e0
        rw [e0]
        exact w6 q
  · funext y
    rw [u2.2.2.2.1 900 b y (fun z => hb z.2.1.symm)]
    exact eb2 y
theorem load_step {N g d r row x n : Nat} {C1 : CT} (J : JJ G E B bx m ad S A C T) (hd : d < S.1 16 0) (hr : r < 2 * S.1 17 d + S.1 20 d) (hrow : c_Chain_rowAt (A 1 d) (i32 r) C = some (some row)) (h7 : C.1 row = 7) (hl : c_Row_load N row (some b) (i32 x) C = some (i32 (x + n), C1)) :
    c_Chain_load_5 N (g + 1) (A 1 d) (some b) (i32 x) (i32 r) C = c_Chain_load_5 N g (A 1 d) (some b) (i32 (x + n)) (i32 (r + 1)) C1 := by
  have w := (jj_wc J hd).1
  show (jgd (cob C (A 1 d) 1) _) = _
  rw [cob_of (rc_tag (jj_c J hd)), jgd_true, rowCount_of J hd, obd_some, if_neg (by rw [i32_le (by omega) (by omega)]; omega), jgd_true, hrow, obd_some, jon_some, cob_of (ci := 6) h7, jgd_true, hl, cbd2_some]
  unfold c_Chain_load_38
  rw [show i32 r + 1 = i32 (r + 1) from i32_add r 1]
theorem lload_of {N x i : Nat} (hN : 100 ≤ N) (J : JJ G E B bx m ad (baS S k ps pl) A C T) (hc : c < S.1 16 0) (hi : i < S.1 20 c) (hb : A 68 (3 * c + i) ≠ b) (tb : C.1 b = 21) (lb : C.2.1 b = L) (hL : L < 1000000) (hx : x + S.1 23 (3 * c + i) ≤ L) (hv : VKl S C b x k (3 * c + i)) (hw : KWl S k c (3 * c + i)) (h64 : S.1 23 (3 * c + i) ≤ 64) :
    ∃ C', c_Row_load N (A 67 (3 * c + i)) (some b) (i32 x) C = some (i32 (x + S.1 23 (3 * c + i)), C') ∧ JJ G E B bx m ad (baS S k ps (ad1 pl (3 * c + i))) A C' (tOf (baS S k ps (ad1 pl (3 * c + i)))) ∧ Bk b C C' := by
  have e16 : (baS S k ps pl).1 16 = S.1 16 := baS_k (by decide) (by decide)
  have e20 : (baS S k ps pl).1 20 = S.1 20 := baS_k (by decide) (by decide)
  have e23 : (baS S k ps pl).1 23 = S.1 23 := baS_k (by decide) (by decide)
  have r2 := rl_rw J (c := c) (i := i) (by rw [e16]; exact hc) (by rw [e20]; exact hi)
  rw [e23] at r2
  obtain ⟨C1, u1, u2, u3⟩ := rload_go (N := N) (r := A 67 (3 * c + i)) (a := A 68 (3 * c + i)) (n := S.1 23 (3 * c + i)) (e := (baS S k ps pl).1 71 (3 * c + i)) (x := x) (L := L) (b := b) h64 hL hx hb (S.1 23 (3 * c + i)) N 0 C r2.1 r2.2.1 r2.2.2.1 r2.2.2.2.1 r2.2.2.2.2.1 r2.2.2.2.2.2.1 tb lb (by omega) (by omega)
  refine ⟨C1, ?_, ?_, ⟨u2.1, u2.2.1, u2.2.2.2.2, ?_⟩⟩
  · unfold c_Row_load
    exact u1
  · have e25 : ∀ y, y < 64 → (baS S k ps (ad1 pl (3 * c + i))).2.1 25 (64 * (3 * c + i) + y) = S.2.1 49 (64 * (60 * k + (3 * c + i)) + y) := fun y hy => by
      rw [bl_2, if_pos ⟨rfl, by omega⟩, show 3840 * k + (64 * (3 * c + i) + y) = 64 * (60 * k + (3 * c + i)) + y by omega]
    have e26 : (baS S k ps (ad1 pl (3 * c + i))).1 26 (3 * c + i) = S.1 50 (60 * k + (3 * c + i)) := by rw [bl_1, if_pos ⟨rfl, rfl⟩]
    have e71 : (baS S k ps (ad1 pl (3 * c + i))).1 71 = (baS S k ps pl).1 71 := by rw [baS_k (by decide) (by decide), baS_k (by decide) (by decide)]
    have e23' : (baS S k ps (ad1 pl (3 * c + i))).1 23 = S.1 23 := baS_k (by decide) (by decide)
    refine jj_lop J (c := c) (i := i) (by rw [e16]; exact hc) (by rw [e20]; exact hi) rfl ⟨fun x j h => ?_, fun x j h => ?_, rfl⟩ ⟨u2.1, u2.2.1, fun x a j _ => by rw [u2.2.2.1], fun x a j h => u2.2.2.2.1 x a j (fun z => h ⟨z.1, z.2.1⟩), u2.2.2.2.2⟩ ⟨?_, ?_⟩ ⟨?_, fun j hj => ?_⟩ (rt_tOf _)
    · rw [bl_1, if_neg (fun q => h ⟨Or.inl q.1, q.2⟩)]
    · rw [bl_2, if_neg (fun q => h ⟨q.1, by omega, by omega⟩)]
    · rw [u2.2.2.1, e71]; exact r2.2.2.1
    · rw [e23', e71, e26]
      refine ⟨by rw [u2.1]; exact r2.2.2.2.1, by rw [u2.2.1]; exact r2.2.2.2.2.1, r2.2.2.2.2.2.1, Or.inr hw.1, fun y hy => ?_⟩
      rw [u3 y hy, if_pos (Nat.zero_le _), hv y hy]
      have hmm := Nat.mod_lt (S.1 50 (60 * k + (3 * c + i)) + y) (show 0 < S.1 23 (3 * c + i) by omega)
      exact (e25 _ (by omega)).symm
    · rw [e26, e23']; exact hw.1
    · rw [e25 j hj, dy_cso ba_dy]; exact hw.2 j hj
  · funext y
    exact u2.2.2.2.1 900 b y (fun z => hb z.2.1.symm)
theorem lod5_go {N d x : Nat} (hN : 100 ≤ N) (J0 : JJ G E B bx m ad S A C' T') (hL : L < 1000000) (hd : d < S.1 16 0) (hx : x + vcn S d ≤ L) (hfr : ∀ t i, VA S t i → t ∈ [96, 68, 98] → A t i ≠ b) (hw : ∀ p, p < S.1 17 d → KWs S k (S.1 18 (10 * d + p))) : ∀ (q g p : Nat) (ps : Nat → Bool) (C : CT) (T : MT), JJ G E B bx m ad (baS S k ps pl) A C T → C.1 b = 21 → C.2.1 b = L → VKc S C b x k d → p + q = S.1 17 d →
    ∃ ps' C1, c_Chain_load_5 N (g + 2 * q) (A 1 d) (some b) (i32 (x + sm (fV S d) p)) (i32 (2 * p)) C = c_Chain_load_5 N g (A 1 d) (some b) (i32 (x + sm (fV S d) (S.1 17 d))) (i32 (2 * S.1 17 d)) C1 ∧ JJ G E B bx m ad (baS S k ps' pl) A C1 (tOf (baS S k ps' pl)) ∧ Bk b C C1 ∧ ∀ z, ps' z = true ↔ (ps z = true ∨ ∃ y, p ≤ y ∧ y < S.1 17 d ∧ z = S.1 18 (10 * d + y))
  | 0, g, p, ps, C, T, J, tb, lb, hv, hp => by
    have : p = S.1 17 d := by omega
    refine ⟨ps, C, by rw [this]; rfl, jj_T J (rt_tOf _), Bk.refl, fun z => ⟨Or.inl, fun h => ?_⟩⟩
    rcases h with h | ⟨y, h1, h2, -⟩
    · exact h
    · omega
  | q + 1, g, p, ps, C, T, J, tb, lb, hv, hp => by
    have h10 := (jj_wc J0 hd).1.1
    have hd' : d < (baS S k ps pl).1 16 0 := by rw [baS_k (by decide) (by decide)]; exact hd
    have e17 : (baS S k ps pl).1 17 = S.1 17 := baS_k (by decide) (by decide)
    have e18 : (baS S k ps pl).1 18 = S.1 18 := baS_k (by decide) (by decide)
    have e20 : (baS S k ps pl).1 20 = S.1 20 := baS_k (by decide) (by decide)
    have hs := places_lt J0 hd (p := p) (by omega)
    have hs' : S.1 18 (10 * d + p) < (baS S k ps pl).1 1 0 := by rw [baS_k (by decide) (by decide)]; exact hs
    have m1 := sm_mono (f := fV S d) (p := p + 1) (n := S.1 17 d) (by omega)
    have m2 : sm (fV S d) (p + 1) = sm (fV S d) p + (rln S (S.1 18 (10 * d + p)) + 1) := rfl
    have hx' := hx
    unfold vcn at hx'
    obtain ⟨C1, u1, u1', u2, u3⟩ := sload_of (x := x + sm (fV S d) p) hN J hs (hfr 96 _ hs (by decide)) (hfr 98 _ hs (by decide)) tb lb hL (by omega) (hv.1 p (by omega)) (hw p (by omega)) (so_lt J0 hs)
    have J1 := jj_rest J hs' (S.2.1 48 (60 * k + S.1 18 (10 * d + p))) (fun q => (hw p (by omega)).1 (by rw [baS_k (by decide) (by decide)] at q; exact q))
    have a1 : c_Chain_rowAt (A 1 d) (i32 (2 * p)) C = some (some (A 121 (S.1 18 (10 * d + p)))) := by
      rw [rowAt_rest J hd' (by rw [e17]; omega), e18]
    have a2 : c_Chain_rowAt (A 1 d) (i32 (2 * p + 1)) (csJ C 900 (A 98 (S.1 18 (10 * d + p))) 0 (S.2.1 48 (60 * k + S.1 18 (10 * d + p)))) = some (some (A 118 (S.1 18 (10 * d + p)))) := by
      rw [rowAt_states J1 hd' (p := p) (show p < (baS S k ps pl).1 17 d by rw [e17]; omega), show (uJ (baS S k ps pl) 15 (S.1 18 (10 * d + p)) (S.2.1 48 (60 * k + S.1 18 (10 * d + p)))).1 18 = S.1 18 from e18]
    have s1 := load_step (g := g + 2 * q + 1) J hd' (show 2 * p < 2 * (baS S k ps pl).1 17 d + (baS S k ps pl).1 20 d by rw [e17]; omega) a1 (jj_s J hs').2.1.2.2.1.2.1 u1
    have s2 := load_step (g := g + 2 * q) J1 hd' (show 2 * p + 1 < 2 * (baS S k ps pl).1 17 d + (baS S k ps pl).1 20 d by rw [e17]; omega) a2 (show C.1 (A 118 (S.1 18 (10 * d + p))) = 7 from (jj_s J hs').2.2.2.1) u1'
    rw [show x + sm (fV S d) p + 1 + rln S (S.1 18 (10 * d + p)) = x + sm (fV S d) (p + 1) by omega] at s2
    obtain ⟨ps', C2, v1, v2, v3, v4⟩ := lod5_go hN J0 hL hd hx hfr hw q g (p + 1) _ C1 _ u2 (by rw [u3.1]; exact tb) (by rw [u3.2.1]; exact lb) (vk_bk hv u3) (by omega)
    refine ⟨ps', C2, (s1.trans s2).trans v1, v2, u3.trans v3, fun z => ?_⟩
    rw [v4, ad1_iff]
    constructor
    · rintro ((h | h) | ⟨y, h1, h2, h3⟩)
      · exact Or.inl h
      · exact Or.inr ⟨p, Nat.le_refl _, by omega, h⟩
      · exact Or.inr ⟨y, by omega, h2, h3⟩
    · rintro (h | ⟨y, h1, h2, h3⟩)
      · exact Or.inl (Or.inl h)
      · by_cases e : y = p
        · subst e; exact Or.inl (Or.inr h3)
        · exact Or.inr ⟨y, by omega, h2, h3⟩
theorem lod48_go {N d x : Nat} (hN : 100 ≤ N) (J0 : JJ G E B bx m ad S A C' T') (hL : L < 1000000) (hd : d < S.1 16 0) (hx : x + sm (lV S d) (S.1 20 d) ≤ L) (hfr : ∀ t i, VA S t i → t ∈ [96, 68, 98] → A t i ≠ b) (hw : ∀ q, q < S.1 20 d → KWl S k d (3 * d + q)) : ∀ (q g i : Nat) (pl : Nat → Bool) (C : CT) (T : MT), JJ G E B bx m ad (baS S k ps pl) A C T → C.1 b = 21 → C.2.1 b = L → (∀ q, q < S.1 20 d → VKl S C b (x + sm (lV S d) q) k (3 * d + q)) → i + q = S.1 20 d →
    ∃ pl' C1, c_Chain_load_5 N (g + 1 + q) (A 1 d) (some b) (i32 (x + sm (lV S d) i)) (i32 (2 * S.1 17 d + i)) C = some (i32 (x + sm (lV S d) (S.1 20 d)), C1) ∧ JJ G E B bx m ad (baS S k ps pl') A C1 (tOf (baS S k ps pl')) ∧ Bk b C C1 ∧ ∀ z, pl' z = true ↔ (pl z = true ∨ ∃ y, i ≤ y ∧ y < S.1 20 d ∧ z = 3 * d + y)
  | 0, g, i, pl, C, T, J, tb, lb, hv, hp => by
    have w := (jj_wc J0 hd).1
    have hd' : d < (baS S k ps pl).1 16 0 := by rw [baS_k (by decide) (by decide)]; exact hd
    have e17 : (baS S k ps pl).1 17 = S.1 17 := baS_k (by decide) (by decide)
    have e20 : (baS S k ps pl).1 20 = S.1 20 := baS_k (by decide) (by decide)
    have : i = S.1 20 d := by omega
    refine ⟨pl, C, ?_, jj_T J (rt_tOf _), Bk.refl, fun z => ⟨Or.inl, fun h => ?_⟩⟩
    · show (jgd (cob C (A 1 d) 1) _) = _
      rw [cob_of (rc_tag (jj_c J hd')), jgd_true, rowCount_of J hd', obd_some, e17, e20, if_pos (by rw [i32_le (by omega) (by omega)]; omega), this]
    · rcases h with h | ⟨y, h1, h2, -⟩
      · exact h
      · omega
  | q + 1, g, i, pl, C, T, J, tb, lb, hv, hp => by
    have hw0 := (jj_wc J0 hd).2.2.2.2.1 i (by omega)
    have hd' : d < (baS S k ps pl).1 16 0 := by rw [baS_k (by decide) (by decide)]; exact hd
    have e17 : (baS S k ps pl).1 17 = S.1 17 := baS_k (by decide) (by decide)
    have e20 : (baS S k ps pl).1 20 = S.1 20 := baS_k (by decide) (by decide)
    have hl := (jj_c J hd').2.2.2.2 i (by rw [e20]; omega)
    have m1 := sm_mono (f := lV S d) (p := i + 1) (n := S.1 20 d) (by omega)
    have m2 : sm (lV S d) (i + 1) = sm (lV S d) i + S.1 23 (3 * d + i) := rfl
    obtain ⟨C1, u1, u2, u3⟩ := lload_of (x := x + sm (lV S d) i) hN J hd (i := i) (by omega) (hfr 68 _ (va_lop J0 hd (by omega) (by decide)) (by decide)) tb lb hL (by omega) (hv i (by omega)) (hw i (by omega)) hw0.2.2.2.1
    have a1 : c_Chain_rowAt (A 1 d) (i32 (2 * S.1 17 d + i)) C = some (some (A 67 (3 * d + i))) := by
      have := rowAt_loop J hd' (i := i) (by rw [e20]; omega)
      rw [e17] at this
      exact this
    have s1 := load_step (g := g + 1 + q) J hd' (show 2 * S.1 17 d + i < 2 * (baS S k ps pl).1 17 d + (baS S k ps pl).1 20 d by rw [e17, e20]; omega) a1 hl.2.1 u1
    rw [show x + sm (lV S d) i + S.1 23 (3 * d + i) = x + sm (lV S d) (i + 1) by omega] at s1
    obtain ⟨pl', C2, v1, v2, v3, v4⟩ := lod48_go hN J0 hL hd hx hfr hw q g (i + 1) _ C1 _ u2 (by rw [u3.1]; exact tb) (by rw [u3.2.1]; exact lb) (fun q hq => by have := hv q hq; unfold VKl at this ⊢; rw [u3.2.2.2]; exact this) (by omega)
    refine ⟨pl', C2, s1.trans v1, v2, u3.trans v3, fun z => ?_⟩
    rw [v4, ad1_iff]
    constructor
    · rintro ((h | h) | ⟨y, h1, h2, h3⟩)
      · exact Or.inl h
      · exact Or.inr ⟨i, Nat.le_refl _, by omega, h⟩
      · exact Or.inr ⟨y, by omega, h2, h3⟩
    · rintro (h | ⟨y, h1, h2, h3⟩)
      · exact Or.inl (Or.inl h)
      · by_cases e : y = i
        · subst e; exact Or.inl (Or.inr h3)
        · exact Or.inr ⟨y, by omega, h2, h3⟩
theorem back25_go {N : Nat} (hN : 100 ≤ N) (J0 : JJ G E B bx m ad S A C' T') {t : TR} (h20 : t.1 ≤ 20) (ht : ∀ a, a < t.1 → t.2 a < S.1 16 0) (hfr : ∀ t i, VA S t i → t ∈ [96, 68, 98] → A t i ≠ b) (hk : k < S.1 44 0) (h72 : S.1 72 k = t.1) (hL : L = rmV S t t.1) (hw : ∀ i, i < t.1 → (∀ p, p < S.1 17 (t.2 i) → KWs S k (S.1 18 (10 * t.2 i + p))) ∧ ∀ q, q < S.1 20 (t.2 i) → KWl S k (t.2 i) (3 * t.2 i + q)) : ∀ (q g i : Nat) (ps pl : Nat → Bool) (C : CT) (T : MT), JJ G E B bx m ad (baS S k ps pl) A C T → TH A C t → C.1 (A 48 k) = 4 → C.2.2.2.2.1 50 (A 48 k) 0 = some b → C.1 b = 21 → C.2.1 b = L → (∀ i, i < t.1 → VKc S C b (rmV S t i) k (t.2 i)) → i + q = t.1 → q < g →
    ∃ ps' pl' C1, c_B_back_25 N g bx (A 48 k) (i32 (rmV S t i)) (i32 i) C = some (true, C1) ∧ JJ G E B bx m ad (baS S k ps' pl') A C1 (tOf (baS S k ps' pl')) ∧ (∀ x, ps' x = true ↔ (ps x = true ∨ ∃ a y, i ≤ a ∧ a < t.1 ∧ y < S.1 17 (t.2 a) ∧ x = S.1 18 (10 * t.2 a + y))) ∧ ∀ x, pl' x = true ↔ (pl x = true ∨ ∃ a y, i ≤ a ∧ a < t.1 ∧ y < S.1 20 (t.2 a) ∧ x = 3 * t.2 a + y)
  | 0, 0, _, _, _, _, _, _, _, _, _, _, _, _, _, h => absurd h (by omega)
  | 0, g + 1, i, ps, pl, C, T, J, hH, t48, f50, tb, lb, hv, hi, _ => by
    refine ⟨ps, pl, C, ?_, jj_T J (rt_tOf _), fun x => ⟨Or.inl, fun h => ?_⟩, fun x => ⟨Or.inl, fun h => ?_⟩⟩
    · have ecc := chainCount_of (k := k) J (by rw [baS_k (by decide) (by decide)]; exact hk)
      rw [baS_k (by decide) (by decide), h72] at ecc
      unfold c_B_back_25
      rw [cob_of (ci := 3) t48, jgd_true, ecc, obd_some, if_pos (by rw [i32_le (by omega) (by omega)]; omega)]
    · rcases h with h | ⟨a, y, h1, h2, -⟩
      · exact h
      · omega
    · rcases h with h | ⟨a, y, h1, h2, -⟩
      · exact h
      · omega
  | q + 1, 0, _, _, _, _, _, _, _, _, _, _, _, _, _, h => absurd h (by omega)
  | q + 1, g + 1, i, ps, pl, C, T, J, hH, t48, f50, tb, lb, hv, hi, hq => by
    have hbb := jj_b J
    have hd := ht i (by omega)
    have hd' : t.2 i < (baS S k ps pl).1 16 0 := by rw [baS_k (by decide) (by decide)]; exact hd
    have h10 := (jj_wc J0 hd).1
    have hrm := rmV_le J0 ht t.1 (Nat.le_refl _)
    have e : rmV S t (i + 1) = rmV S t i + vcn S (t.2 i) := rfl
    have hm : rmV S t (i + 1) ≤ rmV S t t.1 := sm_mono (f := fun i => vcn S (t.2 i)) (by omega)
    have hca : caA C (A 3 3) 1 (i32 i) = some (some (A 1 (t.2 i))) := by
      rw [caA_of (ci := 1) (n := 20) hbb.2.2.2.2.2.2.1.1 (by decide) hbb.2.2.2.2.2.2.1.2 (by omega) (by decide), hH i (by omega)]
    have e50 : cgA C (A 48 k) 3 2 = some (some b) := (if_pos t48).trans (congrArg some f50)
    have hvi := hv i (by omega)
    obtain ⟨n, hn⟩ : ∃ n, N = n + 1 + S.1 20 (t.2 i) + 2 * S.1 17 (t.2 i) := ⟨N - 1 - S.1 20 (t.2 i) - 2 * S.1 17 (t.2 i), by omega⟩
    obtain ⟨ps1, C1, u1, u2, u3, u4⟩ := lod5_go (L := L) (x := rmV S t i) hN J0 (by omega) hd (by omega) hfr (hw i (by omega)).1 (S.1 17 (t.2 i)) (n + 1 + S.1 20 (t.2 i)) 0 ps C T J tb lb hvi (by omega)
    have hx' : rmV S t i + vcn S (t.2 i) ≤ L := by omega
    unfold vcn at hx'
    obtain ⟨pl1, C2, v1, v2, v3, v4⟩ := lod48_go (L := L) (x := rmV S t i + sm (fV S (t.2 i)) (S.1 17 (t.2 i))) hN J0 (by omega) hd (by omega) hfr (hw i (by omega)).2 (S.1 20 (t.2 i)) n 0 pl C1 _ u2 (by rw [u3.1]; exact tb) (by rw [u3.2.1]; exact lb) (vk_bk hvi u3).2 (by omega)
    have w := u3.trans v3
    obtain ⟨ps', pl', C3, x1, x2, x3, x4⟩ := back25_go hN J0 h20 ht hfr hk h72 hL hw q g (i + 1) ps1 pl1 C2 _ v2 (fun a ha => by rw [w.2.2.1]; exact hH a ha) (by rw [w.1]; exact t48) (by rw [w.2.2.1]; exact f50) (by rw [w.1]; exact tb) (by rw [w.2.1]; exact lb) (fun j hj => vk_bk (hv j hj) w) (by omega) (by omega)
    have hload : c_Chain_load N (A 1 (t.2 i)) (some b) (i32 (rmV S t i)) C = some (i32 (rmV S t (i + 1)), C2) := by
      unfold c_Chain_load
      have e2 : rmV S t i + sm (fV S (t.2 i)) (S.1 17 (t.2 i)) + sm (lV S (t.2 i)) (S.1 20 (t.2 i)) = rmV S t (i + 1) := by rw [e]; unfold vcn; omega
      rw [← e2]
      have en : c_Chain_load_5 N N = c_Chain_load_5 N (n + 1 + S.1 20 (t.2 i) + 2 * S.1 17 (t.2 i)) := congrArg (c_Chain_load_5 N) hn
      rw [en]
      exact u1.trans v1
    refine ⟨ps', pl', C3, ?_, x2, fun x => ?_, fun x => ?_⟩
    · have ecc := chainCount_of (k := k) J (by rw [baS_k (by decide) (by decide)]; exact hk)
      rw [baS_k (by decide) (by decide), h72] at ecc
      unfold c_B_back_25
      rw [cob_of (ci := 3) t48, jgd_true, ecc, obd_some, if_neg (by rw [i32_le (by omega) (by omega)]; omega), rb_tree hbb, obd_some, obd_some, cal_of (n := 20) (by rw [hbb.2.2.2.2.2.2.1.1]; decide) hbb.2.2.2.2.2.2.1.2, obd_some, if_neg (by rw [i32_le (by omega) (by omega)]; omega), obd_some, obd_some, hca, obd_some, jon_some, obd_some, obd_some, hca, obd_some, e50, obd_some, obd_some, cob_of (rc_tag (jj_c J hd')), jgd_true, hload, cbd2_some]
      unfold c_B_back_70
      rw [show i32 i + 1 = i32 (i + 1) from i32_add i 1]
      exact x1
    · rw [x3, u4]
      constructor
      · rintro ((h | ⟨y, h1, h2, h3⟩) | ⟨a, y, h1, h2, h3, h4⟩)
        · exact Or.inl h
        · exact Or.inr ⟨i, y, Nat.le_refl _, by omega, h2, h3⟩
        · exact Or.inr ⟨a, y, by omega, h2, h3, h4⟩
      · rintro (h | ⟨a, y, h1, h2, h3, h4⟩)
        · exact Or.inl (Or.inl h)
        · by_cases e : a = i
          · subst e; exact Or.inl (Or.inr ⟨y, Nat.zero_le _, h3, h4⟩)
          · exact Or.inr ⟨a, y, by omega, h2, h3, h4⟩
    · rw [x4, v4]
      constructor
      · rintro ((h | ⟨y, h1, h2, h3⟩) | ⟨a, y, h1, h2, h3, h4⟩)
        · exact Or.inl h
        · exact Or.inr ⟨i, y, Nat.le_refl _, by omega, h2, h3⟩
        · exact Or.inr ⟨a, y, by omega, h2, h3, h4⟩
      · rintro (h | ⟨a, y, h1, h2, h3, h4⟩)
        · exact Or.inl (Or.inl h)
        · by_cases e : a = i
          · subst e; exact Or.inl (Or.inr ⟨y, Nat.zero_le _, h3, h4⟩)
          · exact Or.inr ⟨a, y, by omega, h2, h3, h4⟩
theorem ba_none : baS S k (fun _ => false) (fun _ => false) = S := by
  refine Prod.ext (funext fun x => funext fun j => ?_) (Prod.ext (funext fun x => funext fun j => ?_) rfl)
  · show (if x = 14 ∧ false = true then _ else if x = 26 ∧ false = true then _ else S.1 x j) = _
    rw [if_neg (fun q => absurd q.2 (by decide)), if_neg (fun q => absurd q.2 (by decide))]
  · show (if x = 15 ∧ false = true then _ else if x = 13 ∧ false = true then _ else if x = 25 ∧ false = true then _ else S.2.1 x j) = _
    rw [if_neg (fun q => absurd q.2 (by decide)), if_neg (fun q => absurd q.2 (by decide)), if_neg (fun q => absurd q.2 (by decide))]
theorem sim_back {N M : Nat} (hN : 100 ≤ N) : ls_16 N M bx (II G E B bx m ad) (II G E B bx m ad) := by
  rintro C T v ⟨S, A, J⟩
  have hb := jj_b J
  have ho : cob C bx 0 = true := cob_of (rb_tag hb)
  rcases kept_of J v with ⟨k, hk, rfl, e1, e2⟩ | ⟨e1, e2⟩
  · have n8 := (jj_n J).2.2
    obtain ⟨t, C1, T1, r, htt, g1, g3, J1, hH, hM, hts, htd, hr⟩ := kept_both hN J hk
    have hb1 := jj_b J1
    have rk := rk_of J hk
    have eroot : cgA C (A 48 k) 3 0 = some (some (A 1 (S.1 45 k))) := (if_pos rk.1.1).trans (congrArg some rk.1.2.1)
    have cpre : c_B_back N bx (i32 k) C = if r = true then c_B_back_25 N N bx (A 48 k) 0 0 C1 else some (false, C1) := by
      unfold c_B_back
      rw [ho, jgd_true, e2, obd_some, jon_some, jgd_true, g1, cbd2_some]
    have mpre : h_R_back N (i32 k) T = if r = true then h_R_back_12 N N (i32 k) 0 T1 else some (false, T1) := by
      unfold h_R_back
      rw [g3, tbd2_some]
    rw [cpre, mpre]
    cases r with
    | false => exact ⟨false, C1, T1, rfl, rfl, S, A, J1⟩
    | true =>
      have hf := hr.mp rfl
      have rk1 := rk_of J1 hk
      have h20 := hts.1
      obtain ⟨v1, v2, v3⟩ := vk_of rk1 hf
      have hfr : ∀ t i, VA S t i → t ∈ [96, 68, 98] → A t i ≠ A 50 k := fun t i h ht => ax_t J1.2.1 (show VA S 50 k from hk) h (Or.inl (fun q => by subst q; revert ht; decide))
      obtain ⟨ps, pl, C2, x1, x2, x3, x4⟩ := back25_go (b := A 50 k) (L := rmV S t t.1) hN J1 h20 htd hfr hk hf.1 rfl (fun i hi => ksec_of rk1 hf hi) t.1 N 0 (fun _ => false) (fun _ => false) C1 T1 (by rw [ba_none]; exact J1) hH rk1.1.1 rk1.1.2.2.2 v1 v2 v3 (by omega) (by omega)
      obtain ⟨ps', pl', T2, y1, y2, y3, y4⟩ := back12_go (N := N) (k := k) hN (by omega) hts t.1 N 0 (fun _ => false) (fun _ => false) T1 (by rw [ba_none]; exact jj_rt J1) hM (by omega) (by omega)
      have ep : ps' = ps := funext fun x => Bool.eq_iff_iff.mpr ((y3 x).trans (x3 x).symm)
      have el : pl' = pl := funext fun x => Bool.eq_iff_iff.mpr ((y4 x).trans (x4 x).symm)
      rw [ep, el] at y2
      rw [if_pos rfl, if_pos rfl]
      exact ⟨true, C2, T2, x1, y1, _, A, jj_T x2 y2⟩
  · refine ⟨false, C, T, ?_, ?_, S, A, J⟩
    · unfold c_B_back
      rw [ho, jgd_true, e2, obd_some, jon_none]
    · unfold h_R_back h_R_isKept
      rw [e1, if_neg (by decide), tbd2_some]
      rfl
end SIMBACK
