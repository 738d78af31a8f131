/-! whether a chain may be remade: the class's way -/
section CANTR
variable {G : GT} {E B bx m : Nat} {ad : Nat → Nat} {S : ST} {A : AT} {C : CT} {T : MT} {c s st : Nat}
def allR (f : Nat → Bool) : Nat → Nat → Bool
  | _, 0 => true
  | p, q + 1 => f p && allR f (p + 1) q
theorem allR_iff {f : Nat → Bool} : ∀ {q p : Nat}, allR f p q = true ↔ ∀ x, p ≤ x → x < p + q → f x = true
  | 0, p => ⟨fun _ x h1 h2 => absurd h2 (by omega), fun _ => rfl⟩
  | q + 1, p => by
    have ih := allR_iff (f := f) (q := q) (p := p + 1)
    show (f p && allR f (p + 1) q) = true ↔ _
    rw [Bool.and_eq_true, ih]
    refine ⟨fun h x h1 h2 => ?_, fun h => ⟨h p (Nat.le_refl _) (by omega), fun x h1 h2 => h x (by omega) (by omega)⟩⟩
    by_cases e : x = p
    · rw [e]; exact h.1
    · exact h.2 x (by omega) (by omega)
/-- what stands in the way, coefficient by coefficient, loop by loop -/
def okf (S : ST) (st s k : Nat) : Bool := okB (S.1 3 s) st (g_R_isPlain (i32 (S.1 2 s))) (S.2.1 7 (5 * s + k))
def okm (S : ST) (st c p : Nat) : Bool := allR (okf S st (S.1 18 (10 * c + p))) 0 (nfac (S.1 2 (S.1 18 (10 * c + p))))
def okl (S : ST) (st c i : Nat) : Bool := okB (cso S c) st false (S.2.1 24 (3 * c + i))
def okc (S : ST) (st c : Nat) : Bool := allR (okm S st c) 0 (S.1 17 c) && allR (okl S st c) 0 (S.1 20 c)
theorem factorCount_of (J : JJ G E B bx m ad S A C T) (hs : s < S.1 1 0) : c_Section_factorCount (A 7 s) C = some (i32 (nfac (S.1 2 s))) := by
  have hr := jj_s J hs
  unfold c_Section_factorCount
  rw [rs_factors hr, obd_some, obd_some, cal_of (by rw [hr.2.2.1.1]; decide) hr.2.2.1.2.1, obd_some]
theorem can20_go (J : JJ G E B bx m ad S A C T) (s3 : st < 3) (hs : s < S.1 1 0) {N : Nat} {k2 : Nat → Option Nat → Option Nat → Int32 → CT → Option Bool} {a1 : Nat} {v3 : Int32} : ∀ (q n k : Nat), k + q = nfac (S.1 2 s) → q < n →
    c_B_canTranslate_20 N k2 n bx a1 (some (A 5 st)) v3 (some (A 7 s)) (i32 k) C = if allR (okf S st s) k q = true then k2 bx (some a1) (some (A 5 st)) (v3 + 1) C else some false
  | 0, 0, _, _, h => absurd h (by omega)
  | 0, n + 1, k, hk, _ => by
    have n5 := nfac_5 (S.1 2 s)
    unfold c_B_canTranslate_20
    rw [jon_some, cob_of (rs_tag (jj_s J hs)), jgd_true, factorCount_of J hs, obd_some, if_pos (by rw [i32_le (by omega) (by omega)]; omega), if_pos (show allR (okf S st s) k 0 = true from rfl)]
    rfl
  | q + 1, 0, _, _, h => absurd h (by omega)
  | q + 1, n + 1, k, hk, hn => by
    have n5 := nfac_5 (S.1 2 s)
    have hb := jj_b J
    have hr := jj_s J hs
    have h3 := so_lt J hs
    have ht := cob_of (ci := 7) (rs_tag hr)
    have hv := cf_vb J hs (k := k) (by omega)
    have ih := can20_go J s3 hs (N := N) (k2 := k2) (a1 := a1) (v3 := v3) q n (k + 1) (by omega) (by omega)
    have e : allR (okf S st s) k (q + 1) = (okf S st s k && allR (okf S st s) (k + 1) q) := rfl
    unfold c_B_canTranslate_20
    rw [jon_some, ht, jgd_true, factorCount_of J hs, obd_some, if_neg (by rw [i32_le (by omega) (by omega)]; omega), rs_numbers hr, obd_some, jgd_true, factor_of J hs (by omega), obd_some, jgd_true, whole_of J hs, obd_some, cob_of (ci := 0) (rb_tag hb), jgd_true, translated_of hb h3 s3 hv, obd_some, obd_some, holds_of hb s3, obd_some, e]
    show (if okf S st s k = true then _ else _) = _
    cases hq : okf S st s k with
    | true => rw [if_pos rfl, Bool.true_and, show i32 k + 1 = i32 (k + 1) from i32_add k 1]; exact ih
    | false => rw [if_neg (by decide), Bool.false_and, if_neg (by decide)]
theorem can90_go (J : JJ G E B bx m ad S A C T) (s3 : st < 3) (hc : c < S.1 16 0) (h0 : S.1 17 c ≠ 0) {N : Nat} : ∀ (q n i : Nat), i + q = S.1 20 c → q < n →
    c_B_canTranslate_90 N n bx (A 1 c) (some (A 5 st)) (some (A 5 (cso S c))) (i32 i) C = some (allR (okl S st c) i q)
  | 0, 0, _, _, h => absurd h (by omega)
  | 0, n + 1, i, hi, _ => by
    have h3 := (jj_wc J hc).1.2.1
    unfold c_B_canTranslate_90
    rw [rc_loopCount (jj_c J hc), obd_some, if_pos (by rw [i32_le (by omega) (by omega)]; omega)]
    rfl
  | q + 1, 0, _, _, h => absurd h (by omega)
  | q + 1, n + 1, i, hi, hn => by
    have hb := jj_b J
    have hr := jj_c J hc
    have w := jj_wc J hc
    have h3 := w.1.2.1
    have hso : cso S c < 3 := so_lt J (w.2.1 0 (by omega)).1
    have wl := w.2.2.2.2.1 i (by omega)
    have ih := can90_go J s3 hc h0 (N := N) q n (i + 1) (by omega) (by omega)
    have hl := hr.2.2.2.2 i (by omega)
    unfold c_B_canTranslate_90
    rw [rc_loopCount hr, obd_some, if_neg (by rw [i32_le (by omega) (by omega)]; omega), cob_of (rc_tag hr), jgd_true, loopAt_of J hc (by omega), if_pos (by omega), obd_some, jon_some, jon_some, rl_factor hl, obd_some, cob_of (ci := 0) (rb_tag hb), jgd_true, translated_of hb hso s3 wl.2.2.2.2.2.1, obd_some, obd_some, holds_of hb s3, obd_some, show i32 i + 1 = i32 (i + 1) from i32_add i 1]
    show (if okl S st c i = true then _ else _) = some (okl S st c i && allR (okl S st c) (i + 1) q)
    cases hq : okl S st c i with
    | true => rw [if_pos rfl, Bool.true_and]; exact ih
    | false => rw [if_neg (by decide), Bool.false_and]
theorem can2_go (J : JJ G E B bx m ad S A C T) (s3 : st < 3) (hc : c < S.1 16 0) (h0 : S.1 17 c ≠ 0) {N : Nat} (hN : 100 ≤ N) : ∀ (q n p : Nat), p + q = S.1 17 c → q < n →
    c_B_canTranslate_2 N n bx (some (A 1 c)) (some (A 5 st)) (i32 p) C = some (allR (okm S st c) p q && allR (okl S st c) 0 (S.1 20 c))
  | 0, 0, _, _, h => absurd h (by omega)
  | 0, n + 1, p, hp, _ => by
    have hb := jj_b J
    have hr := jj_c J hc
    have w := jj_wc J hc
    have h10 := w.1.1
    have hso : cso S c < 3 := so_lt J (w.2.1 0 (by omega)).1
    have hs := (sort_of J hc).1
    rw [if_neg h0] at hs
    unfold c_B_canTranslate_2
    rw [obd_some, rc_size hr, obd_some, if_pos (by rw [i32_le (by omega) (by omega)]; omega), cob_of (rc_tag hr), jgd_true, hs, obd_some, cob_of (ci := 0) (rb_tag hb), jgd_true, numbersOf_some hb hso, obd_some]
    exact can90_go J s3 hc h0 (S.1 20 c) N 0 (by omega) (by have := w.1.2.1; omega)
  | q + 1, 0, _, _, h => absurd h (by omega)
  | q + 1, n + 1, p, hp, hn => by
    have hr := jj_c J hc
    have h10 := (jj_wc J hc).1.1
    have n5 := nfac_5 (S.1 2 (S.1 18 (10 * c + p)))
    have ih := can2_go J s3 hc h0 hN q n (p + 1) (by omega) (by omega)
    have h20 := can20_go J s3 (places_lt J hc (p := p) (by omega)) (N := N) (k2 := c_B_canTranslate_2 N n) (a1 := A 1 c) (v3 := i32 p) (nfac (S.1 2 (S.1 18 (10 * c + p)))) N 0 (by omega) (by omega)
    have h20 : c_B_canTranslate_20 N (c_B_canTranslate_2 N n) N bx (A 1 c) (some (A 5 st)) (i32 p) (some (A 7 (S.1 18 (10 * c + p)))) 0 C = if okm S st c p = true then c_B_canTranslate_2 N n bx (some (A 1 c)) (some (A 5 st)) (i32 p + 1) C else some false := h20
    unfold c_B_canTranslate_2
    rw [obd_some, rc_size hr, obd_some, if_neg (by rw [i32_le (by omega) (by omega)]; omega), cob_of (rc_tag hr), jgd_true, member_of J hc (by omega), if_pos (by omega), obd_some, h20, show i32 p + 1 = i32 (p + 1) from i32_add p 1]
    show _ = some ((okm S st c p && allR (okm S st c) (p + 1) q) && _)
    cases hq : okm S st c p with
    | true => rw [if_pos rfl, Bool.true_and]; exact ih
    | false => rw [if_neg (by decide), Bool.false_and, Bool.false_and]
theorem can_of (J : JJ G E B bx m ad S A C T) (s3 : st < 3) (hc : c < S.1 16 0) (h0 : S.1 17 c ≠ 0) {N : Nat} (hN : 100 ≤ N) : c_B_canTranslate N bx (some (A 1 c)) (some (A 5 st)) C = some (okc S st c) := by
  have h10 := (jj_wc J hc).1.1
  exact can2_go J s3 hc h0 hN (S.1 17 c) N 0 (by omega) (by omega)
/-- what a tree comes to -/
def szt (S : ST) (t : TR) : Nat → Nat := fun i => S.1 17 (t.2 i)
def fitT (S : ST) (n sz : Nat) : Bool := decide (S.1 1 0 + sz ≤ 60) && decide (S.1 16 0 + n ≤ 20)
theorem sm_le {f : Nat → Nat} {b : Nat} : ∀ {n : Nat}, (∀ i, i < n → f i ≤ b) → sm f n ≤ b * n
  | 0, _ => Nat.zero_le _
  | n + 1, h => by
    have := sm_le (f := f) (b := b) (n := n) (fun i hi => h i (by omega))
    have := h n (by omega)
    show sm f n + f n ≤ b * (n + 1)
    rw [Nat.mul_succ]
    omega
theorem can76_of (J : JJ G E B bx m ad S A C T) {N n sz : Nat} (hn : n ≤ 20) (hsz : sz ≤ 200) : c_B_canRemake_76 N bx (i32 n) (i32 sz) C = some (fitT S n sz, C) := by
  have hb := jj_b J
  have h := jj_n J
  unfold c_B_canRemake_76 fitT
  rw [rb_sectionCount hb, obd_some, i32_add]
  by_cases h1 : S.1 1 0 + sz ≤ 60
  · rw [if_neg (by rw [show (60 : Int32) = i32 60 from rfl, i32_lt (by omega) (by omega)]; omega), rb_chainCount hb, obd_some, i32_add, decide_eq_true h1, Bool.true_and]
    by_cases h2 : S.1 16 0 + n ≤ 20
    · rw [if_neg (by rw [show (20 : Int32) = i32 20 from rfl, i32_lt (by omega) (by omega)]; omega), decide_eq_true h2]
    · rw [if_pos (by rw [show (20 : Int32) = i32 20 from rfl, i32_lt (by omega) (by omega)]; omega), decide_eq_false h2]
  · rw [if_pos (by rw [show (60 : Int32) = i32 60 from rfl, i32_lt (by omega) (by omega)]; omega), decide_eq_false h1, Bool.false_and]
theorem can12_go (J : JJ G E B bx m ad S A C T) (s3 : st < 3) {N : Nat} (hN : 100 ≤ N) {t : TR} (ht : t.1 ≤ 20) (hH : TH A C t) (hd : ∀ i, i < t.1 → t.2 i < S.1 16 0 ∧ S.1 17 (t.2 i) ≠ 0) : ∀ (q n i : Nat), i + q = t.1 → q < n →
    c_B_canRemake_12 N n bx (some (A 5 st)) (i32 t.1) (i32 (sm (szt S t) i)) (i32 i) C = some (allR (fun i => okc S st (t.2 i)) i q && fitT S t.1 (sm (szt S t) t.1), C)
  | 0, 0, _, _, h => absurd h (by omega)
  | 0, n + 1, i, hi, _ => by
    have : i = t.1 := by omega
    subst this
    have hsz : sm (szt S t) t.1 ≤ 10 * t.1 := sm_le fun i hi => (jj_wc J (hd i hi).1).1.1
    unfold c_B_canRemake_12
    rw [if_pos (by rw [i32_le (by omega) (by omega)]; omega), can76_of J ht (by omega)]
    rfl
  | q + 1, 0, _, _, h => absurd h (by omega)
  | q + 1, n + 1, i, hi, hn => by
    have hb := jj_b J
    have hdi := hd i (by omega)
    have ih := can12_go J s3 hN ht hH hd q n (i + 1) (by omega) (by omega)
    have hsz : sm (szt S t) i ≤ 10 * i := sm_le fun j hj => (jj_wc J (hd j (by omega)).1).1.1
    have hca : caA C (A 3 3) 1 (i32 i) = some (some (A 1 (t.2 i))) := by
      rw [caA_of (ci := 1) (n := 20) hb.2.2.2.2.2.2.1.1 (by decide) hb.2.2.2.2.2.2.1.2 (by omega) (by decide), hH i (by omega)]
    unfold c_B_canRemake_12
    rw [if_neg (by rw [i32_le (by omega) (by omega)]; omega), rb_tree hb, obd_some, obd_some, cal_of (n := 20) (by rw [hb.2.2.2.2.2.2.1.1]; decide) hb.2.2.2.2.2.2.1.2, obd_some, if_neg (by rw [i32_le (by omega) (by omega)]; omega), obd_some, obd_some, hca, obd_some, jon_some, obd_some, obd_some, hca, obd_some, cob_of (ci := 0) (rb_tag hb), jgd_true, can_of J s3 hdi.1 hdi.2 hN, obd_some]
    show _ = some ((okc S st (t.2 i) && allR (fun i => okc S st (t.2 i)) (i + 1) q) && _, C)
    cases hq : okc S st (t.2 i) with
    | true =>
      rw [if_pos rfl, Bool.true_and, obd_some, obd_some, hca, obd_some, obd_some, rc_size (jj_c J hdi.1), obd_some, i32_add, show i32 i + 1 = i32 (i + 1) from i32_add i 1]
      exact ih
    | false => rw [if_neg (by decide), Bool.false_and, Bool.false_and]
end CANTR
