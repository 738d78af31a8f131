/-! what a chain made is measured -/
section MEASURE
variable {G : GT} {E B bx m c so : Nat} {ad : Nat → Nat} {S : ST} {A : AT} {C : CT} {T : MT}
def sgB (so : Nat) (x : Int64) : Int32 := match odB so x 0 with | some o => cmpI o | none => 0
def cntB (so : Nat) (x : Int64) (l : Int32) : Nat := if sgB so x ≠ 0 ∧ l = -sgB so x then 1 else 0
def nxtB (so : Nat) (x : Int64) (l : Int32) : Int32 := if sgB so x = 0 then l else sgB so x
def gB (so : Nat) (f : Nat → Int64) : Nat → Nat → Int64 → Int64
  | 0, _, b => b
  | q + 1, i, b => gB so f q (i + 1) (if abB so (szB so (f i)) b = true then szB so (f i) else b)
def gC (so : Nat) (f : Nat → Int64) : Nat → Nat → Nat → Int32 → Nat
  | 0, _, n, _ => n
  | q + 1, i, n, l => gC so f q (i + 1) (n + cntB so (f i) l) (nxtB so (f i) l)
def ruB (so : Nat) (x : Int64) (r : Nat) : Nat := if odB so x 0 = some .eq then r + 1 else 0
def gZ (so : Nat) (f : Nat → Int64) : Nat → Nat → Nat → Nat → Nat
  | 0, _, b, _ => b
  | q + 1, i, b, r => gZ so f q (i + 1) (max b (ruB so (f i) r)) (ruB so (f i) r)
theorem cntB_le {x : Int64} {l : Int32} : cntB so x l ≤ 1 := by unfold cntB; split <;> decide
theorem gC_le {f : Nat → Int64} : ∀ (q i n : Nat) (l : Int32), gC so f q i n l ≤ n + q
  | 0, _, _, _ => Nat.le_refl _
  | q + 1, i, n, l => by
    have a := gC_le (f := f) q (i + 1) (n + cntB so (f i) l) (nxtB so (f i) l)
    have b := cntB_le (so := so) (x := f i) (l := l)
    unfold gC
    omega
theorem ruB_le {x : Int64} {r : Nat} : ruB so x r ≤ r + 1 := by unfold ruB; split <;> omega
theorem gZ_le {f : Nat → Int64} : ∀ (q i b r : Nat), gZ so f q i b r ≤ max b (r + q)
  | 0, _, _, _ => Nat.le_max_left _ _
  | q + 1, i, b, r => by
    have a := gZ_le (f := f) q (i + 1) (max b (ruB so (f i) r)) (ruB so (f i) r)
    have d := ruB_le (so := so) (x := f i) (r := r)
    unfold gZ
    omega
theorem nu_zero (h3 : so < 3) : nuB so 0 = true := by
  have : ∀ so, so < 3 → nuB so 0 = true := by decide +kernel
  exact this so h3
theorem sgB_or (x : Int64) : sgB so x = -1 ∨ sgB so x = 0 ∨ sgB so x = 1 := by
  unfold sgB
  cases odB so x 0 with
  | none => exact Or.inr (Or.inl rfl)
  | some o => cases o
              · exact Or.inl rfl
              · exact Or.inr (Or.inl rfl)
              · exact Or.inr (Or.inr rfl)
theorem nxtB_or {x : Int64} {l : Int32} (h : l = -1 ∨ l = 0 ∨ l = 1) : nxtB so x l = -1 ∨ nxtB so x l = 0 ∨ nxtB so x l = 1 := by
  unfold nxtB
  split
  · exact h
  · exact sgB_or x
def mdF (S : ST) (c : Nat) (i : Nat) : Int64 := S.2.1 27 (400 * c + i % 400)
theorem md_vb (J : JJ G E B bx m ad S A C T) (hc : c < S.1 16 0) (i : Nat) : vb (cso S c) (mdF S c i) := (jj_wc J hc).2.2.2.2.2.1 (i % 400) (Nat.mod_lt _ (by decide))
theorem before_md (J : JJ G E B bx m ad S A C T) (hc : c < S.1 16 0) {q : Nat} (hq : q + 1 ≤ min (S.1 28 c) 400) : c_Chain_madeBefore (A 1 c) (i32 q) C = some (mdF S c (S.1 28 c - (q + 1))) := by
  rw [before_of J hc (by omega), if_pos (by omega)]
  unfold mdF
  rw [show S.1 28 c - 1 - q = S.1 28 c - (q + 1) by omega]
theorem im_dec (q : Nat) : i32 q + (-1) = im q := by
  unfold im
  rw [Int32.sub_eq_add_neg]
theorem im_ge {q : Nat} (h : q < 2 ^ 30) : ¬ im (q + 1) < 0 := by rw [im_succ]; exact i32_nonneg (by omega)
theorem big_cls {N : Nat} (J : JJ G E B bx m ad S A C T) (hc : c < S.1 16 0) (h3 : cso S c < 3) : ∀ (q n : Nat) (b : Int64), q ≤ min (S.1 28 c) 400 → q < n → vb (cso S c) b →
    c_Chain_greatestSize_10 N n (A 1 c) (some (A 5 (cso S c))) b (im q) C = some (gB (cso S c) (mdF S c) q (S.1 28 c - q) b)
  | 0, n, b, _, hn, _ => by
    obtain ⟨n, rfl⟩ : ∃ k, n = k + 1 := ⟨n - 1, by omega⟩
    rfl
  | q + 1, n, b, hq, hn, hv => by
    obtain ⟨n, rfl⟩ : ∃ k, n = k + 1 := ⟨n - 1, by omega⟩
    have hb := jj_b J
    have hx := md_vb J hc (S.1 28 c - (q + 1))
    have hz := szB_vb h3 hx
    have e1 := before_md J hc hq
    have ei : S.1 28 c - q = S.1 28 c - (q + 1) + 1 := by omega
    show (if im (q + 1) < 0 then _ else _) = _
    unfold gB
    rw [if_neg (im_ge (by omega)), im_succ, cob_of (ci := 1) (rc_tag (jj_c J hc)), jgd_true, e1, obd_some, obd_some, nums_size hb h3 (fun _ => hx), obd_some, nums_above hb h3 (fun _ => hz) (fun _ => hv), obd_some, ← ei]
    unfold c_Chain_greatestSize_43
    rw [im_dec]
    by_cases g : abB (cso S c) (szB (cso S c) (mdF S c (S.1 28 c - (q + 1)))) b = true
    · rw [if_pos g, if_pos g, big_cls J hc h3 q n _ (by omega) (by omega) hz]
    · rw [if_neg g, if_neg g, big_cls J hc h3 q n _ (by omega) (by omega) hv]
theorem od_zero (h3 : so < 3) {x : Int64} (hx : nuB so x = true) : ∃ o, odB so x 0 = some o := od_some h3 hx (nu_zero h3)
theorem sign_step {s l : Int32} (hs : s = -1 ∨ s = 0 ∨ s = 1) (hl : l = -1 ∨ l = 0 ∨ l = 1) : (¬ (0 : Int32) ≤ s * l) ↔ (s ≠ 0 ∧ l = -s) := by
  rcases hs with rfl | rfl | rfl <;> rcases hl with rfl | rfl | rfl <;> decide
theorem sign_cls {N : Nat} (J : JJ G E B bx m ad S A C T) (hc : c < S.1 16 0) (h3 : cso S c < 3) : ∀ (q n k : Nat) (l : Int32), q ≤ min (S.1 28 c) 400 → q < n → (l = -1 ∨ l = 0 ∨ l = 1) →
    c_Chain_signChanges_12 N n (A 1 c) (some (A 5 (cso S c))) (i32 k) l (im q) C = some (i32 (gC (cso S c) (mdF S c) q (S.1 28 c - q) k l))
  | 0, n, k, l, _, hn, _ => by
    obtain ⟨n, rfl⟩ : ∃ k, n = k + 1 := ⟨n - 1, by omega⟩
    rfl
  | q + 1, n, k, l, hq, hn, hl => by
    obtain ⟨n, rfl⟩ : ∃ k, n = k + 1 := ⟨n - 1, by omega⟩
    have hb := jj_b J
    have hx := md_vb J hc (S.1 28 c - (q + 1))
    have e1 := before_md J hc hq
    have ei : S.1 28 c - q = S.1 28 c - (q + 1) + 1 := by omega
    have tail : c_Chain_signChanges_45 N (c_Chain_signChanges_12 N n) (A 1 c) (A 5 (cso S c)) (i32 k) l (i32 q) (sgB (cso S c) (mdF S c (S.1 28 c - (q + 1)))) C = some (i32 (gC (cso S c) (mdF S c) (q + 1) (S.1 28 c - (q + 1)) k l)) := by
      have hs := sgB_or (so := cso S c) (mdF S c (S.1 28 c - (q + 1)))
      have hst := sign_step hs hl
      have hnx := nxtB_or (so := cso S c) (x := mdF S c (S.1 28 c - (q + 1))) hl
      have e60 : ∀ (bb : Bool) (z : Nat), jb bb = i32 z → c_Chain_signChanges_60 N (c_Chain_signChanges_12 N n) (A 1 c) (A 5 (cso S c)) l (i32 q) (sgB (cso S c) (mdF S c (S.1 28 c - (q + 1)))) bb (i32 k) C = some (i32 (gC (cso S c) (mdF S c) q (S.1 28 c - q) (k + z) (nxtB (cso S c) (mdF S c (S.1 28 c - (q + 1))) l))) := by
        intro bb z hz
        unfold c_Chain_signChanges_60 c_Chain_signChanges_73
        rw [hz, i32_add, im_dec]
        unfold nxtB at hnx ⊢
        by_cases g : sgB (cso S c) (mdF S c (S.1 28 c - (q + 1))) = 0
        · rw [if_pos g] at hnx
          rw [if_pos g, if_pos g, sign_cls J hc h3 q n (k + z) l (by omega) (by omega) hnx]
        · rw [if_neg g] at hnx
          rw [if_neg g, if_neg g, sign_cls J hc h3 q n (k + z) _ (by omega) (by omega) hnx]
      unfold c_Chain_signChanges_45 gC
      rw [← ei]
      unfold cntB
      by_cases g : (0 : Int32) ≤ sgB (cso S c) (mdF S c (S.1 28 c - (q + 1))) * l
      · rw [if_pos g, if_neg (fun z => hst.mpr z g), e60 false 0 rfl]
      · rw [if_neg g, if_pos (hst.mp g), e60 true 1 rfl]
    show (if im (q + 1) < 0 then _ else _) = _
    rw [if_neg (im_ge (by omega)), im_succ, cob_of (ci := 1) (rc_tag (jj_c J hc)), jgd_true, e1, obd_some, obd_some, nums_num hb h3 (fun _ => hx), obd_some]
    by_cases g : nuB (cso S c) (mdF S c (S.1 28 c - (q + 1))) = true
    · obtain ⟨o, ho⟩ := od_zero h3 g
      have es : sgB (cso S c) (mdF S c (S.1 28 c - (q + 1))) = cmpI o := by unfold sgB; rw [ho]
      rw [if_pos g, nums_cmp hb h3 (fun _ => hx) (fun _ => vb_zero _) ho, obd_some, ← es]
      exact tail
    · have es : sgB (cso S c) (mdF S c (S.1 28 c - (q + 1))) = 0 := by
        unfold sgB
        rw [od_none h3 (Or.inl (by simpa using g))]
      rw [if_neg g, ← es]
      exact tail
theorem max_i32 {a b : Nat} (ha : a < 2 ^ 31) (hb : b < 2 ^ 31) : g_JMath_max (i32 a) (i32 b) = i32 (max a b) := by
  unfold g_JMath_max
  by_cases h : a < b
  · rw [if_pos ((i32_lt ha hb).mpr h), Nat.max_eq_right (by omega)]
  · rw [if_neg (fun z => h ((i32_lt ha hb).mp z)), Nat.max_eq_left (by omega)]
theorem still_cls {N : Nat} (J : JJ G E B bx m ad S A C T) (hc : c < S.1 16 0) (h3 : cso S c < 3) : ∀ (q n b r : Nat), q ≤ min (S.1 28 c) 400 → q < n → b + q < 1000 → r + q < 1000 →
    c_Chain_longestSilence_12 N n (A 1 c) (some (A 5 (cso S c))) (i32 b) (i32 r) (im q) C = some (i32 (gZ (cso S c) (mdF S c) q (S.1 28 c - q) b r))
  | 0, n, b, r, _, hn, _, _ => by
    obtain ⟨n, rfl⟩ : ∃ k, n = k + 1 := ⟨n - 1, by omega⟩
    rfl
  | q + 1, n, b, r, hq, hn, hb1, hr1 => by
    obtain ⟨n, rfl⟩ : ∃ k, n = k + 1 := ⟨n - 1, by omega⟩
    have hb := jj_b J
    have hx := md_vb J hc (S.1 28 c - (q + 1))
    have e1 := before_md J hc hq
    have ei : S.1 28 c - q = S.1 28 c - (q + 1) + 1 := by omega
    have hru := ruB_le (so := cso S c) (x := mdF S c (S.1 28 c - (q + 1))) (r := r)
    have tail : ∀ w : Int32, w = i32 (ruB (cso S c) (mdF S c (S.1 28 c - (q + 1))) r) → c_Chain_longestSilence_51 N (c_Chain_longestSilence_12 N n) (A 1 c) (A 5 (cso S c)) (i32 b) (i32 q) w C = some (i32 (gZ (cso S c) (mdF S c) (q + 1) (S.1 28 c - (q + 1)) b r)) := by
      intro w hw
      unfold c_Chain_longestSilence_51
      rw [hw, max_i32 (by omega) (by omega), im_dec, still_cls J hc h3 q n _ _ (by omega) (by omega) (by omega) (by omega), ei]
      rfl
    show (if im (q + 1) < 0 then _ else _) = _
    rw [if_neg (im_ge (by omega)), im_succ, cob_of (ci := 1) (rc_tag (jj_c J hc)), jgd_true, e1, obd_some, obd_some, nums_num hb h3 (fun _ => hx), obd_some]
    by_cases g : nuB (cso S c) (mdF S c (S.1 28 c - (q + 1))) = true
    · obtain ⟨o, ho⟩ := od_zero h3 g
      rw [if_pos g, nums_cmp hb h3 (fun _ => hx) (fun _ => vb_zero _) ho, obd_some]
      by_cases z : cmpI o = 0
      · have oe : o = .eq := by cases o <;> first | rfl | exact absurd z (by decide)
        rw [if_pos z]
        refine tail _ ?_
        unfold ruB
        rw [if_pos (by rw [ho, oe])]
        exact i32_add r 1
      · rw [if_neg z]
        refine tail _ ?_
        unfold ruB
        rw [if_neg (fun y => z (by rw [ho] at y; rw [Option.some.inj y]; rfl))]
        rfl
    · rw [if_neg g]
      refine tail _ ?_
      unfold ruB
      rw [od_none h3 (Or.inl (by simpa using g)), if_neg (fun y => by cases y)]
      rfl
theorem mea_ref {N : Nat} {v2 : Int32} (J : JJ G E B bx m ad S A C T) (hc : c < S.1 16 0) (h17 : S.1 17 c ≠ 0) (h3 : cso S c < 3) : ∀ (q n i : Nat) (b : Int64) (k : Nat) (l : Int32) (r best : Nat), i + q = S.1 28 c → q < n → vb (cso S c) b → (l = -1 ∨ l = 0 ∨ l = 1) → best + q < 1000 → r + q < 1000 →
    h_R_measure_64 N n (i32 c) v2 (dv (cso S c) b) (j64 k) l (j64 r) (j64 best) (i32 i) T = if v2 = 0 then some (gB (cso S c) (mdF S c) q i b) else if v2 = (1 : Int32) then some (j64 (gC (cso S c) (mdF S c) q i k l)) else some (j64 (gZ (cso S c) (mdF S c) q i best r))
  | 0, n, i, b, k, l, r, best, hq, hn, hv, hl, hb1, hr1 => by
    obtain ⟨n, rfl⟩ : ∃ k, n = k + 1 := ⟨n - 1, by omega⟩
    have c20 : c < 20 := by have := (jj_n J).2.1; omega
    have h10 := (jj_wc J hc).1.1
    have h28 : S.1 28 c ≤ 4000000 := by have := (jj_wc J hc).2.2.2.2.2.2; omega
    have j20 : jrg 20 (i32 c) = some c := jrg_i32 c20 (by decide)
    have e28 : T.1 28 c = i32 (S.1 28 c) := jj_N J 28 (by decide) _
    have e17 : T.1 17 c = i32 (S.1 17 c) := jj_N J 17 (by decide) _
    obtain ⟨-, s2⟩ := sort_of J hc
    rw [if_neg h17] at s2
    show obd (jrg 20 (i32 c)) _ = _
    rw [j20, obd_some, e28, if_pos (by rw [i32_le (by omega) (by omega)]; omega)]
    by_cases g : v2 = 0
    · rw [if_pos g, if_pos g, obd_some, e17, if_neg (show ¬ i32 (S.1 17 c) = (0 : Int32) from i32_ne (b := 0) (by omega) (by decide) h17), s2, obd_some, bitsOf_dv h3 hv, obd_some]
      rfl
    · rw [if_neg g, if_neg g]
      rfl
  | q + 1, n, i, b, k, l, r, best, hq, hn, hv, hl, hb1, hr1 => by
    obtain ⟨n, rfl⟩ : ∃ k, n = k + 1 := ⟨n - 1, by omega⟩
    have c20 : c < 20 := by have := (jj_n J).2.1; omega
    have h28 : S.1 28 c ≤ 4000000 := by have := (jj_wc J hc).2.2.2.2.2.2; omega
    have j20 : jrg 20 (i32 c) = some c := jrg_i32 c20 (by decide)
    have e28 : T.1 28 c = i32 (S.1 28 c) := jj_N J 28 (by decide) _
    obtain ⟨-, s2⟩ := sort_of J hc
    rw [if_neg h17] at s2
    have hm := Nat.mod_lt i (show 0 < 400 by decide)
    have hx := md_vb J hc i
    have hz := szB_vb h3 hx
    have ev : T.2.2.1 27 (400 * c + i % 400) = dv (cso S c) (mdF S c i) := by
      have h := (jj_rt J).2.2.2.2.2.2.2.2.2.1 (400 * c + i % 400)
      rw [show (400 * c + i % 400) / 400 = c by omega] at h
      exact h
    have eix : (400 : Int32) * i32 c + (i32 i - i32 i / 400 * 400) = i32 (400 * c + i % 400) := by
      rw [show (400 : Int32) = i32 400 from rfl, rem_i32 (by omega) (by decide), i32_mul, i32_add]
    have hst := sgB_or (so := cso S c) (mdF S c i)
    have hnx := nxtB_or (so := cso S c) (x := mdF S c i) hl
    have hru := ruB_le (so := cso S c) (x := mdF S c i) (r := r)
    -- from the sign on
    have t176 : ∀ b', vb (cso S c) b' → h_R_measure_176 N (h_R_measure_64 N n) (i32 c) v2 (dv (cso S c) b') (j64 k) l (j64 (ruB (cso S c) (mdF S c i) r)) (j64 (max best (ruB (cso S c) (mdF S c i) r))) (i32 i) (sgB (cso S c) (mdF S c i)) T =
        if v2 = 0 then some (gB (cso S c) (mdF S c) q (i + 1) b') else if v2 = (1 : Int32) then some (j64 (gC (cso S c) (mdF S c) q (i + 1) (k + cntB (cso S c) (mdF S c i) l) (nxtB (cso S c) (mdF S c i) l))) else some (j64 (gZ (cso S c) (mdF S c) q (i + 1) (max best (ruB (cso S c) (mdF S c i) r)) (ruB (cso S c) (mdF S c i) r))) := by
      intro b' hv'
      have ih := fun (k' : Nat) (l' : Int32) (h : l' = -1 ∨ l' = 0 ∨ l' = 1) => mea_ref (N := N) (v2 := v2) J hc h17 h3 q n (i + 1) b' k' l' (ruB (cso S c) (mdF S c i) r) (max best (ruB (cso S c) (mdF S c i) r)) (by omega) (by omega) hv' h (by omega) (by omega)
      unfold h_R_measure_176 h_R_measure_200 h_R_measure_204
      rw [show i32 i + 1 = i32 (i + 1) from i32_add i 1, show j64 k + 1 = j64 (k + 1) from j64_add k 1]
      by_cases g : sgB (cso S c) (mdF S c i) = 0
      · have en : nxtB (cso S c) (mdF S c i) l = l := if_pos g
        have ec : cntB (cso S c) (mdF S c i) l = 0 := if_neg (fun z => z.1 g)
        rw [en] at hnx
        rw [if_pos g, en, ec, Nat.add_zero k, ih k l hnx]
      · have en : nxtB (cso S c) (mdF S c i) l = sgB (cso S c) (mdF S c i) := if_neg g
        rw [en] at hnx
        rw [if_neg g, en]
        by_cases g2 : l = -sgB (cso S c) (mdF S c i)
        · have ec : cntB (cso S c) (mdF S c i) l = 1 := if_pos ⟨g, g2⟩
          rw [if_pos g2, ec, ih (k + 1) _ hnx]
        · have ec : cntB (cso S c) (mdF S c i) l = 0 := if_neg (fun z => g2 z.2)
          rw [if_neg g2, ec, Nat.add_zero k, ih k _ hnx]
    have t151 : ∀ b', vb (cso S c) b' → h_R_measure_151 N (h_R_measure_64 N n) (i32 c) v2 (dv (cso S c) b') (j64 k) l (j64 (ruB (cso S c) (mdF S c i) r)) (i32 i) (dv (cso S c) (mdF S c i)) (j64 (max best (ruB (cso S c) (mdF S c i) r))) T =
        h_R_measure_176 N (h_R_measure_64 N n) (i32 c) v2 (dv (cso S c) b') (j64 k) l (j64 (ruB (cso S c) (mdF S c i) r)) (j64 (max best (ruB (cso S c) (mdF S c i) r))) (i32 i) (sgB (cso S c) (mdF S c i)) T := by
      intro b' _
      unfold h_R_measure_151 sgB
      rw [dcmp_zero h3 hx]
      cases odB (cso S c) (mdF S c i) 0 with
      | none => rfl
      | some o => cases o <;> rfl
    have t119 : ∀ b', vb (cso S c) b' → h_R_measure_119 N (h_R_measure_64 N n) (i32 c) v2 (dv (cso S c) b') (j64 k) l (j64 r) (j64 best) (i32 i) (dv (cso S c) (mdF S c i)) T =
        h_R_measure_151 N (h_R_measure_64 N n) (i32 c) v2 (dv (cso S c) b') (j64 k) l (j64 (ruB (cso S c) (mdF S c i) r)) (i32 i) (dv (cso S c) (mdF S c i)) (j64 (max best (ruB (cso S c) (mdF S c i) r))) T := by
      intro b' _
      have t134 : ∀ w : Int64, w = j64 (ruB (cso S c) (mdF S c i) r) → h_R_measure_134 N (h_R_measure_64 N n) (i32 c) v2 (dv (cso S c) b') (j64 k) l (j64 best) (i32 i) (dv (cso S c) (mdF S c i)) w T =
          h_R_measure_151 N (h_R_measure_64 N n) (i32 c) v2 (dv (cso S c) b') (j64 k) l (j64 (ruB (cso S c) (mdF S c i) r)) (i32 i) (dv (cso S c) (mdF S c i)) (j64 (max best (ruB (cso S c) (mdF S c i) r))) T := by
        intro w hw
        unfold h_R_measure_134
        rw [hw]
        by_cases g : ruB (cso S c) (mdF S c i) r ≤ best
        · rw [if_pos ((j64_le (by omega) (by omega)).mpr g), Nat.max_eq_left g]
        · rw [if_neg (fun z => g ((j64_le (by omega) (by omega)).mp z)), Nat.max_eq_right (by omega)]
      unfold h_R_measure_119
      rw [dcmp_zero h3 hx]
      by_cases g : odB (cso S c) (mdF S c i) 0 = some .eq
      · rw [g, if_pos (by decide)]
        refine t134 _ ?_
        unfold ruB
        rw [if_pos g]; exact j64_add r 1
      · rw [if_neg]
        · refine t134 _ ?_
          unfold ruB
          rw [if_neg g]; rfl
        · intro z
          apply g
          cases ho : odB (cso S c) (mdF S c i) 0 with
          | none => rw [ho] at z; exact absurd z (by decide)
          | some o =>
            rw [ho] at z
            cases o
            · exact absurd z (by decide)
            · rfl
            · exact absurd z (by decide)
    have c1 : (Op.cmpValue (odB (cso S c) (szB (cso S c) (mdF S c i)) b) .l ≤ 0) ↔ ¬ abB (cso S c) (szB (cso S c) (mdF S c i)) b = true := by
      rw [ab_iff]
      cases odB (cso S c) (szB (cso S c) (mdF S c i)) b with
      | none => exact ⟨fun _ h => (by cases h), fun _ => by decide⟩
      | some o => cases o <;> exact ⟨fun h => by revert h; decide, fun h => by revert h; decide⟩
    show obd (jrg 20 (i32 c)) _ = _
    rw [j20, obd_some, e28, if_neg (by rw [i32_le (by omega) (by omega)]; omega), eix, jrg_i32 (by omega) (by decide), obd_some, s2, obd_some, ev, size_ref h3 hx, obd_some, dcmp_dv h3 hz hv]
    by_cases g : abB (cso S c) (szB (cso S c) (mdF S c i)) b = true
    · rw [if_neg (fun z => c1.mp z g), t119 _ hz, t151 _ hz, t176 _ hz]
      show _ = if v2 = 0 then some (gB (cso S c) (mdF S c) q (i + 1) (if abB (cso S c) (szB (cso S c) (mdF S c i)) b = true then szB (cso S c) (mdF S c i) else b)) else _
      rw [if_pos g]
      rfl
    · rw [if_pos (c1.mpr g), t119 _ hv, t151 _ hv, t176 _ hv]
      show _ = if v2 = 0 then some (gB (cso S c) (mdF S c) q (i + 1) (if abB (cso S c) (szB (cso S c) (mdF S c i)) b = true then szB (cso S c) (mdF S c i) else b)) else _
      rw [if_neg g]
      rfl
theorem in_two {v : Int32} : g_R_in v 0 2 = true ↔ v = 0 ∨ v = 1 ∨ v = 2 := by
  unfold g_R_in
  constructor
  · intro h
    by_cases h1 : v < 0
    · rw [if_pos h1] at h; cases h
    · rw [if_neg h1] at h
      by_cases h2 : 2 < v
      · rw [if_pos h2] at h; cases h
      · rcases i32_or v with q | ⟨n, hn, rfl⟩
        · exact absurd q h1
        · rw [show (2 : Int32) = i32 2 from rfl, i32_lt (by decide) hn] at h2
          have : n = 0 ∨ n = 1 ∨ n = 2 := by omega
          rcases this with rfl | rfl | rfl
          · exact Or.inl rfl
          · exact Or.inr (Or.inl rfl)
          · exact Or.inr (Or.inr rfl)
  · rintro (rfl | rfl | rfl) <;> decide
theorem sim_measure {N M : Nat} (hN : 1000 ≤ N) : ls_22 N M bx (II G E B bx m ad) (II G E B bx m ad) := by
  rintro C T v w ⟨S, A, J⟩
  have hb := jj_b J
  have ho : cob C bx 0 = true := cob_of (rb_tag hb)
  rcases ch_or J v with ⟨c, hc, rfl, hq, hk⟩ | ⟨hq, hk⟩
  · obtain ⟨s1, s2⟩ := sort_of J hc
    have hct := cob_of (ci := 1) (rc_tag (jj_c J hc))
    have c20 : c < 20 := by have := (jj_n J).2.1; omega
    have h28 : S.1 28 c ≤ 4000000 := by have := (jj_wc J hc).2.2.2.2.2.2; omega
    have j20 : jrg 20 (i32 c) = some c := jrg_i32 c20 (by decide)
    have e28 : T.1 28 c = i32 (S.1 28 c) := jj_N J 28 (by decide) _
    by_cases h17 : S.1 17 c = 0
    · have z28 := ((jj_wc J hc).2.2.2.1 h17).2.1
      rw [if_pos h17] at s1 s2
      refine ⟨0, C, T, ⟨?_, rfl⟩, ⟨?_, rfl⟩, S, A, J⟩
      · unfold c_B_measure
        rw [ho, jgd_true, hk, obd_some, jon_some, hct, jgd_true, s1, obd_some, jgd_true, numbersOf_none (fun ⟨so, h, e⟩ => by
          have a := congrArg Int32.toInt e
          rw [i32_toInt (by omega)] at a
          have b : (-1 : Int32).toInt = -1 := rfl
          omega), obd_some, jon_none]
      · unfold h_R_measure
        rw [hq, obd_some, if_pos (show true = true from rfl)]
        by_cases g : g_R_in w 0 2 = true
        · rw [if_pos g, j20, obd_some, e28, z28, if_pos (by decide)]
          unfold h_R_measure_45
          obtain ⟨N, rfl⟩ : ∃ k, N = k + 1 := ⟨N - 1, by omega⟩
          show obd (jrg 20 (i32 c)) _ = _
          rw [j20, obd_some, e28, z28, if_pos (by decide)]
          by_cases g0 : w = 0
          · rw [if_pos g0, obd_some, jj_N J 17 (by decide), h17, if_pos (show i32 0 = (0 : Int32) from rfl)]
          · rw [if_neg g0]
            split <;> rfl
        · rw [if_neg g]
    · rw [if_neg h17] at s1 s2
      have h3 := mem0_so J hc h17
      have mdl : h_R_measure N (i32 c) w T = if g_R_in w 0 2 = true then (if w = 0 then some (gB (cso S c) (mdF S c) (min (S.1 28 c) 400) (S.1 28 c - min (S.1 28 c) 400) 0) else if w = (1 : Int32) then some (j64 (gC (cso S c) (mdF S c) (min (S.1 28 c) 400) (S.1 28 c - min (S.1 28 c) 400) 0 0)) else some (j64 (gZ (cso S c) (mdF S c) (min (S.1 28 c) 400) (S.1 28 c - min (S.1 28 c) 400) 0 0))) else some 0 := by
        have h45 := mea_ref (N := N) (v2 := w) J hc h17 h3 (min (S.1 28 c) 400) N (S.1 28 c - min (S.1 28 c) 400) 0 0 0 0 0 (by omega) (by omega) (vb_zero _) (Or.inr (Or.inl rfl)) (by omega) (by omega)
        rw [dv_zero] at h45
        unfold h_R_measure
        rw [hq, obd_some, if_pos (show true = true from rfl)]
        by_cases g : g_R_in w 0 2 = true
        · rw [if_pos g, if_pos g, ← h45, j20, obd_some, e28]
          unfold h_R_measure_45
          by_cases g4 : S.1 28 c ≤ 400
          · rw [if_pos (by rw [show (400 : Int32) = i32 400 from rfl, i32_le (by omega) (by decide)]; exact g4), Nat.min_eq_left g4, Nat.sub_self]
            rfl
          · rw [if_neg (by rw [show (400 : Int32) = i32 400 from rfl, i32_le (by omega) (by decide)]; exact g4), obd_some, e28, Nat.min_eq_right (by omega), show i32 (S.1 28 c) - (400 : Int32) = i32 (S.1 28 c - 400) from i32_sub (a := S.1 28 c) (b := 400) (by omega)]
            rfl
        · rw [if_neg g, if_neg g]
      have cpre : c_B_measure N bx (i32 c) w C = if w = 0 then (obd (c_Chain_greatestSize N (A 1 c) (some (A 5 (cso S c))) C) fun x6 => some x6) else if w = 1 then (obd (c_Chain_signChanges N (A 1 c) (some (A 5 (cso S c))) C) fun x7 => some (Int32.toInt64 x7)) else if w = 2 then (obd (c_Chain_longestSilence N (A 1 c) (some (A 5 (cso S c))) C) fun x8 => some (Int32.toInt64 x8)) else some 0 := by
        unfold c_B_measure
        rw [ho, jgd_true, hk, obd_some, jon_some, hct, jgd_true, s1, obd_some, jgd_true, numbersOf_some hb h3, obd_some, jon_some, jgd_true]
        simp only [jgd_true]
      have eh : i32 (min (S.1 28 c) 400) - (1 : Int32) = im (min (S.1 28 c) 400) := rfl
      have fin : ∀ r, c_B_measure N bx (i32 c) w C = some r → h_R_measure N (i32 c) w T = some r → ∃ (r : Int64) (C1 : CT) (T1 : MT), (c_B_measure N bx (i32 c) w C = some r ∧ C = C1) ∧ (h_R_measure N (i32 c) w T = some r ∧ T = T1) ∧ II G E B bx m ad C1 T1 := fun r h1 h2 => ⟨r, C, T, ⟨h1, rfl⟩, ⟨h2, rfl⟩, S, A, J⟩
      by_cases g : g_R_in w 0 2 = true
      · rw [if_pos g] at mdl
        rcases in_two.mp g with rfl | rfl | rfl
        · refine fin _ ?_ mdl
          rw [cpre, if_pos (show (0 : Int32) = 0 from rfl)]
          unfold c_Chain_greatestSize
          rw [rc_held (jj_c J hc), obd_some, eh, big_cls J hc h3 _ N 0 (Nat.le_refl _) (by omega) (vb_zero _), obd_some]
        · refine fin _ ?_ mdl
          rw [cpre, if_neg (by decide : ¬ (1 : Int32) = 0), if_pos (show (1 : Int32) = 1 from rfl)]
          unfold c_Chain_signChanges
          have e := sign_cls (N := N) J hc h3 (min (S.1 28 c) 400) N 0 0 (Nat.le_refl _) (by omega) (Or.inr (Or.inl rfl))
          have le := gC_le (so := cso S c) (f := mdF S c) (min (S.1 28 c) 400) (S.1 28 c - min (S.1 28 c) 400) 0 0
          have e' : c_Chain_signChanges_12 N N (A 1 c) (some (A 5 (cso S c))) (0 : Int32) (0 : Int32) (im (min (S.1 28 c) 400)) C = _ := e
          rw [rc_held (jj_c J hc), obd_some, eh, e', obd_some, i32_j64 (by omega)]
        · refine fin _ ?_ mdl
          rw [cpre, if_neg (by decide : ¬ (2 : Int32) = 0), if_neg (by decide : ¬ (2 : Int32) = 1), if_pos (show (2 : Int32) = 2 from rfl)]
          unfold c_Chain_longestSilence
          have e := still_cls (N := N) J hc h3 (min (S.1 28 c) 400) N 0 0 (Nat.le_refl _) (by omega) (by omega) (by omega)
          have le := gZ_le (so := cso S c) (f := mdF S c) (min (S.1 28 c) 400) (S.1 28 c - min (S.1 28 c) 400) 0 0
          have e' : c_Chain_longestSilence_12 N N (A 1 c) (some (A 5 (cso S c))) (0 : Int32) (0 : Int32) (im (min (S.1 28 c) 400)) C = _ := e
          rw [rc_held (jj_c J hc), obd_some, eh, e', obd_some, i32_j64 (by omega)]
      · rw [if_neg g] at mdl
        refine fin 0 ?_ mdl
        rw [cpre, if_neg (fun z => g (in_two.mpr (Or.inl z))), if_neg (fun z => g (in_two.mpr (Or.inr (Or.inl z)))), if_neg (fun z => g (in_two.mpr (Or.inr (Or.inr z))))]
  · refine ⟨0, C, T, ⟨?_, rfl⟩, ⟨?_, rfl⟩, S, A, J⟩
    · unfold c_B_measure
      rw [ho, jgd_true, hk, obd_some, jon_none]
    · unfold h_R_measure
      rw [hq, obd_some, if_neg (by decide)]
end MEASURE
