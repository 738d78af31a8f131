/-! within -/
section WITHIN
variable {G : GT} {E B bx m : Nat} {ad : Nat → Nat} {S : ST} {A : AT} {C : CT} {T : MT} {c s d : Nat}
def anyR (f : Nat → Bool) : Nat → Nat → Bool
  | _, 0 => false
  | p, q + 1 => f p || anyR f (p + 1) q
theorem anyR_iff {f : Nat → Bool} : ∀ {q p : Nat}, anyR f p q = false ↔ ∀ x, p ≤ x → x < p + q → f x = false
  | 0, p => ⟨fun _ x h1 h2 => absurd h2 (by omega), fun _ => rfl⟩
  | q + 1, p => by
    have ih := anyR_iff (f := f) (q := q) (p := p + 1)
    show (f p || anyR f (p + 1) q) = false ↔ _
    rw [Bool.or_eq_false_iff, ih]
    refine ⟨fun h x h1 h2 => ?_, fun h => ⟨h p (Nat.le_refl _) (by omega), fun x h1 h2 => h x (by omega) (by omega)⟩⟩
    by_cases e : x = p
    · rw [e]; exact h.1
    · exact h.2 x (by omega) (by omega)
theorem cnt_zero {f : Nat → Bool} : ∀ {n : Nat}, cnt f n = 0 ↔ ∀ x, x < n → f x = false
  | 0 => ⟨fun _ x h => absurd h (Nat.not_lt_zero _), fun _ => rfl⟩
  | n + 1 => by
    have ih := cnt_zero (f := f) (n := n)
    show cnt f n + (if f n then 1 else 0) = 0 ↔ _
    constructor
    · intro h x hx
      by_cases e : x = n
      · subst e
        cases q : f x with
        | false => rfl
        | true => rw [q, if_pos rfl] at h; omega
      · exact ih.mp (by omega) x (by omega)
    · intro h
      rw [ih.mpr (fun x hx => h x (by omega)), h n (by omega)]
      rfl
def rtf (S : ST) (c p : Nat) : Bool := rate (S.1 2 (S.1 18 (10 * c + p)))
theorem rate_in : ∀ kd, kd < 16 → g_R_in (i32 kd) 12 14 = rate kd := by decide
theorem changes_of (J : JJ G E B bx m ad S A C T) (hs : s < S.1 1 0) : c_Section_changesRate (A 7 s) C = some (rate (S.1 2 s)) := by
  have hk := (jj_ws J hs).1.1
  unfold c_Section_changesRate c_Section_changesRate_16
  rw [rs_kind (jj_s J hs), obd_some, cob_of (rs_tag (jj_s J hs)), jgd_true, spreads_of J hs, obd_some]
  have : ∀ kd, kd < 16 → (if i32 kd = 12 then some true else if spread kd = true then some true else some false) = some (rate kd) := by decide
  exact this _ hk
theorem changes_go (J : JJ G E B bx m ad S A C T) (hc : c < S.1 16 0) {N to : Nat} (ht : to < S.1 17 c) : ∀ (q n p : Nat), p + q = to + 1 → q < n → c_Chain_changesRate_10 N n (A 1 c) (i32 to) (i32 p) C = some (anyR (rtf S c) p q)
  | 0, 0, _, _, h => absurd h (by omega)
  | 0, n + 1, p, hp, _ => by
    have h10 := (jj_wc J hc).1.1
    unfold c_Chain_changesRate_10
    rw [if_pos (by rw [i32_lt (by omega) (by omega)]; omega)]
    rfl
  | q + 1, 0, _, _, h => absurd h (by omega)
  | q + 1, n + 1, p, hp, hn => by
    have h10 := (jj_wc J hc).1.1
    have hm := places_lt J hc (p := p) (by omega)
    have ih := changes_go J hc (N := N) ht q n (p + 1) (by omega) (by omega)
    unfold c_Chain_changesRate_10
    rw [if_neg (by rw [i32_lt (by omega) (by omega)]; omega), rc_size (jj_c J hc), obd_some, if_neg (by rw [i32_le (by omega) (by omega)]; omega), cob_of (rc_tag (jj_c J hc)), jgd_true, member_of J hc (by omega), if_pos (by omega), obd_some, jon_some, cob_of (rs_tag (jj_s J hm)), jgd_true, changes_of J hm, obd_some]
    unfold c_Chain_changesRate_45
    rw [show i32 p + 1 = i32 (p + 1) from i32_add p 1]
    show _ = some (rtf S c p || anyR (rtf S c) (p + 1) q)
    cases hb : rate (S.1 2 (S.1 18 (10 * c + p))) with
    | true => rw [if_pos rfl, show rtf S c p = true from hb]; rfl
    | false => rw [if_neg (by decide), show rtf S c p = false from hb]; exact ih
theorem changes_all (J : JJ G E B bx m ad S A C T) (hc : c < S.1 16 0) {N f to : Nat} (hN : 100 ≤ N) (hf : f ≤ to) (ht : to < S.1 17 c) : c_Chain_changesRate N (A 1 c) (i32 f) (i32 to) C = some (anyR (rtf S c) f (to + 1 - f)) := by
  have h10 := (jj_wc J hc).1.1
  unfold c_Chain_changesRate
  rw [if_pos (i32_ge0 (by omega))]
  unfold c_Chain_changesRate_9
  exact changes_go J hc ht (to + 1 - f) N f (by omega) (by omega)
theorem countOf_gen (J : JJ G E B bx m ad S A C T) (hc : c < S.1 16 0) {N : Nat} {a b : Int32} {g : Nat → Bool} (hg : ∀ kd, kd < 16 → g_R_in (i32 kd) a b = g kd) : ∀ (q n p : Nat), p + q = S.1 17 c → q < n → h_R_countOf_6 N n (i32 c) a b (i32 (cnt (fun p => g (S.1 2 (S.1 18 (10 * c + p)))) p)) (i32 p) T = some (i32 (cnt (fun p => g (S.1 2 (S.1 18 (10 * c + p)))) (S.1 17 c)))
  | 0, 0, _, _, h => absurd h (by omega)
  | 0, n + 1, p, hp, _ => by
    have : p = S.1 17 c := by omega
    subst this
    have hn := (jj_n J).2.1
    unfold h_R_countOf_6
    rw [jrg_i32 (by omega) (by decide), obd_some, jj_N J 17 (by decide), if_pos (Int32.le_refl _)]
  | q + 1, 0, _, _, h => absurd h (by omega)
  | q + 1, n + 1, p, hp, hn => by
    have h10 := (jj_wc J hc).1.1
    have hm := places_lt J hc (p := p) (by omega)
    have hns := jj_n J
    have ih := countOf_gen J hc (N := N) hg q n (p + 1) (by omega) (by omega)
    unfold h_R_countOf_6
    rw [jrg_i32 (by omega) (by decide), obd_some, jj_N J 17 (by decide), if_neg (by rw [i32_le (by omega) (by omega)]; omega), show (10 : Int32) * i32 c + i32 p = i32 (10 * c + p) from by rw [show (10 : Int32) = i32 10 from rfl, i32_mul, i32_add], jrg_i32 (by omega) (by decide), obd_some, jj_N J 18 (by decide), jrg_i32 (by omega) (by decide), obd_some, jj_N J 2 (by decide), hg _ (jj_ws J hm).1.1]
    unfold h_R_countOf_45
    rw [show i32 p + 1 = i32 (p + 1) from i32_add p 1]
    have e : i32 (cnt (fun p => g (S.1 2 (S.1 18 (10 * c + p)))) (p + 1)) = i32 (cnt (fun p => g (S.1 2 (S.1 18 (10 * c + p)))) p + (if g (S.1 2 (S.1 18 (10 * c + p))) then 1 else 0)) := rfl
    cases hb : g (S.1 2 (S.1 18 (10 * c + p))) with
    | true =>
      rw [if_pos rfl, show i32 (cnt (fun p => g (S.1 2 (S.1 18 (10 * c + p)))) p) + 1 = i32 (cnt (fun p => g (S.1 2 (S.1 18 (10 * c + p)))) (p + 1)) from by
        rw [e, hb]; exact i32_add _ 1]
      exact ih
    | false =>
      rw [if_neg (by decide), show i32 (cnt (fun p => g (S.1 2 (S.1 18 (10 * c + p)))) p) = i32 (cnt (fun p => g (S.1 2 (S.1 18 (10 * c + p)))) (p + 1)) from by
        rw [e, hb]; rfl]
      exact ih
/-- the state with section s around chain d -/
def inS (S : ST) (s d : Nat) : ST := (fun k j => if k = 10 ∧ j = s then d + 1 else if k = 19 ∧ j = d then s + 1 else S.1 k j, S.2)
theorem inS_k {k : Nat} (h : k ∉ [10, 19]) : (inS S s d).1 k = S.1 k := by
  simp only [List.mem_cons, List.not_mem_nil, or_false, not_or] at h
  funext j
  simp only [inS, h, false_and, if_false]
theorem inS_10 {j : Nat} (h : j ≠ s) : (inS S s d).1 10 j = S.1 10 j := by simp [inS, h]
theorem inS_10s : (inS S s d).1 10 s = d + 1 := by simp [inS]
theorem inS_19 {j : Nat} (h : j ≠ d) : (inS S s d).1 19 j = S.1 19 j := by simp [inS, h]
theorem inS_19d : (inS S s d).1 19 d = s + 1 := by simp [inS]
theorem inS_2 : (inS S s d).2 = S.2 := rfl
def inC (C : CT) (a7 a1 : Nat) : CT := csA (csA C 126 a7 0 (some a1)) 25 a1 0 (some a7)
theorem jj_in (J : JJ G E B bx m ad S A C T) (hd : d < S.1 16 0) (hs : s < S.1 1 0) (hk : S.1 2 s = 15) (h10 : S.1 10 s = 0) (h19 : S.1 19 d = 0) (hh : ∃ c, S.1 8 s = c + 1 ∧ d < c) (h0 : S.1 17 d ≠ 0) (hr : ∀ p, p < S.1 17 d → rtf S d p = false) (hsort : cso S d = S.1 3 s) :
    JJ G E B bx m ad (inS S s d) A (inC C (A 7 s) (A 1 d)) (tsI (tsI T 10 s (i32 d)) 19 d (i32 s)) := by
  have hJ := J
  obtain ⟨⟨w1, w2, w3⟩, ⟨hb, hss, hcc, hx⟩, hRT, hWF, hRK, hRD⟩ := J
  have hrd := hcc d hd
  have hsr := hss s hs
  have k1 : (inS S s d).1 1 = S.1 1 := inS_k (by decide)
  have k2 : (inS S s d).1 2 = S.1 2 := inS_k (by decide)
  have k3 : (inS S s d).1 3 = S.1 3 := inS_k (by decide)
  have k16 : (inS S s d).1 16 = S.1 16 := inS_k (by decide)
  have k17 : (inS S s d).1 17 = S.1 17 := inS_k (by decide)
  have k18 : (inS S s d).1 18 = S.1 18 := inS_k (by decide)
  have k20 : (inS S s d).1 20 = S.1 20 := inS_k (by decide)
  have k23 : (inS S s d).1 23 = S.1 23 := inS_k (by decide)
  have k44 : (inS S s d).1 44 = S.1 44 := inS_k (by decide)
  have va : ∀ t i, VA (inS S s d) t i = VA S t i := fun t i => by unfold VA; rw [k1, k16, k20, k44]
  have er : ∀ x, rln (inS S s d) x = rln S x := fun x => by unfold rln; rw [k2]; rfl
  have ev : ∀ x, vso (inS S s d) x = vso S x := fun x => by unfold vso; rw [k2, k3]
  have ec : ∀ x, cso (inS S s d) x = cso S x := fun x => by unfold cso; rw [k18, k3]
  have ne : ∀ {t i t' i'}, VA S t i → VA S t' i' → (t' ≠ t ∨ i' ≠ i) → A t' i' ≠ A t i := fun h1 h2 h3 => ax_t ⟨hb, hss, hcc, hx⟩ h1 h2 h3
  have hag : ∀ a, a ≠ A 7 s → a ≠ A 1 d → Ag C (inC C (A 7 s) (A 1 d)) a := fun a h1 h2 => ag_csA (ag_csA (Ag.refl C a) h1) h2
  have hagA : ∀ t i, VA S t i → ¬ (t = 7 ∧ i = s) → ¬ (t = 1 ∧ i = d) → Ag C (inC C (A 7 s) (A 1 d)) (A t i) := fun t i h h1 h2 =>
    hag _ (ne (show VA S 7 s from hs) h (by omega)) (ne (show VA S 1 d from hd) h (by omega))
  have hbx : Ag C (inC C (A 7 s) (A 1 d)) bx := hag _ (fun q => by have := hb.1.1; rw [q, hsr.1.1] at this; exact absurd this (by decide)) (fun q => by have := hb.1.1; rw [q, hrd.1.1] at this; exact absurd this (by decide))
  have ss : ∀ x, x ≠ s → Ss S (inS S s d) x := fun x e => ⟨fun k hk => by
    simp only [List.mem_cons, List.not_mem_nil, or_false] at hk
    rcases hk with rfl | rfl | rfl | rfl | rfl | rfl | rfl | rfl | rfl <;> first | exact congrFun (inS_k (by decide)) _ | exact inS_10 e, fun _ _ => rfl, rfl, rfl, rfl⟩
  refine ⟨⟨cw_csA (cw_csA w1 (by rw [hsr.1.1]; decide)) (by show C.1 (A 1 d) ≠ 0; rw [hrd.1.1]; decide), w2, fun z hz => ?_⟩, ⟨?_, fun s' h => ?_, fun c' h => ?_, ?_⟩, ?_, ⟨?_, fun s' h => ?_, fun c' h => ?_, fun s' h1 h2 => ?_, fun c' h1 h2 => ?_, hWF.2.2.2.2.2⟩, ?_, ?_⟩
  · rw [(hagA 2 0 rfl (by omega) (by omega)).2.2.2.2.1] at hz
    rw [k1, k16, k44, k20]
    exact w3 z hz
  · have hA : ∀ i, i < 4 → Ag C (inC C (A 7 s) (A 1 d)) (A 3 i) := fun i hi => hagA 3 i hi (by omega) (by omega)
    refine RCb_of hb hbx.1 (fun k _ => congrFun (hbx.2.2.2.2.1 k) 0) ?_ ?_ ?_ (fun _ => rfl) (fun _ => rfl) rfl (fun i hi => hagA 5 i hi (by omega) (by omega)) (fun i hi => ⟨(hA i hi).1, (hA i hi).2.1⟩) rfl (fun x h => ?_) (fun x h => ?_) (fun x h => ?_)
    · rw [k1]; exact hb.2.1.1
    · rw [k16]; exact hb.2.1.2.1
    · rw [k44]; exact hb.2.1.2.2
    · rw [(hA 0 (by decide)).2.2.2.2.1, k1]; exact hb.2.2.2.1.2.2 x h
    · rw [(hA 1 (by decide)).2.2.2.2.1, k16]; exact hb.2.2.2.2.1.2.2 x h
    · rw [(hA 2 (by decide)).2.2.2.2.1, k44]; exact hb.2.2.2.2.2.1.2.2 x h
  · rw [k1] at h
    by_cases e : s' = s
    · subst e
      obtain ⟨⟨f1, f2, f3, f4, f5, f6, f7, f8⟩, ⟨g2, g3, g4, g5, g6, g7, g8, g9⟩, gF, gR⟩ := hsr
      refine ⟨⟨f1, f2, ?_, ?_, f5, ?_, ?_, ?_⟩, ⟨?_, ?_, ⟨by simpa [inC, csA, up3] using g4.1, g4.2.1, by simpa [inC, csA, up3] using g4.2.2.1, g4.2.2.2⟩, g5, g6, ?_, ?_, ?_⟩, ?_, ?_⟩
      · rw [k2]; exact f3
      · rw [k3]; exact f4
      · rw [k3]; simpa [inC, csA, up3] using f6
      · simpa [inC, csA, up3] using f7
      · simpa [inC, csA, up3] using f8
      · rw [inS_k (k := 5) (by decide)]; exact g2
      · rw [inS_k (k := 6) (by decide)]; exact g3
      · rw [inS_k (k := 8) (by decide)]; simpa [inC, csA, up3] using g7
      · rw [inS_k (k := 9) (by decide)]; exact g8
      · rw [inS_10s]; simp [inC, csA, up3, oA]
      · rw [k2]; exact gF
      · rw [inS_k (k := 70) (by decide), er, inS_k (k := 14) (by decide)]
        refine ⟨gR.1, ?_, gR.2.2.1, gR.2.2.2⟩
        simpa [inC, csA, up3] using gR.2.1
    · refine RCs_ag (S := S) (A := A) (C := C) (ss s' e) (fun t ht => ⟨rfl, ?_⟩) rfl rfl rfl (hss s' h)
      simp only [List.mem_cons, List.not_mem_nil, or_false] at ht
      rcases ht with rfl | rfl | rfl | rfl | rfl | rfl <;> exact hagA _ s' h (by omega) (by omega)
  · rw [k16] at h
    have wc := hWF.2.2.1 c' h
    have hl : ∀ i, i < S.1 20 c' → RCl (inS S s d) A (inC C (A 7 s) (A 1 d)) (3 * c' + i) := fun i hi => by
      have hi3 : i < 3 := by have := wc.1.2.1; omega
      have hq : (3 * c' + i) / 3 < S.1 16 0 ∧ (3 * c' + i) % 3 < S.1 20 ((3 * c' + i) / 3) := by
        rw [show (3 * c' + i) / 3 = c' by omega, show (3 * c' + i) % 3 = i by omega]; exact ⟨h, hi⟩
      refine RCl_ag (S := S) (A := A) (C := C) (fun k hk => ?_) rfl rfl (fun t ht => ⟨rfl, ?_⟩) ((hcc c' h).2.2.2.2 i hi)
      · refine congrFun (inS_k (fun q => ?_)) _
        revert q hk; revert k; decide
      · simp only [List.mem_cons, List.not_mem_nil, or_false] at ht
        rcases ht with rfl | rfl | rfl <;> exact hagA _ _ hq (by omega) (by omega)
    by_cases e : c' = d
    · subst e
      obtain ⟨⟨g1, g2, g3, g4, g5, g6, g7, g8, g9, gX, gY⟩, r, u, v, -⟩ := hrd
      have a17 := hagA 17 c' (show c' < S.1 16 0 from hd) (by omega) (by omega)
      have a19 := hagA 19 c' (show c' < S.1 16 0 from hd) (by omega) (by omega)
      refine ⟨⟨g1, g2, ?_, ?_, ?_, ?_, ?_, ?_, ?_, ?_, ?_⟩, ?_, ?_, v, hl⟩
      · simpa [inC, csA, up3] using g3
      · rw [k17]; exact g4
      · simpa [inC, csA, up3] using g5
      · rw [k20]; exact g6
      · simpa [inC, csA, up3] using g7
      · rw [inS_k (k := 28) (by decide)]; exact g8
      · rw [inS_k (k := 28) (by decide)]; exact g9
      · rw [inS_k (k := 28) (by decide)]; exact gX
      · rw [inS_19d]; simp [inC, csA, up3, oA]
      · rw [k17, k18, a17.1, a17.2.1, a17.2.2.2.2.1]; exact r
      · rw [k20, a19.1, a19.2.1, a19.2.2.2.2.1]; exact u
    · refine RCc_ag (S := S) (A := A) (C := C) (fun k hk => ?_) (fun p hp => ⟨congrFun k18 _, rfl⟩) rfl (fun t ht => ⟨rfl, ?_⟩) rfl (fun _ _ => rfl) hl (hcc c' h)
      · simp only [List.mem_cons, List.not_mem_nil, or_false] at hk
        rcases hk with rfl | rfl | rfl | rfl <;> first | exact congrFun (inS_k (by decide)) _ | exact inS_19 e
      · simp only [List.mem_cons, List.not_mem_nil, or_false] at ht
        rcases ht with rfl | rfl | rfl | rfl <;> exact hagA _ c' h (by omega) (by omega)
  · intro t i t' i' h h'
    rw [va] at h h'
    exact hx t i t' i' h h'
  · obtain ⟨a1, a2, a3, a4, a5, a6, a7, a8, a9, b1, b2, b3⟩ := hRT
    refine ⟨fun k hk j => ?_, fun k hk => ?_, fun k hk j => ?_, fun k hk j => ?_, a5, fun j => by rw [k3]; exact a6 j, fun j => by rw [ev]; exact a7 j, fun j => by rw [ec]; exact a8 j, fun j => by rw [ec]; exact a9 j, fun j => by rw [ec]; exact b1 j, fun j => by rw [ev]; exact b2 j, fun j => by rw [ec]; exact b3 j⟩
    · have q1 : k ≠ 10 := fun q => by subst q; revert hk; decide
      have q2 : k ≠ 19 := fun q => by subst q; revert hk; decide
      simp only [tsI, up2, inS, q1, q2, false_and, if_false]; exact a1 k hk j
    · have q1 : k ≠ 10 := fun q => by subst q; revert hk; decide
      have q2 : k ≠ 19 := fun q => by subst q; revert hk; decide
      simp only [tsI, up2, inS, q1, q2, false_and, if_false]; exact a2 k hk
    · by_cases q1 : k = 10 ∧ j = s
      · obtain ⟨rfl, rfl⟩ := q1
        rw [inS_10s, im_succ]; simp [tsI, up2]
      · by_cases q2 : k = 19 ∧ j = d
        · obtain ⟨rfl, rfl⟩ := q2
          rw [inS_19d, im_succ]; simp [tsI, up2]
        · simp only [tsI, up2, inS, q1, q2, if_false]; exact a3 k hk j
    · have q1 : k ≠ 10 := fun q => by subst q; revert hk; decide
      have q2 : k ≠ 19 := fun q => by subst q; revert hk; decide
      simp only [tsI, up2, q1, q2, false_and, if_false]; exact a4 k hk j
  · rw [k1, k16, k44]; exact hWF.1
  · rw [k1] at h
    by_cases e : s' = s
    · subst e
      obtain ⟨g1, g2, g3, g4, g5, g6, g7⟩ := hWF.2.1 s' hs
      unfold WFs
      rw [er, ev, k2, k3, k16, k17, k18, inS_10s, inS_k (k := 5) (by decide), inS_k (k := 6) (by decide), inS_k (k := 8) (by decide), inS_k (k := 9) (by decide), inS_k (k := 14) (by decide), inS_k (k := 70) (by decide)]
      refine ⟨g1, g2, g3, fun q => ?_, g5, fun d' hd' => ?_, g7⟩
      · obtain ⟨c, h1, h2⟩ := hh
        rw [h1] at q; cases q
      · have : d' = d := by omega
        subst this
        obtain ⟨c, h1, h2⟩ := hh
        exact ⟨hk, hd, inS_19d, c, h1, h2, by rw [ec]; exact hsort⟩
    · have w := hWF.2.1 s' h
      refine WFs_ss (S := S) (ss s' e) (by rw [k16]; exact Nat.le_refl _) (fun x hx => ⟨by rw [k17]; exact Nat.le_refl _, fun p _ => by rw [k18]⟩) (fun x _ hx' => inS_19 (fun q => ?_)) (fun x _ _ => ec x) w
      subst q
      have := (w.2.2.2.2.2.1 x hx').2.2.1
      rw [h19] at this; cases this
  · rw [k16] at h
    by_cases e : c' = d
    · subst e
      obtain ⟨g1, g2, g3, g4, g5, g6, g7⟩ := hWF.2.2.1 c' h
      unfold WFc
      rw [k17, k18, k20, k2, k3, ec, inS_19d, inS_k (k := 8) (by decide), inS_k (k := 9) (by decide), inS_k (k := 28) (by decide)]
      refine ⟨g1, fun p hp => by rw [k1]; exact g2 p hp, fun x hx' => ?_, g4, fun i hi => ?_, g6, g7⟩
      · have : x = s := by omega
        subst this
        exact ⟨by rw [k1]; exact hs, inS_10s, h0, hr⟩
      · have := g5 i hi
        unfold WFl at this ⊢
        rw [inS_k (k := 21) (by decide), inS_k (k := 22) (by decide), inS_k (k := 23) (by decide), inS_k (k := 26) (by decide), k17, k18, k2, ec]
        exact this
    · refine WFc_sm (S := S) (fun k hk => ?_) (fun p hp => by rw [k18]) (fun k hk i _ => ?_) (fun _ _ => rfl) (fun p hp k hk => ?_) (fun x hx => inS_10 (fun q => ?_)) (by rw [k1]; exact Nat.le_refl _) (hWF.2.2.1 c' h)
      · simp only [List.mem_cons, List.not_mem_nil, or_false] at hk
        rcases hk with rfl | rfl | rfl | rfl <;> first | exact congrFun (inS_k (by decide)) _ | exact inS_19 e
      · refine congrFun (inS_k (fun q => ?_)) _
        revert q hk; revert k; decide
      · refine congrFun (inS_k (fun q => ?_)) _
        revert q hk; revert k; decide
      · subst q
        have := ((hWF.2.2.1 c' h).2.2.1 x hx).2.1
        rw [h10] at this; cases this
  · rw [k1] at h1
    exact hWF.2.2.2.1 s' h1 h2
  · rw [k16] at h1
    rw [k17, k18]
    exact hWF.2.2.2.2.1 c' h1 h2
  · refine RK_ag (S := S) (A := A) (C := C) ⟨fun k hk => ?_, fun k hk => rfl, by rw [k16]; exact Nat.le_refl _, fun x h => ⟨by rw [k17]; exact Nat.le_refl _, by rw [k20]; exact Nat.le_refl _, fun p hp => ⟨congrFun k18 _, ⟨congrFun (inS_k (k := 2) (by decide)) _, congrFun (inS_k (k := 3) (by decide)) _, rfl⟩, (by
      by_cases e : S.1 18 (10 * x + p) = s
      · exact Or.inl (by rw [e]; exact h10)
      · exact Or.inr (inS_10 e))⟩, fun i _ => congrFun k23 _⟩⟩ (fun t ht k hk => ⟨rfl, ?_⟩) (fun _ _ => rfl) hRK
    · refine inS_k (fun q => ?_)
      revert q hk; revert k; decide
    · simp only [List.mem_cons, List.not_mem_nil, or_false] at ht
      rcases ht with rfl | rfl | rfl <;> exact hagA _ k hk (by omega) (by omega)
  · refine RD_ag (A := A) (C := C) ⟨rfl, hagA 2 0 rfl (by omega) (by omega)⟩ (fun hn i hi => ⟨rfl, ?_⟩) hRD
    have e : i = 1 ∨ i = 2 := by simpa using hi
    exact hagA 0 i (show i < 3 by omega) (by omega) (by omega)
theorem sim_within {N M : Nat} (hN : 100 ≤ N) : ls_7 N M bx (II G E B bx m ad) (II G E B bx m ad) := by
  rintro C T v1 v2 ⟨S, A, J⟩
  have hb := jj_b J
  have hn := jj_n J
  have ho : cob C bx 0 = true := cob_of (rb_tag hb)
  have same : c_B_within N bx v1 v2 C = some (false, C) → h_R_within N v1 v2 T = some (false, T) → ∃ r C1 T1, c_B_within N bx v1 v2 C = some (r, C1) ∧ h_R_within N v1 v2 T = some (r, T1) ∧ II G E B bx m ad C1 T1 := fun a b => ⟨false, C, T, a, b, S, A, J⟩
  rcases sec_or J v1 with ⟨s, hs, rfl, e1, e2⟩ | ⟨e1, e2⟩
  · have hsr := jj_s J hs
    have ws := jj_ws J hs
    have j60 : jrg 60 (i32 s) = some s := jrg_i32 (by omega) (by decide)
    rcases ch_or J v2 with ⟨d, hd, rfl, e3, e4⟩ | ⟨e3, e4⟩
    · have hr := jj_c J hd
      have wd := jj_wc J hd
      have j20 : jrg 20 (i32 d) = some d := jrg_i32 (by omega) (by decide)
      have cB : ∀ x, (obd (cgI C (A 7 s) 7 1) fun x5 => if x5 = (15 : Int32) then x else some (false, C)) = (if S.1 2 s = 15 then x else some (false, C)) := fun x => by
        rw [rs_kind hsr, obd_some]
        by_cases q : S.1 2 s = 15
        · rw [if_pos q, q, if_pos (by rfl)]
        · rw [if_neg q, if_neg (show ¬ i32 (S.1 2 s) = 15 from i32_ne (b := 15) (by have := ws.1.1; omega) (by decide) q)]
      by_cases hk : S.1 2 s = 15
      · have m2 : T.1 2 s = 15 := by rw [jj_N J 2 (by decide), hk]; rfl
        have hle : S.1 8 s ≤ S.1 16 0 := home_le J hs
        have t8 : T.1 8 s = im (S.1 8 s) := jj_M J 8 (by decide) s
        have t10 : T.1 10 s = im (S.1 10 s) := jj_M J 10 (by decide) s
        have t19 : T.1 19 d = im (S.1 19 d) := jj_M J 19 (by decide) d
        by_cases h10 : S.1 10 s = 0
        · have c10 : cgA C (A 7 s) 7 14 = some none := by rw [rs_inner hsr, h10]; rfl
          by_cases h8 : S.1 8 s = 0
          · refine same ?_ ?_
            · unfold c_B_within
              rw [ho, jgd_true, e2, obd_some, jgd_true, e4, obd_some, jon_some, jon_some, cB, if_pos hk, c10, obd_some, jon_none, rs_home hsr, h8, obd_some]
              rfl
            · unfold h_R_within
              rw [e1, obd_some, if_pos rfl, e3, obd_some, if_pos rfl, j60, obd_some, if_pos m2, obd_some, t8, h8, im_zero, if_pos (by rw [Int32.le_iff_toInt_le, i32_toInt (by omega)]; have : (-1 : Int32).toInt = -1 := rfl; omega)]
          · obtain ⟨c, h8'⟩ := Nat.exists_eq_succ_of_ne_zero h8
            have hc := (ws.2.2.2.2.1 c h8').1
            have c8 : cgA C (A 7 s) 7 12 = some (some (A 1 c)) := by rw [rs_home hsr, h8']; rfl
            by_cases hcd : c ≤ d
            · refine same ?_ ?_
              · unfold c_B_within
                rw [ho, jgd_true, e2, obd_some, jgd_true, e4, obd_some, jon_some, jon_some, cB, if_pos hk, c10, obd_some, jon_none, c8, obd_some, jon_some, obd_some, obd_some, rc_number (jj_c J hc), obd_some, rc_number hr, obd_some, if_pos ((i32_le (by omega) (by omega)).mpr hcd)]
              · unfold h_R_within
                rw [e1, obd_some, if_pos rfl, e3, obd_some, if_pos rfl, j60, obd_some, if_pos m2, obd_some, t8, h8', im_succ, if_pos ((i32_le (by omega) (by omega)).mpr hcd)]
            · have ncd : ¬ i32 c ≤ i32 d := fun q => hcd ((i32_le (by omega) (by omega)).mp q)
              have cpre : ∀ r C1, (obd (cgA C (A 1 d) 1 9) fun x14 => jon x14 (obd (cgI C (A 1 d) 1 2) fun x16 => if x16 = 0 then some (false, C) else jgd (cob C (A 1 d) 1) <| obd (c_Chain_sort (A 1 d) C) fun x17 => obd (cgI C (A 7 s) 7 2) fun x18 => if x17 = x18 then (obd (cgI C (A 1 d) 1 2) fun x19 => jgd (cob C (A 1 d) 1) <| obd (c_Chain_changesRate N (A 1 d) (0 : Int32) (x19 - (1 : Int32)) C) fun x20 => if x20 = true then some (false, C) else obd (cpA C (A 7 s) 7 14 (some (A 1 d))) fun C21 => obd (cpA C21 (A 1 d) 1 9 (some (A 7 s))) fun C22 => some (true, C22)) else some (false, C)) fun _ => some (false, C)) = some (r, C1) → c_B_within N bx (i32 s) (i32 d) C = some (r, C1) := fun r C1 q => by
                unfold c_B_within
                rw [ho, jgd_true, e2, obd_some, jgd_true, e4, obd_some, jon_some, jon_some, cB, if_pos hk, c10, obd_some, jon_none, c8, obd_some, jon_some, obd_some, obd_some, rc_number (jj_c J hc), obd_some, rc_number hr, obd_some, if_neg ncd]
                exact q
              have hpre : h_R_within N (i32 s) (i32 d) T = (if T.1 19 d = (-1 : Int32) then (if T.1 17 d = 0 then some (false, T) else obd (h_R_sortOf (i32 d) T) fun x8 => if x8 = T.1 3 s then (obd (h_R_countOf N (i32 d) 12 14 T) fun x10 => if x10 ≤ 0 then some (true, tsI (tsI T 10 s (i32 d)) 19 d (i32 s)) else some (false, T)) else some (false, T)) else some (false, T)) := by
                unfold h_R_within
                rw [e1, obd_some, if_pos rfl, e3, obd_some, if_pos rfl, j60, obd_some, if_pos m2, obd_some, t8, h8', im_succ, if_neg ncd, obd_some, t10, h10, if_pos im_zero]
                simp only [j20, obd_some, jlet]
              by_cases h19 : S.1 19 d = 0
              · have c19 : cgA C (A 1 d) 1 9 = some none := by rw [rc_holder hr, h19]; rfl
                have m19 : T.1 19 d = -1 := by rw [t19, h19]; exact im_zero
                rw [if_pos m19, jj_N J 17 (by decide)] at hpre
                have h10' := wd.1.1
                by_cases h0 : S.1 17 d = 0
                · refine same (cpre _ _ ?_) ?_
                  · rw [c19, obd_some, jon_none, rc_size hr, obd_some, h0, if_pos (by rfl)]
                  · rw [hpre, h0, if_pos (by rfl)]
                · have n0 : ¬ i32 (S.1 17 d) = 0 := i32_ne (b := 0) (by omega) (by decide) h0
                  obtain ⟨so1, so2⟩ := sort_of J hd
                  rw [if_neg h0] at so1 so2
                  have hcs : cso S d < 3 := by
                    have := places_lt J hd (p := 0) (by omega)
                    exact (jj_ws J this).1.2.1
                  have h3 := ws.1.2.1
                  rw [if_neg n0, so2, obd_some, jj_N J 3 (by decide)] at hpre
                  by_cases hso : cso S d = S.1 3 s
                  · have hany := changes_all J hd hN (f := 0) (to := S.1 17 d - 1) (Nat.zero_le _) (by omega)
                    rw [show S.1 17 d - 1 + 1 - 0 = S.1 17 d by omega] at hany
                    have hcnt : h_R_countOf N (i32 d) 12 14 T = some (i32 (cnt (rtf S d) (S.1 17 d))) := countOf_gen J hd (N := N) rate_in (S.1 17 d) N 0 (by omega) (by omega)
                    have hcl := cnt_le (f := rtf S d) (S.1 17 d)
                    rw [if_pos (by rw [hso]), hcnt, obd_some] at hpre
                    cases hb' : anyR (rtf S d) 0 (S.1 17 d) with
                    | true =>
                      refine same (cpre _ _ ?_) ?_
                      · rw [c19, obd_some, jon_none, rc_size hr, obd_some, if_neg n0, cob_of (rc_tag hr), jgd_true, so1, obd_some, rs_sort hsr, obd_some, if_pos (by rw [hso]), obd_some, jgd_true, show i32 (S.1 17 d) - 1 = i32 (S.1 17 d - 1) from i32_sub (b := 1) (by omega), show (0 : Int32) = i32 0 from rfl, hany, obd_some, hb', if_pos rfl]
                      · rw [hpre, if_neg]
                        rw [show (0 : Int32) = i32 0 from rfl, i32_le (by omega) (by decide)]
                        intro q
                        have := (anyR_iff (f := rtf S d) (q := S.1 17 d) (p := 0)).mpr (fun x _ hx => cnt_zero.mp (Nat.le_zero.mp q) x (by omega))
                        rw [hb'] at this; cases this
                    | false =>
                      have hall := anyR_iff.mp hb'
                      refine ⟨true, _, _, cpre _ _ ?_, ?_, _, _, jj_in J hd hs hk h10 h19 ⟨c, h8', by omega⟩ h0 (fun p hp => hall p (Nat.zero_le _) (by omega)) hso⟩
                      · rw [c19, obd_some, jon_none, rc_size hr, obd_some, if_neg n0, cob_of (rc_tag hr), jgd_true, so1, obd_some, rs_sort hsr, obd_some, if_pos (by rw [hso]), obd_some, jgd_true, show i32 (S.1 17 d) - 1 = i32 (S.1 17 d - 1) from i32_sub (b := 1) (by omega), show (0 : Int32) = i32 0 from rfl, hany, obd_some, hb', if_neg (by decide), cpA_of (ci := 7) (rs_tag hsr) (by decide) (by decide), obd_some, cpA_of (ci := 1) (show (csA C (16 * 7 + 14) (A 7 s) 0 (some (A 1 d))).1 (A 1 d) = 1 + 1 from (show C.1 (A 1 d) = 1 + 1 from rc_tag hr)) (by decide) (by decide), obd_some]
                        rfl
                      · rw [hpre, if_pos]
                        rw [cnt_zero.mpr (fun x hx => hall x (Nat.zero_le _) (by omega))]
                        decide
                  · refine same (cpre _ _ ?_) ?_
                    · rw [c19, obd_some, jon_none, rc_size hr, obd_some, if_neg n0, cob_of (rc_tag hr), jgd_true, so1, obd_some, rs_sort hsr, obd_some, if_neg (i32_ne (by omega) (by omega) hso)]
                    · rw [hpre, if_neg (i32_ne (by omega) (by omega) hso)]
              · obtain ⟨x, hx⟩ := Nat.exists_eq_succ_of_ne_zero h19
                refine same (cpre _ _ ?_) ?_
                · rw [rc_holder hr, hx, obd_some]; rfl
                · rw [hpre, t19, if_neg (fun q => h19 ((im_neg (by have := (wd.2.2.1 x hx).1; omega)).mp q))]
        · obtain ⟨x, hx⟩ := Nat.exists_eq_succ_of_ne_zero h10
          have hxd := (ws.2.2.2.2.2.1 x hx).2.1
          refine same ?_ ?_
          · unfold c_B_within
            rw [ho, jgd_true, e2, obd_some, jgd_true, e4, obd_some, jon_some, jon_some, cB, if_pos hk, rs_inner hsr, hx, obd_some]
            rfl
          · unfold h_R_within
            rw [e1, obd_some, if_pos rfl, e3, obd_some, if_pos rfl, j60, obd_some, if_pos m2, obd_some]
            by_cases q : T.1 8 s ≤ i32 d
            · rw [if_pos q]
            · rw [if_neg q, obd_some, t10, if_neg (fun q => h10 ((im_neg (by omega)).mp q))]
      · refine same ?_ ?_
        · unfold c_B_within
          rw [ho, jgd_true, e2, obd_some, jgd_true, e4, obd_some, jon_some, jon_some, cB, if_neg hk]
        · unfold h_R_within
          rw [e1, obd_some, if_pos rfl, e3, obd_some, if_pos rfl, j60, obd_some, jj_N J 2 (by decide), if_neg (show ¬ i32 (S.1 2 s) = 15 from i32_ne (b := 15) (by have := ws.1.1; omega) (by decide) hk)]
    · refine same ?_ ?_
      · unfold c_B_within
        rw [ho, jgd_true, e2, obd_some, jgd_true, e4, obd_some, jon_some, jon_none]
      · unfold h_R_within
        rw [e1, obd_some, if_pos rfl, e3, obd_some, if_neg (by decide)]
  · have hx : ∃ o, c_B_chainAt bx v2 C = some o := by
      rcases ch_or J v2 with ⟨s, hs, rfl, e3, e4⟩ | ⟨e3, e4⟩
      · exact ⟨_, e4⟩
      · exact ⟨_, e4⟩
    obtain ⟨o, hx⟩ := hx
    refine same ?_ ?_
    · unfold c_B_within
      rw [ho, jgd_true, e2, obd_some, jgd_true, hx, obd_some, jon_none]
    · unfold h_R_within
      rw [e1, obd_some, if_neg (by decide)]
end WITHIN
