/-! a simple chain of FIXED with two loops to its first place, told out -/
abbrev LY : Type := (Nat → Int64) × Nat
def vL (S : ST) (l : Nat) : LY := (fun j => if j < 64 then S.2.1 25 (64 * l + j) else 0, S.1 26 l)
def pul (q : LY) (n : Nat) (v : Int64) : LY := (fun j => if j = q.2 then v else q.1 j, (q.2 + 1) % n)
/-- what a chain is: how many sections; their kinds, roundings, limits, lengths; two coefficients each; the loops' coefficients and lengths -/
abbrev PA : Type := (Nat × (Nat → Nat) × (Nat → Nat) × (Nat → Nat) × (Nat → Nat)) × ((Nat → Int64) × (Nat → Int64)) × (Int64 × Int64 × Nat × Nat)
/-- what it holds: its sections, its loops -/
abbrev CY : Type := (Nat → AS) × LY × LY
def PC (S : ST) (c : Nat) (P : PA) : Prop :=
  (c < S.1 16 0 ∧ S.1 17 c = P.1.1 ∧ 0 < P.1.1 ∧ S.1 20 c = 2 ∧ S.1 19 c = 0) ∧
  (∀ k, k < P.1.1 → S.1 3 (S.1 18 (10 * c + k)) = 2 ∧ S.1 2 (S.1 18 (10 * c + k)) = P.1.2.1 k ∧ akd (P.1.2.1 k) ∧ S.1 5 (S.1 18 (10 * c + k)) = P.1.2.2.1 k ∧ S.1 6 (S.1 18 (10 * c + k)) = P.1.2.2.2.1 k ∧ rln S (S.1 18 (10 * c + k)) = P.1.2.2.2.2 k ∧
    S.2.1 7 (5 * S.1 18 (10 * c + k) + 0) = P.2.1.1 k ∧ S.2.1 7 (5 * S.1 18 (10 * c + k) + 1) = P.2.1.2 k ∧ S.1 10 (S.1 18 (10 * c + k)) = 0) ∧
  (S.1 22 (3 * c + 0) = 0 ∧ S.1 21 (3 * c + 0) + 1 = P.1.1 ∧ S.1 23 (3 * c + 0) = P.2.2.2.2.1 ∧ S.2.1 24 (3 * c + 0) = P.2.2.1) ∧
  (S.1 22 (3 * c + 1) = 0 ∧ S.1 21 (3 * c + 1) = 0 ∧ S.1 23 (3 * c + 1) = P.2.2.2.2.2 ∧ S.2.1 24 (3 * c + 1) = P.2.2.2.1)
def VX (S : ST) (c n : Nat) (X : CY) : Prop := (∀ k, k < n → vS S (S.1 18 (10 * c + k)) = X.1 k) ∧ vL S (3 * c + 0) = X.2.1 ∧ vL S (3 * c + 1) = X.2.2
/-- the account: the loops at the first place; a section; what goes into loops; all sections -/
def aL (P : PA) (X : CY) (v : Int64) : Int64 × AS :=
  acut (P.1.2.2.1 0) (P.1.2.2.2.1 0) (acut (P.1.2.2.1 0) (P.1.2.2.2.1 0) (X.1 0) (v * 16384 + P.2.2.1 * X.2.1.1 X.2.1.2)).2 ((acut (P.1.2.2.1 0) (P.1.2.2.2.1 0) (X.1 0) (v * 16384 + P.2.2.1 * X.2.1.1 X.2.1.2)).1 * 16384 + P.2.2.2.1 * X.2.2.1 X.2.2.2)
def aIn (P : PA) (X : CY) (k : Nat) (v : Int64) : Int64 × AS := if k = 0 then aL P X v else (v, X.1 k)
def aT (P : PA) (X : CY) (k : Nat) (v : Int64) : Int64 × AS := aS (P.1.2.1 k) (P.1.2.2.1 k) (P.1.2.2.2.1 k) (P.1.2.2.2.2 k) (P.2.1.1 k) (P.2.1.2 k) (aIn P X k v).2 (aIn P X k v).1
def aX (P : PA) (X : CY) (k : Nat) (v : Int64) : CY := (fun j => if j = k then (aT P X k v).2 else X.1 j, if k + 1 = P.1.1 then pul X.2.1 P.2.2.2.2.1 (aT P X k v).1 else X.2.1, if k = 0 then pul X.2.2 P.2.2.2.2.2 (aT P X k v).1 else X.2.2)
def aC (P : PA) : Nat → Nat → CY → Int64 → Int64 × CY
  | 0, _, X, v => (v, X)
  | q + 1, k, X, v => aC P q (k + 1) (aX P X k v) (aT P X k v).1
section CHAINF
variable {G : GT} {E B bx m c p s i : Nat} {ad : Nat → Nat} {S S' : ST} {A : AT} {C C' : CT} {x y : Int64} {P : PA} {X : CY}
theorem pc_dy (h : PC S c P) (d : Dy S S') : PC S' c P := by
  unfold PC at h ⊢
  rw [dy_rln d, d.1 16 (by decide), d.1 17 (by decide), d.1 20 (by decide), d.1 19 (by decide), d.1 18 (by decide), d.1 3 (by decide), d.1 2 (by decide), d.1 5 (by decide), d.1 6 (by decide), d.1 10 (by decide), d.1 22 (by decide), d.1 21 (by decide), d.1 23 (by decide), d.2.1 7 (by decide), d.2.1 24 (by decide)]
  exact h
/-- members are apart -/
theorem mem_ne (J : JF G E B bx m ad S A C) (hc : c < S.1 16 0) {k k' : Nat} (h : k < S.1 17 c) (h' : k' < S.1 17 c) (hn : k ≠ k') : S.1 18 (10 * c + k) ≠ S.1 18 (10 * c + k') := fun q => by
  have h1 := ((jj_wc J hc).2.1 k h).2.2.1
  have h2 := ((jj_wc J hc).2.1 k' h').2.2.1
  rw [q] at h1
  omega
theorem lpd_step {N n : Nat} (J : JF G E B bx m ad S A C) (hc : c < S.1 16 0) (hp : p < S.1 17 c) (hs : s = S.1 18 (10 * c + p)) (hso : S.1 3 s = 2) (hi : i < S.1 20 c) :
    c_Chain_looped_6 N (n + 1) (A 1 c) (i32 p) (some (A 7 s)) x (i32 i) C = if S.1 22 (3 * c + i) = p then (
        cbd2 (c_Section_settled (A 7 s) (x * 16384 + S.2.1 24 (3 * c + i) * (vL S (3 * c + i)).1 (vL S (3 * c + i)).2) C) fun x19 C20 => c_Chain_looped_6 N n (A 1 c) (i32 p) (some (A 7 s)) x19 (i32 (i + 1)) C20)
      else c_Chain_looped_6 N n (A 1 c) (i32 p) (some (A 7 s)) x (i32 (i + 1)) C := by
  obtain ⟨hr, hw, h26, h71, h64, c20, i3⟩ := lop_r J hc hi
  obtain ⟨hs1, -, h10, -⟩ := mem_r J hc hp
  rw [← hs] at hs1
  have hb := jj_b J
  have hcr := jj_c J hc
  have hsr := jj_s J hs1
  have h20 : S.1 20 c ≤ 3 := (jj_wc J hc).1.2.1
  have e1 : (vL S (3 * c + i)).1 (vL S (3 * c + i)).2 = S.2.1 25 (64 * (3 * c + i) + S.1 26 (3 * c + i)) := if_pos (show S.1 26 (3 * c + i) < 64 by omega)
  have pr := nums_product (so := 2) hb (by decide) (c := S.2.1 24 (3 * c + i)) (v := S.2.1 25 (64 * (3 * c + i) + S.1 26 (3 * c + i))) (fun h => absurd h (by decide)) (fun h => absurd h (by decide))
  rw [prF] at pr
  obtain ⟨-, -, pl, tt, tn, -, ts, -, -⟩ := fx_run J hs1 hso
  have lp := loopAt_of J hc (show i < 2 ^ 31 by omega)
  rw [if_pos hi] at lp
  have hiff : (i32 (S.1 22 (3 * c + i)) = i32 p) ↔ (S.1 22 (3 * c + i) = p) := i32_inj (by have := hw.1; have := hw.2.1; omega) (by omega)
  show obd (cgI C (A 1 c) 1 4) _ = _
  rw [rc_loopCount hcr, obd_some, if_neg (by rw [i32_le (by omega) (by omega)]; omega)]
  simp only [cob_of (ci := 1) (rc_tag hcr), jgd_true, lp, obd_some, jon, rl_from hr, tn, rl_factor hr, rl_past hr, cob_of (ci := 6) hr.2.1, lop_at J hc hi, pr, tt, pl, ts, c_Chain_looped_84, show i32 i + 1 = i32 (i + 1) from i32_add i 1, hiff, e1]
theorem lpd_end {N n : Nat} {w : Option Nat} (J : JF G E B bx m ad S A C) (hc : c < S.1 16 0) (hi : i = S.1 20 c) : c_Chain_looped_6 N (n + 1) (A 1 c) (i32 p) w x (i32 i) C = some (x, C) := by
  have h20 : S.1 20 c ≤ 3 := (jj_wc J hc).1.2.1
  show obd (cgI C (A 1 c) 1 4) _ = _
  rw [rc_loopCount (jj_c J hc), obd_some, if_pos (by rw [i32_le (by omega) (by omega)]; omega)]
theorem sl_vL {l : Nat} (h : Sl s S S') : vL S' l = vL S l := by
  unfold vL
  rw [h.1, sl_J h (by decide)]
theorem in_fix {N k : Nat} (hN : 100 ≤ N) (J : JF G E B bx m ad S A C) (hP : PC S c P) (hX : VX S c P.1.1 X) (hk : k < P.1.1) (hv : vb 2 x) :
    ∃ S' C', c_Chain_looped N (A 1 c) (i32 k) (some (A 7 (S.1 18 (10 * c + k)))) x C = some ((aIn P X k x).1, C') ∧ JF G E B bx m ad S' A C' ∧ vS S' (S.1 18 (10 * c + k)) = (aIn P X k x).2 ∧ Sl (S.1 18 (10 * c + k)) S S' ∧ vb 2 (aIn P X k x).1 := by
  obtain ⟨⟨hc, h17, h0, h20, h19⟩, hm, hl0, hl1⟩ := hP
  obtain ⟨so, -, -, r5, r6, -, -, -, -⟩ := hm k hk
  obtain ⟨n, rfl⟩ : ∃ n, N = n + 3 := ⟨N - 3, by omega⟩
  have hp : k < S.1 17 c := by rw [h17]; exact hk
  have hs1 := (mem_r J hc hp).1
  have a0 := lpd_step (N := n + 3) (n := n + 2) (x := x) (i := 0) J hc hp rfl so (by omega)
  unfold c_Chain_looped
  rw [show (0 : Int32) = i32 0 from rfl, a0, hl0.1]
  by_cases h : k = 0
  · subst h
    rw [if_pos rfl]
    obtain ⟨S1, C1, u1, u2, u3, u4, u5⟩ := settled_fix J hs1 so (x * 16384 + S.2.1 24 (3 * c + 0) * (vL S (3 * c + 0)).1 (vL S (3 * c + 0)).2)
    have p1 : S1.1 = S.1 := u4.1
    have j24 : S1.2.1 24 = S.2.1 24 := sl_J u4 (by decide)
    have a1 := lpd_step (N := n + 3) (n := n + 1) (x := (acut (S.1 5 (S.1 18 (10 * c + 0))) (S.1 6 (S.1 18 (10 * c + 0))) (vS S (S.1 18 (10 * c + 0))) (x * 16384 + S.2.1 24 (3 * c + 0) * (vL S (3 * c + 0)).1 (vL S (3 * c + 0)).2)).1) (i := 1) (p := 0) (s := S.1 18 (10 * c + 0)) u2 (by rw [p1]; exact hc) (by rw [p1]; exact hp) (by rw [p1]) (by rw [p1]; exact so) (by rw [p1]; omega)
    rw [p1, if_pos hl1.1, j24, sl_vL u4] at a1
    rw [u1, cbd2_some, a1]
    obtain ⟨S2, C2, v1, v2, v3, v4, v5⟩ := settled_fix (x := (acut (S.1 5 (S.1 18 (10 * c + 0))) (S.1 6 (S.1 18 (10 * c + 0))) (vS S (S.1 18 (10 * c + 0))) (x * 16384 + S.2.1 24 (3 * c + 0) * (vL S (3 * c + 0)).1 (vL S (3 * c + 0)).2)).1 * 16384 + S.2.1 24 (3 * c + 1) * (vL S (3 * c + 1)).1 (vL S (3 * c + 1)).2) u2 (by rw [p1]; exact hs1) (by rw [p1]; exact so)
    rw [p1, u3] at v1 v3 v5
    have p2 : S2.1 = S.1 := v4.1.trans p1
    have e : aIn P X 0 x = acut (S.1 5 (S.1 18 (10 * c + 0))) (S.1 6 (S.1 18 (10 * c + 0))) (acut (S.1 5 (S.1 18 (10 * c + 0))) (S.1 6 (S.1 18 (10 * c + 0))) (vS S (S.1 18 (10 * c + 0))) (x * 16384 + S.2.1 24 (3 * c + 0) * (vL S (3 * c + 0)).1 (vL S (3 * c + 0)).2)).2 ((acut (S.1 5 (S.1 18 (10 * c + 0))) (S.1 6 (S.1 18 (10 * c + 0))) (vS S (S.1 18 (10 * c + 0))) (x * 16384 + S.2.1 24 (3 * c + 0) * (vL S (3 * c + 0)).1 (vL S (3 * c + 0)).2)).1 * 16384 + S.2.1 24 (3 * c + 1) * (vL S (3 * c + 1)).1 (vL S (3 * c + 1)).2) := by
      unfold aIn aL
      rw [if_pos rfl, r5, r6, hl0.2.2.2, hl1.2.2.2, hX.1 0 hk, hX.2.1, hX.2.2]
    rw [e]
    refine ⟨S2, C2, ?_, v2, v3, u4.trans v4, v5⟩
    rw [v1, cbd2_some]
    exact lpd_end v2 (by rw [p2]; exact hc) (by rw [p2]; omega)
  · have a1 := lpd_step (N := n + 3) (n := n + 1) (x := x) (i := 1) J hc hp rfl so (by omega)
    rw [hl1.1, if_neg (fun q => h q.symm)] at a1
    rw [if_neg (fun q => h q.symm)]
    have e : aIn P X k x = (x, X.1 k) := if_neg h
    rw [e]
    refine ⟨S, C, ?_, J, hX.1 k hk, Sl.refl _ S, hv⟩
    exact a1.trans (lpd_end J hc (by omega))
theorem note_step {N n : Nat} (J : JF G E B bx m ad S A C) (hc : c < S.1 16 0) (hp : p < 2 ^ 30) (hi : i < S.1 20 c) :
    c_Chain_note_3 N (n + 1) (A 1 c) (i32 p) y (i32 i) C = if S.1 21 (3 * c + i) = p then (obd (c_Row_push (A 67 (3 * c + i)) y C) fun C7 => c_Chain_note_3 N n (A 1 c) (i32 p) y (i32 (i + 1)) C7) else c_Chain_note_3 N n (A 1 c) (i32 p) y (i32 (i + 1)) C := by
  obtain ⟨hr, hw, h26, h71, h64, c20, i3⟩ := lop_r J hc hi
  have hcr := jj_c J hc
  have h20 : S.1 20 c ≤ 3 := (jj_wc J hc).1.2.1
  have h10 : S.1 17 c ≤ 10 := (jj_wc J hc).1.1
  have lp := loopAt_of J hc (show i < 2 ^ 31 by omega)
  rw [if_pos hi] at lp
  have hiff : (i32 (S.1 21 (3 * c + i)) = i32 p) ↔ (S.1 21 (3 * c + i) = p) := i32_inj (by have := hw.2.1; omega) (by omega)
  show obd (cgI C (A 1 c) 1 4) _ = _
  rw [rc_loopCount hcr, obd_some, if_neg (by rw [i32_le (by omega) (by omega)]; omega)]
  simp only [cob_of (ci := 1) (rc_tag hcr), jgd_true, lp, obd_some, jon, rl_to hr, rl_past hr, cob_of (ci := 6) hr.2.1, c_Chain_note_43, show i32 i + 1 = i32 (i + 1) from i32_add i 1, hiff]
theorem note_end {N n : Nat} (J : JF G E B bx m ad S A C) (hc : c < S.1 16 0) (hi : i = S.1 20 c) : c_Chain_note_3 N (n + 1) (A 1 c) (i32 p) y (i32 i) C = some C := by
  have h20 : S.1 20 c ≤ 3 := (jj_wc J hc).1.2.1
  show obd (cgI C (A 1 c) 1 4) _ = _
  rw [rc_loopCount (jj_c J hc), obd_some, if_pos (by rw [i32_le (by omega) (by omega)]; omega)]
/-- a push into a loop, told out -/
theorem lpush_fix (J : JF G E B bx m ad S A C) (hc : c < S.1 16 0) (hi : i < S.1 20 c) (hso : cso S c = 2) (hv : vb 2 y) : ∃ S' C', c_Row_push (A 67 (3 * c + i)) y C = some C' ∧ JF G E B bx m ad S' A C' ∧ Dyl S S' (3 * c + i) ∧ vL S' (3 * c + i) = pul (vL S (3 * c + i)) (S.1 23 (3 * c + i)) y := by
  obtain ⟨hr, hw, h26, h71, h64, c20, i3⟩ := lop_r J hc hi
  obtain ⟨u1, u2, u3⟩ := jj_lpush (v := y) J hc hi rfl (by rw [hso]; exact hv)
  refine ⟨_, _, u1, jf_of u3, u2, ?_⟩
  unfold vL pul
  dsimp only
  refine Prod.ext (funext fun j => ?_) (up2_same _ _ _ _)
  show (if j < 64 then up2 S.2.1 25 (64 * (3 * c + i) + S.1 26 (3 * c + i)) y 25 (64 * (3 * c + i) + j) else 0) = (if j = S.1 26 (3 * c + i) then y else if j < 64 then S.2.1 25 (64 * (3 * c + i) + j) else 0)
  by_cases h : j = S.1 26 (3 * c + i)
  · subst h; rw [if_pos (by omega), if_pos rfl, up2_same]
  · rw [if_neg h, up2_j _ _ _ (by omega)]
theorem dyl_vS {l : Nat} (h : Dyl S S' l) (s : Nat) : vS S' s = vS S s := by
  obtain ⟨h1, h2, h3⟩ := h
  unfold vS
  rw [h3, h1 14 s (fun q => by omega), h2 15 s (fun q => by omega)]
  refine Prod.ext (funext fun j => ?_) rfl
  show (if j < 64 then S'.2.1 13 (64 * s + j) else 0) = _
  rw [h2 13 _ (fun q => by omega)]
theorem dyl_vL {l l' : Nat} (h : Dyl S S' l) (hn : l' ≠ l) : vL S' l' = vL S l' := by
  obtain ⟨h1, h2, h3⟩ := h
  unfold vL
  rw [h1 26 l' (fun q => hn q.2)]
  refine Prod.ext (funext fun j => ?_) rfl
  by_cases hj : j < 64
  · show (if j < 64 then S'.2.1 25 (64 * l' + j) else 0) = (if j < 64 then S.2.1 25 (64 * l' + j) else 0)
    rw [if_pos hj, if_pos hj, h2 25 _ (fun q => by omega)]
  · show (if j < 64 then S'.2.1 25 (64 * l' + j) else 0) = (if j < 64 then S.2.1 25 (64 * l' + j) else 0)
    rw [if_neg hj, if_neg hj]
theorem note_fix {N k : Nat} (hN : 100 ≤ N) (J : JF G E B bx m ad S A C) (hP : PC S c P) (hk : k < P.1.1) (hv : vb 2 y) :
    ∃ S' C', c_Chain_note N (A 1 c) (i32 k) y C = some C' ∧ JF G E B bx m ad S' A C' ∧ Dy S S' ∧ (∀ s, vS S' s = vS S s) ∧ vL S' (3 * c + 0) = (if k + 1 = P.1.1 then pul (vL S (3 * c + 0)) P.2.2.2.2.1 y else vL S (3 * c + 0)) ∧ vL S' (3 * c + 1) = (if k = 0 then pul (vL S (3 * c + 1)) P.2.2.2.2.2 y else vL S (3 * c + 1)) ∧ S'.1 28 = S.1 28 := by
  obtain ⟨⟨hc, h17, h0, h20, h19⟩, hm, hl0, hl1⟩ := id hP
  have h10 := (jj_wc J hc).1.1
  obtain ⟨so, -⟩ := hm 0 h0
  have hso : cso S c = 2 := so
  obtain ⟨n, rfl⟩ : ∃ n, N = n + 3 := ⟨N - 3, by omega⟩
  have a0 := note_step (N := n + 3) (n := n + 2) (y := y) (i := 0) (p := k) J hc (by omega) (by omega)
  unfold c_Chain_note
  rw [show (0 : Int32) = i32 0 from rfl, a0]
  have second : ∀ (S1 : ST) (C1 : CT), JF G E B bx m ad S1 A C1 → Dy S S1 → ∃ S' C', c_Chain_note_3 (n + 3) (n + 2) (A 1 c) (i32 k) y (i32 1) C1 = some C' ∧ JF G E B bx m ad S' A C' ∧ Dy S1 S' ∧ (∀ s, vS S' s = vS S1 s) ∧ vL S' (3 * c + 0) = vL S1 (3 * c + 0) ∧ vL S' (3 * c + 1) = (if k = 0 then pul (vL S1 (3 * c + 1)) P.2.2.2.2.2 y else vL S1 (3 * c + 1)) ∧ S'.1 28 = S1.1 28 := by
    intro S1 C1 J1 d
    obtain ⟨⟨hc1, -, -, h201, -⟩, hm1, -, hl11⟩ := pc_dy hP d
    have hso1 : cso S1 c = 2 := (hm1 0 h0).1
    have a1 := note_step (N := n + 3) (n := n + 1) (y := y) (i := 1) (p := k) J1 hc1 (by omega) (by omega)
    rw [a1, hl11.2.1]
    by_cases h : k = 0
    · subst h
      rw [if_pos rfl, if_pos rfl]
      obtain ⟨S2, C2, u1, u2, u3, u4⟩ := lpush_fix J1 hc1 (i := 1) (by omega) hso1 hv
      rw [u1, obd_some]
      rw [hl11.2.2.1] at u4
      refine ⟨S2, C2, note_end u2 (by rw [u3.dy.1 16 (by decide)]; exact hc1) (by rw [u3.dy.1 20 (by decide)]; omega), u2, u3.dy, dyl_vS u3, dyl_vL u3 (by omega), u4, funext fun j => u3.1 28 j (fun q => by omega)⟩
    · rw [if_neg (fun q => h q.symm), if_neg h]
      exact ⟨S1, C1, note_end J1 hc1 (by omega), J1, Dy.refl _, fun _ => rfl, rfl, rfl, rfl⟩
  by_cases h : S.1 21 (3 * c + 0) = k
  · rw [if_pos h]
    obtain ⟨S1, C1, u1, u2, u3, u4⟩ := lpush_fix J hc (i := 0) (by omega) hso hv
    rw [u1, obd_some]
    rw [hl0.2.2.1] at u4
    obtain ⟨S2, C2, v1, v2, v3, v4, v5, v6, v7⟩ := second S1 C1 u2 u3.dy
    refine ⟨S2, C2, v1, v2, u3.dy.trans v3, fun s => (v4 s).trans (dyl_vS u3 s), ?_, ?_, v7.trans (funext fun j => u3.1 28 j (fun q => by omega))⟩
    · rw [if_pos (by omega), v5, u4]
    · rw [v6, dyl_vL u3 (by omega)]
  · rw [if_neg h]
    obtain ⟨S2, C2, v1, v2, v3, v4, v5, v6, v7⟩ := second S C J (Dy.refl S)
    refine ⟨S2, C2, v1, v2, v3, v4, ?_, v6, v7⟩
    rw [if_neg (by omega), v5]
theorem dys_vS {t : Nat} (h : Dys S S' s) (hn : t ≠ s) : vS S' t = vS S t := by
  obtain ⟨h1, h2, h3⟩ := h
  unfold vS
  rw [h1 14 t (fun q => hn q.2), h2 15 t (fun q => hn q.2) (fun q => absurd q.1 (by decide)), h3 11 t (fun q => hn q.2), h3 12 t (fun q => hn q.2)]
  refine Prod.ext (funext fun j => ?_) rfl
  by_cases hj : j < 64
  · show (if j < 64 then S'.2.1 13 (64 * t + j) else 0) = (if j < 64 then S.2.1 13 (64 * t + j) else 0)
    rw [if_pos hj, if_pos hj, h2 13 _ (fun q => absurd q.1 (by decide)) (fun q => by omega)]
  · show (if j < 64 then S'.2.1 13 (64 * t + j) else 0) = (if j < 64 then S.2.1 13 (64 * t + j) else 0)
    rw [if_neg hj, if_neg hj]
theorem dys_vL {l : Nat} (h : Dys S S' s) : vL S' l = vL S l := by
  obtain ⟨h1, h2, h3⟩ := h
  unfold vL
  rw [h1 26 l (fun q => by omega)]
  refine Prod.ext (funext fun j => ?_) rfl
  show (if j < 64 then S'.2.1 25 (64 * l + j) else 0) = _
  rw [h2 25 _ (fun q => absurd q.1 (by decide)) (fun q => absurd q.1 (by decide))]
theorem aIn_vS {k : Nat} : ∀ j, j ≠ k → (aX P X k x).1 j = X.1 j := fun j h => if_neg h
/-- one section's turn -/
theorem turn_fix {N nn k : Nat} {kS : Option Nat → Int32 → Int64 → Int32 → CT → Option (Int32 × CT)} {dep : Int32} (hN : 100 ≤ N) (J : JF G E B bx m ad S A C) (hP : PC S c P) (hX : VX S c P.1.1 X) (hk : k < P.1.1) (hv : vb 2 x) :
    ∃ S' C', c_B_send_15 N kS (nn + 1) (some (A 1 c)) dep x (i32 k) C = c_B_send_15 N kS nn (some (A 1 c)) dep (aT P X k x).1 (i32 (k + 1)) C' ∧ JF G E B bx m ad S' A C' ∧ Dy S S' ∧ S'.1 28 = S.1 28 ∧ VX S' c P.1.1 (aX P X k x) ∧ vb 2 (aT P X k x).1 := by
  obtain ⟨⟨hc, h17, h0, h20, h19⟩, hm, hl0, hl1⟩ := id hP
  obtain ⟨so, r2, rk, r5, r6, rr, ra, rb, ri⟩ := hm k hk
  have hp : k < S.1 17 c := by rw [h17]; exact hk
  have hs1 := (mem_r J hc hp).1
  have e12 : ¬ i32 (S.1 2 (S.1 18 (10 * c + k))) = (12 : Int32) := by
    rw [r2]
    rcases rk with h | h | h | h | h | h | h | h <;> rw [h] <;> decide
  have esp : ¬ spread (S.1 2 (S.1 18 (10 * c + k))) = true := by
    rw [r2]
    rcases rk with h | h | h | h | h | h | h | h <;> rw [h] <;> decide
  have ca := cls_at (N := N) (nn := nn) (kS := kS) (dep := dep) (x := x) J hc hp rfl
  rw [if_neg e12, if_neg esp] at ca
  obtain ⟨S1, C1, u1, u2, u3, u4, u5⟩ := in_fix (N := N) hN J hP hX hk hv
  have p1 : S1.1 = S.1 := u4.1
  have hs11 : S.1 18 (10 * c + k) < S1.1 1 0 := by rw [p1]; exact hs1
  have hin : cgA C1 (A 7 (S.1 18 (10 * c + k))) 7 14 = some none := by
    rw [rs_inner (jj_s u2 hs11), p1, ri]; rfl
  obtain ⟨S2, C2, v1, v2, v3, v4, v5⟩ := step_fix (N := N) (made := 0) u2 hs11 (by rw [p1]; exact so) (by rw [p1, r2]; exact rk) u5
  have esp2 : sp S1 (S.1 18 (10 * c + k)) (aIn P X k x).1 = aT P X k x := by
    unfold sp aT
    rw [sl_rln u4, p1, sl_J u4 (by decide), r2, r5, r6, rr, ra, rb, u3]
  rw [esp2] at v1 v3 v5
  have d2 : Dy S S2 := u4.dy.trans v4.dy
  have hc2 : c < S2.1 16 0 := by rw [d2.1 16 (by decide)]; exact hc
  obtain ⟨S3, C3, w1, w2, w3, w4, w5, w6, w7⟩ := note_fix hN v2 (pc_dy hP d2) hk v5
  refine ⟨S3, C3, ?_, w2, d2.trans w3, ?_, ⟨fun j hj => ?_, ?_, ?_⟩, v5⟩
  · rw [ca, u1, cbd2_some, hin, obd_some]
    show c_B_send_179 N kS (c_B_send_15 N kS nn) (A 1 c) dep (aIn P X k x).1 (i32 k) (A 7 (S.1 18 (10 * c + k))) (0 : Int64) C1 = _
    unfold c_B_send_179 c_B_send_198
    rw [cob_of (ci := 7) (rs_tag (jj_s u2 hs11)), jgd_true, v1, cbd2_some, cob_of (ci := 1) (rc_tag (jj_c v2 hc2)), jgd_true, w1, obd_some, show i32 k + 1 = i32 (k + 1) from i32_add k 1]
  · rw [w7, ← p1]
    exact funext fun j => v4.1 28 j (fun q => by omega)
  · rw [w3.1 18 (by decide), d2.1 18 (by decide), w4]
    by_cases h : j = k
    · subst h
      rw [v3]
      exact (if_pos rfl).symm
    · rw [dys_vS v4 (mem_ne J hc (by rw [h17]; exact hj) hp h), dys_vS u4.dys (mem_ne J hc (by rw [h17]; exact hj) hp h), hX.1 j hj]
      exact (if_neg h).symm
  · rw [w5, dys_vL v4, sl_vL u4, hX.2.1]
    rfl
  · rw [w6, dys_vL v4, sl_vL u4, hX.2.2]
    rfl
end CHAINF
