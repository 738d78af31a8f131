/-! what was kept comes back: the states -/
section BACK
variable {G : GT} {E B bx m k c s l : Nat} {ad : Nat → Nat} {S S' : ST} {A : AT} {C C' : CT} {T T' : MT} {ps pl : Nat → Bool}
def baS (S : ST) (k : Nat) (ps pl : Nat → Bool) : ST := (fun x j => if x = 14 ∧ ps j = true then S.1 47 (60 * k + j) else if x = 26 ∧ pl j = true then S.1 50 (60 * k + j) else S.1 x j,
  fun x j => if x = 15 ∧ ps j = true then S.2.1 48 (60 * k + j) else if x = 13 ∧ ps (j / 64) = true then S.2.1 46 (3840 * k + j) else if x = 25 ∧ pl (j / 64) = true then S.2.1 49 (3840 * k + j) else S.2.1 x j, S.2.2)
def ad1 (ps : Nat → Bool) (s : Nat) : Nat → Bool := fun x => ps x || decide (x = s)
theorem ad1_iff {x : Nat} : ad1 ps s x = true ↔ ps x = true ∨ x = s := by
  unfold ad1
  rw [Bool.or_eq_true, decide_eq_true_iff]
theorem ad1_ne {x : Nat} (h : x ≠ s) : ad1 ps s x = ps x := by
  unfold ad1
  rw [decide_eq_false h, Bool.or_false]
theorem baS_k {x : Nat} (h : x ≠ 14) (h' : x ≠ 26) : (baS S k ps pl).1 x = S.1 x := by
  funext j
  show (if x = 14 ∧ ps j = true then S.1 47 (60 * k + j) else if x = 26 ∧ pl j = true then S.1 50 (60 * k + j) else S.1 x j) = S.1 x j
  rw [if_neg (fun q => h q.1), if_neg (fun q => h' q.1)]
theorem baS_J {x : Nat} (h : x ≠ 13) (h' : x ≠ 15) (h2 : x ≠ 25) : (baS S k ps pl).2.1 x = S.2.1 x := by
  funext j
  show (if x = 15 ∧ ps j = true then S.2.1 48 (60 * k + j) else if x = 13 ∧ ps (j / 64) = true then S.2.1 46 (3840 * k + j) else if x = 25 ∧ pl (j / 64) = true then S.2.1 49 (3840 * k + j) else S.2.1 x j) = S.2.1 x j
  rw [if_neg (fun q => h' q.1), if_neg (fun q => h q.1), if_neg (fun q => h2 q.1)]
theorem ba_dy : Dy S (baS S k ps pl) := ⟨fun x hx => baS_k (fun q => hx (by rw [q]; decide)) (fun q => hx (by rw [q]; decide)), fun x hx => baS_J (fun q => hx (by rw [q]; decide)) (fun q => hx (by rw [q]; decide)) (fun q => hx (by rw [q]; decide)), fun _ _ => rfl⟩
theorem bs_1 (x j : Nat) : (baS S k (ad1 ps s) pl).1 x j = if x = 14 ∧ j = s then S.1 47 (60 * k + s) else (baS S k ps pl).1 x j := by
  show (if x = 14 ∧ ad1 ps s j = true then S.1 47 (60 * k + j) else if x = 26 ∧ pl j = true then S.1 50 (60 * k + j) else S.1 x j) = (if x = 14 ∧ j = s then S.1 47 (60 * k + s) else if x = 14 ∧ ps j = true then S.1 47 (60 * k + j) else if x = 26 ∧ pl j = true then S.1 50 (60 * k + j) else S.1 x j)
  by_cases h : j = s
  · subst h
    by_cases hx : x = 14
    · rw [if_pos ⟨hx, ad1_iff.mpr (Or.inr rfl)⟩, if_pos ⟨hx, rfl⟩]
    · rw [if_neg (fun q : x = 14 ∧ ad1 ps j j = true => hx q.1), if_neg (fun q : x = 14 ∧ j = j => hx q.1), if_neg (fun q : x = 14 ∧ ps j = true => hx q.1)]
  · rw [ad1_ne h, if_neg (fun q : x = 14 ∧ j = s => h q.2)]
theorem bs_2 (x j : Nat) : (baS S k (ad1 ps s) pl).2.1 x j = if x = 15 ∧ j = s then S.2.1 48 (60 * k + s) else if x = 13 ∧ j / 64 = s then S.2.1 46 (3840 * k + j) else (baS S k ps pl).2.1 x j := by
  show (if x = 15 ∧ ad1 ps s j = true then S.2.1 48 (60 * k + j) else if x = 13 ∧ ad1 ps s (j / 64) = true then S.2.1 46 (3840 * k + j) else if x = 25 ∧ pl (j / 64) = true then S.2.1 49 (3840 * k + j) else S.2.1 x j) =
    (if x = 15 ∧ j = s then S.2.1 48 (60 * k + s) else if x = 13 ∧ j / 64 = s then S.2.1 46 (3840 * k + j) else if x = 15 ∧ ps j = true then S.2.1 48 (60 * k + j) else if x = 13 ∧ ps (j / 64) = true then S.2.1 46 (3840 * k + j) else if x = 25 ∧ pl (j / 64) = true then S.2.1 49 (3840 * k + j) else S.2.1 x j)
  by_cases h15 : x = 15
  · subst h15
    by_cases h : j = s
    · subst h
      rw [if_pos ⟨rfl, ad1_iff.mpr (Or.inr rfl)⟩, if_pos ⟨rfl, rfl⟩]
    · rw [ad1_ne h, if_neg (fun q : 15 = 15 ∧ j = s => h q.2), if_neg (fun q : 15 = 13 ∧ ad1 ps s (j / 64) = true => absurd q.1 (by decide)), if_neg (fun q : 15 = 13 ∧ j / 64 = s => absurd q.1 (by decide)), if_neg (fun q : 15 = 13 ∧ ps (j / 64) = true => absurd q.1 (by decide))]
  · rw [if_neg (fun q : x = 15 ∧ ad1 ps s j = true => h15 q.1), if_neg (fun q : x = 15 ∧ j = s => h15 q.1), if_neg (fun q : x = 15 ∧ ps j = true => h15 q.1)]
    by_cases h : j / 64 = s
    · by_cases h13 : x = 13
      · rw [if_pos ⟨h13, ad1_iff.mpr (Or.inr h)⟩, if_pos ⟨h13, h⟩]
      · rw [if_neg (fun q : x = 13 ∧ ad1 ps s (j / 64) = true => h13 q.1), if_neg (fun q : x = 13 ∧ j / 64 = s => h13 q.1), if_neg (fun q : x = 13 ∧ ps (j / 64) = true => h13 q.1)]
    · rw [ad1_ne h, if_neg (fun q : x = 13 ∧ j / 64 = s => h q.2)]
theorem bl_1 (x j : Nat) : (baS S k ps (ad1 pl l)).1 x j = if x = 26 ∧ j = l then S.1 50 (60 * k + l) else (baS S k ps pl).1 x j := by
  show (if x = 14 ∧ ps j = true then S.1 47 (60 * k + j) else if x = 26 ∧ ad1 pl l j = true then S.1 50 (60 * k + j) else S.1 x j) = (if x = 26 ∧ j = l then S.1 50 (60 * k + l) else if x = 14 ∧ ps j = true then S.1 47 (60 * k + j) else if x = 26 ∧ pl j = true then S.1 50 (60 * k + j) else S.1 x j)
  by_cases h : j = l
  · subst h
    by_cases hx : x = 26
    · rw [if_neg (fun q : x = 14 ∧ ps j = true => by omega), if_pos ⟨hx, ad1_iff.mpr (Or.inr rfl)⟩, if_pos ⟨hx, rfl⟩]
    · rw [if_neg (fun q : x = 26 ∧ ad1 pl j j = true => hx q.1), if_neg (fun q : x = 26 ∧ j = j => hx q.1), if_neg (fun q : x = 26 ∧ pl j = true => hx q.1)]
  · rw [ad1_ne h, if_neg (fun q : x = 26 ∧ j = l => h q.2)]
theorem bl_2 (x j : Nat) : (baS S k ps (ad1 pl l)).2.1 x j = if x = 25 ∧ j / 64 = l then S.2.1 49 (3840 * k + j) else (baS S k ps pl).2.1 x j := by
  show (if x = 15 ∧ ps j = true then S.2.1 48 (60 * k + j) else if x = 13 ∧ ps (j / 64) = true then S.2.1 46 (3840 * k + j) else if x = 25 ∧ ad1 pl l (j / 64) = true then S.2.1 49 (3840 * k + j) else S.2.1 x j) =
    (if x = 25 ∧ j / 64 = l then S.2.1 49 (3840 * k + j) else if x = 15 ∧ ps j = true then S.2.1 48 (60 * k + j) else if x = 13 ∧ ps (j / 64) = true then S.2.1 46 (3840 * k + j) else if x = 25 ∧ pl (j / 64) = true then S.2.1 49 (3840 * k + j) else S.2.1 x j)
  by_cases h25 : x = 25
  · subst h25
    rw [if_neg (fun q : 25 = 15 ∧ ps j = true => absurd q.1 (by decide)), if_neg (fun q : 25 = 13 ∧ ps (j / 64) = true => absurd q.1 (by decide))]
    by_cases h : j / 64 = l
    · rw [if_pos ⟨rfl, ad1_iff.mpr (Or.inr h)⟩, if_pos ⟨rfl, h⟩]
    · rw [ad1_ne h, if_neg (fun q : 25 = 25 ∧ j / 64 = l => h q.2)]
      rfl
  · rw [if_neg (fun q : x = 25 ∧ ad1 pl l (j / 64) = true => h25 q.1), if_neg (fun q : x = 25 ∧ j / 64 = l => h25 q.1), if_neg (fun q : x = 25 ∧ pl (j / 64) = true => h25 q.1)]
/-! a stretch of values replaced -/
def blS (S : ST) (x lo hi : Nat) (g : Nat → Int64) : ST := (S.1, fun u v => if u = x ∧ lo ≤ v ∧ v < hi then g v else S.2.1 u v, S.2.2)
def blT (T : MT) (x lo hi : Nat) (g : Nat → UInt64) : MT := (T.1, T.2.1, fun u v => if u = x ∧ lo ≤ v ∧ v < hi then g v else T.2.2.1 u v, T.2.2.2)
theorem rt_bl (hR : RT S T) {x lo hi : Nat} {g : Nat → Int64} {g' : Nat → UInt64} (hx : x = 13 ∨ x = 25) (hg : ∀ v, lo ≤ v → v < hi → g' v = dv (if x = 13 then vso S (v / 64) else cso S (v / 64 / 3)) (g v)) : RT (blS S x lo hi g) (blT T x lo hi g') := by
  obtain ⟨a1, a2, a3, a4, a5, a6, a7, a8, a9, b1, b2, b3⟩ := hR
  have ev : vso (blS S x lo hi g) = vso S := rfl
  have ec : cso (blS S x lo hi g) = cso S := rfl
  have oS : ∀ u v, u ≠ x → (blS S x lo hi g).2.1 u v = S.2.1 u v := fun u v h => if_neg (fun q => h q.1)
  have oT : ∀ u v, u ≠ x → (blT T x lo hi g').2.2.1 u v = T.2.2.1 u v := fun u v h => if_neg (fun q => h q.1)
  refine ⟨a1, a2, a3, a4, fun u hu v => ?_, fun v => ?_, fun v => ?_, fun v => ?_, fun v => ?_, fun v => ?_, fun v => ?_, fun v => ?_⟩
  · rw [oS u v (fun q => by subst q; revert hu; rcases hx with rfl | rfl <;> decide)]
    exact a5 u hu v
  · rw [oS 7 v (by omega), oT 7 v (by omega)]; exact a6 v
  · rw [ev]
    by_cases h : (13 : Nat) = x ∧ lo ≤ v ∧ v < hi
    · have e1 : (blS S x lo hi g).2.1 13 v = g v := if_pos h
      have e2 : (blT T x lo hi g').2.2.1 13 v = g' v := if_pos h
      rw [e1, e2, hg v h.2.1 h.2.2, if_pos h.1.symm]
    · have e1 : (blS S x lo hi g).2.1 13 v = S.2.1 13 v := if_neg h
      have e2 : (blT T x lo hi g').2.2.1 13 v = T.2.2.1 13 v := if_neg h
      rw [e1, e2]; exact a7 v
  · rw [ec, oS 24 v (by omega), oT 24 v (by omega)]; exact a8 v
  · rw [ec]
    by_cases h : (25 : Nat) = x ∧ lo ≤ v ∧ v < hi
    · have e1 : (blS S x lo hi g).2.1 25 v = g v := if_pos h
      have e2 : (blT T x lo hi g').2.2.1 25 v = g' v := if_pos h
      rw [e1, e2, hg v h.2.1 h.2.2, if_neg (by omega)]
    · have e1 : (blS S x lo hi g).2.1 25 v = S.2.1 25 v := if_neg h
      have e2 : (blT T x lo hi g').2.2.1 25 v = T.2.2.1 25 v := if_neg h
      rw [e1, e2]; exact a9 v
  · rw [ec, oS 27 v (by omega), oT 27 v (by omega)]; exact b1 v
  · rw [ev, oS 46 v (by omega), oT 46 v (by omega)]; exact b2 v
  · rw [ec, oS 49 v (by omega), oT 49 v (by omega)]; exact b3 v
theorem blT_nil {x lo : Nat} {g : Nat → UInt64} : blT T x lo lo g = T := by
  have : (fun u v => if u = x ∧ lo ≤ v ∧ v < lo then g v else T.2.2.1 u v) = T.2.2.1 := funext fun u => funext fun v => if_neg (by omega)
  unfold blT
  rw [this]
theorem blT_step {x lo hi : Nat} {g : Nat → UInt64} (h : lo < hi) : blT (tsD T x lo (g lo)) x (lo + 1) hi g = blT T x lo hi g := by
  have : (fun u v => if u = x ∧ lo + 1 ≤ v ∧ v < hi then g v else (tsD T x lo (g lo)).2.2.1 u v) = (fun u v => if u = x ∧ lo ≤ v ∧ v < hi then g v else T.2.2.1 u v) := funext fun u => funext fun v => by
    simp only [tsD, up2]
    by_cases h1 : u = x
    · by_cases h2 : v = lo
      · subst h2
        rw [if_neg (by omega), if_pos ⟨h1, rfl⟩, if_pos ⟨h1, Nat.le_refl _, h⟩]
      · by_cases h3 : lo ≤ v ∧ v < hi
        · rw [if_pos ⟨h1, by omega, h3.2⟩, if_pos ⟨h1, h3⟩]
        · rw [if_neg (by omega), if_neg (fun q => h2 q.2), if_neg (by omega)]
    · rw [if_neg (fun q => h1 q.1), if_neg (fun q => h1 q.1), if_neg (fun q => h1 q.1)]
  unfold blT
  rw [this]
  rfl
/-! the reference -/
theorem ba_sec (hs : s < 60) : baS S k (ad1 ps s) pl = uJ (uN (blS (baS S k ps pl) 13 (64 * s) (64 * s + 64) (fun v => S.2.1 46 (3840 * k + v))) 14 s (S.1 47 (60 * k + s))) 15 s (S.2.1 48 (60 * k + s)) := by
  refine Prod.ext (funext fun x => funext fun j => ?_) (Prod.ext (funext fun x => funext fun j => ?_) rfl)
  · rw [bs_1]; rfl
  · rw [bs_2]
    show _ = (if x = 15 ∧ j = s then S.2.1 48 (60 * k + s) else if x = 13 ∧ 64 * s ≤ j ∧ j < 64 * s + 64 then S.2.1 46 (3840 * k + j) else (baS S k ps pl).2.1 x j)
    by_cases h : x = 15 ∧ j = s
    · rw [if_pos h, if_pos h]
    · rw [if_neg h, if_neg h]
      by_cases h2 : x = 13 ∧ j / 64 = s
      · rw [if_pos h2, if_pos ⟨h2.1, by omega, by omega⟩]
      · rw [if_neg h2, if_neg (fun q => h2 ⟨q.1, by omega⟩)]
theorem ba_lop : baS S k ps (ad1 pl l) = uN (blS (baS S k ps pl) 25 (64 * l) (64 * l + 64) (fun v => S.2.1 49 (3840 * k + v))) 26 l (S.1 50 (60 * k + l)) := by
  refine Prod.ext (funext fun x => funext fun j => ?_) (Prod.ext (funext fun x => funext fun j => ?_) rfl)
  · rw [bl_1]; rfl
  · rw [bl_2]
    show _ = (if x = 25 ∧ 64 * l ≤ j ∧ j < 64 * l + 64 then S.2.1 49 (3840 * k + j) else (baS S k ps pl).2.1 x j)
    by_cases h2 : x = 25 ∧ j / 64 = l
    · rw [if_pos h2, if_pos ⟨h2.1, by omega, by omega⟩]
    · rw [if_neg h2, if_neg (fun q => h2 ⟨q.1, by omega⟩)]
def bF : List Nat := [14, 26]
theorem bk123_go {N : Nat} {k88 : Int32 → Int32 → Int32 → MT → Option MT} {v1 v2 v3 : Int32} (hs : s < 60) (hk : k < 8) {T0 : MT} (g : Nat → UInt64) (hg : ∀ v, g v = T0.2.2.1 46 (3840 * k + v)) : ∀ (q f j : Nat) (T : MT), (∀ v, T.2.2.1 46 v = T0.2.2.1 46 v) → j + q = 64 → q < f →
    h_R_backs_123 N k88 f v1 v2 v3 (i32 s) (i32 (60 * k + s)) (i32 j) T = k88 v1 v2 (v3 + 1) (tsJ (tsI (blT T 13 (64 * s + j) (64 * s + 64) g) 14 s (T.1 47 (60 * k + s))) 15 s (T.2.1 48 (60 * k + s)))
  | 0, 0, _, _, _, _, h => absurd h (by omega)
  | 0, f + 1, j, T, h0, hj, _ => by
    have : j = 64 := by omega
    subst this
    unfold h_R_backs_123
    rw [if_pos (by decide), blT_nil]
    simp only [jrg_i32 (show s < 60 from hs) (show 60 < 2 ^ 31 by decide), jrg_i32 (show 60 * k + s < 480 by omega) (show 480 < 2 ^ 31 by decide), obd_some, jlet_eq]
    rfl
  | q + 1, 0, _, _, _, _, h => absurd h (by omega)
  | q + 1, f + 1, j, T, h0, hj, hq => by
    have e0 : T.2.2.1 46 (64 * (60 * k + s) + j) = g (64 * s + j) := by
      rw [h0, hg, show 3840 * k + (64 * s + j) = 64 * (60 * k + s) + j by omega]
    unfold h_R_backs_123
    rw [if_neg (by rw [show (64 : Int32) = i32 64 from rfl, i32_le (by omega) (by omega)]; omega), show (64 : Int32) * i32 s + i32 j = i32 (64 * s + j) from by rw [show (64 : Int32) = i32 64 from rfl, i32_mul, i32_add], show (64 : Int32) * i32 (60 * k + s) + i32 j = i32 (64 * (60 * k + s) + j) from by rw [show (64 : Int32) = i32 64 from rfl, i32_mul, i32_add],
      jrg_i32 (show 64 * (60 * k + s) + j < 30720 by omega) (by decide), obd_some, jrg_i32 (show 64 * s + j < 3840 by omega) (by decide), obd_some, jlet_eq, show i32 j + 1 = i32 (j + 1) from i32_add j 1, e0,
      bk123_go (N := N) (k88 := k88) hs hk g hg q f (j + 1) _ (fun v => by rw [← h0 v]; simp [tsD, up2]) (by omega) (by omega), show 64 * s + (j + 1) = 64 * s + j + 1 from rfl, blT_step (by omega)]
    rfl
theorem bk29_go {N : Nat} {k4 : Int32 → Int32 → Int32 → MT → Option MT} {v1 v2 : Int32} (hl : l < 60) (hk : k < 8) {T0 : MT} (g : Nat → UInt64) (hg : ∀ v, g v = T0.2.2.1 49 (3840 * k + v)) : ∀ (q f j : Nat) (T : MT), (∀ v, T.2.2.1 49 v = T0.2.2.1 49 v) → j + q = 64 → q < f →
    h_R_backs_29 N k4 f v1 v2 (i32 l) (i32 (60 * k + l)) (i32 j) T = k4 v1 v2 (i32 (l + 1)) (tsI (blT T 25 (64 * l + j) (64 * l + 64) g) 26 l (T.1 50 (60 * k + l)))
  | 0, 0, _, _, _, _, h => absurd h (by omega)
  | 0, f + 1, j, T, h0, hj, _ => by
    have : j = 64 := by omega
    subst this
    unfold h_R_backs_29
    rw [if_pos (by decide), blT_nil, jrg_i32 (show 60 * k + l < 480 by omega) (by decide), obd_some, jrg_i32 hl (by decide), obd_some, jlet_eq, show i32 l + 1 = i32 (l + 1) from i32_add l 1]
  | q + 1, 0, _, _, _, _, h => absurd h (by omega)
  | q + 1, f + 1, j, T, h0, hj, hq => by
    have e0 : T.2.2.1 49 (64 * (60 * k + l) + j) = g (64 * l + j) := by
      rw [h0, hg, show 3840 * k + (64 * l + j) = 64 * (60 * k + l) + j by omega]
    unfold h_R_backs_29
    rw [if_neg (by rw [show (64 : Int32) = i32 64 from rfl, i32_le (by omega) (by omega)]; omega), show (64 : Int32) * i32 l + i32 j = i32 (64 * l + j) from by rw [show (64 : Int32) = i32 64 from rfl, i32_mul, i32_add], show (64 : Int32) * i32 (60 * k + l) + i32 j = i32 (64 * (60 * k + l) + j) from by rw [show (64 : Int32) = i32 64 from rfl, i32_mul, i32_add],
      jrg_i32 (show 64 * (60 * k + l) + j < 30720 by omega) (by decide), obd_some, jrg_i32 (show 64 * l + j < 3840 by omega) (by decide), obd_some, jlet_eq, show i32 j + 1 = i32 (j + 1) from i32_add j 1, e0,
      bk29_go (N := N) (k4 := k4) hl hk g hg q f (j + 1) _ (fun v => by rw [← h0 v]; simp [tsD, up2]) (by omega) (by omega), show 64 * l + (j + 1) = 64 * l + j + 1 from rfl, blT_step (by omega)]
    rfl
theorem bsec_ref {N : Nat} {k88 : Int32 → Int32 → Int32 → MT → Option MT} {v1 v2 v3 : Int32} (hN : 100 ≤ N) (hs : s < 60) (hk : k < 8) (hR : RT (baS S k ps pl) T) : ∃ T1, h_R_backs_123 N k88 N v1 v2 v3 (i32 s) (i32 (60 * k + s)) (i32 0) T = k88 v1 v2 (v3 + 1) T1 ∧ RT (baS S k (ad1 ps s) pl) T1 ∧ Fi bF T T1 := by
  refine ⟨_, bk123_go (N := N) (k88 := k88) (T0 := T) hs hk (fun v => T.2.2.1 46 (3840 * k + v)) (fun _ => rfl) 64 N 0 T (fun _ => rfl) (by decide) (by omega), ?_, ⟨fun x hx => funext fun j => ?_, rfl⟩⟩
  · rw [ba_sec hs, hR.1 47 (by decide), hR.2.2.2.2.1 48 (by decide), baS_k (x := 47) (by decide) (by decide), baS_J (x := 48) (by decide) (by decide) (by decide), Nat.add_zero]
    refine rt_uJ (rt_uN (rt_bl hR (Or.inl rfl) (fun v h1 h2 => ?_)) (by decide) (by decide) (by decide) (by decide)) (by decide)
    show T.2.2.1 46 (3840 * k + v) = _
    rw [hR.2.2.2.2.2.2.2.2.2.2.1, if_pos rfl, baS_J (x := 46) (by decide) (by decide) (by decide)]
    congr 2
    omega
  · have : x ≠ 14 := fun q => hx (by rw [q]; decide)
    simp [tsJ, tsI, blT, up2, this]
theorem blop_ref {N : Nat} {k4 : Int32 → Int32 → Int32 → MT → Option MT} {v1 v2 : Int32} (hN : 100 ≤ N) (hl : l < 60) (hk : k < 8) (hR : RT (baS S k ps pl) T) : ∃ T1, h_R_backs_29 N k4 N v1 v2 (i32 l) (i32 (60 * k + l)) (i32 0) T = k4 v1 v2 (i32 (l + 1)) T1 ∧ RT (baS S k ps (ad1 pl l)) T1 ∧ Fi bF T T1 := by
  refine ⟨_, bk29_go (N := N) (k4 := k4) (T0 := T) hl hk (fun v => T.2.2.1 49 (3840 * k + v)) (fun _ => rfl) 64 N 0 T (fun _ => rfl) (by decide) (by omega), ?_, ⟨fun x hx => funext fun j => ?_, rfl⟩⟩
  · rw [ba_lop, hR.1 50 (by decide), baS_k (x := 50) (by decide) (by decide), Nat.add_zero]
    refine rt_uN (rt_bl hR (Or.inr rfl) (fun v h1 h2 => ?_)) (by decide) (by decide) (by decide) (by decide)
    show T.2.2.1 49 (3840 * k + v) = _
    rw [hR.2.2.2.2.2.2.2.2.2.2.2, if_neg (by decide), baS_J (x := 49) (by decide) (by decide) (by decide)]
    congr 2
    omega
  · have : x ≠ 26 := fun q => hx (by rw [q]; decide)
    simp [tsI, blT, up2, this]
theorem bk88_go {N d : Nat} (hN : 100 ≤ N) (hd : d < 20) (hk : k < 8) (h10 : S.1 17 d ≤ 10) (hm : ∀ p, p < S.1 17 d → S.1 18 (10 * d + p) < 60) : ∀ (q f p : Nat) (ps : Nat → Bool) (T : MT), RT (baS S k ps pl) T → p + q = S.1 17 d → q < f →
    ∃ ps' T1, h_R_backs_88 N f (i32 k) (i32 d) (i32 p) T = some T1 ∧ RT (baS S k ps' pl) T1 ∧ Fi bF T T1 ∧ ∀ x, ps' x = true ↔ (ps x = true ∨ ∃ y, p ≤ y ∧ y < S.1 17 d ∧ x = S.1 18 (10 * d + y))
  | 0, 0, _, _, _, _, _, h => absurd h (by omega)
  | 0, f + 1, p, ps, T, hR, hp, _ => by
    refine ⟨ps, T, ?_, hR, Fi.refl _ _, fun x => ⟨Or.inl, fun h => ?_⟩⟩
    · unfold h_R_backs_88
      rw [jrg_i32 hd (by decide), obd_some, hR.1 17 (by decide), baS_k (x := 17) (by decide) (by decide), if_pos (by rw [i32_le (by omega) (by omega)]; omega)]
    · rcases h with h | ⟨y, h1, h2, -⟩
      · exact h
      · omega
  | q + 1, 0, _, _, _, _, _, h => absurd h (by omega)
  | q + 1, f + 1, p, ps, T, hR, hp, hq => by
    have hs := hm p (by omega)
    obtain ⟨T1, u1, u2, u3⟩ := bsec_ref (N := N) (k88 := h_R_backs_88 N f) (v1 := i32 k) (v2 := i32 d) (v3 := i32 p) hN hs hk hR
    rw [show i32 p + 1 = i32 (p + 1) from i32_add p 1] at u1
    obtain ⟨ps', T2, w1, w2, w3, w4⟩ := bk88_go hN hd hk h10 hm q f (p + 1) _ T1 u2 (by omega) (by omega)
    refine ⟨ps', T2, ?_, w2, u3.trans w3, fun x => ?_⟩
    · unfold h_R_backs_88
      rw [jrg_i32 hd (by decide), obd_some, hR.1 17 (by decide), baS_k (x := 17) (by decide) (by decide), if_neg (by rw [i32_le (by omega) (by omega)]; omega), show (10 : Int32) * i32 d + i32 p = i32 (10 * d + p) from by rw [show (10 : Int32) = i32 10 from rfl, i32_mul, i32_add], jrg_i32 (show 10 * d + p < 200 by omega) (by decide), obd_some, jlet_eq, hR.1 18 (by decide), baS_k (x := 18) (by decide) (by decide),
        show (60 : Int32) * i32 k + i32 (S.1 18 (10 * d + p)) = i32 (60 * k + S.1 18 (10 * d + p)) from by rw [show (60 : Int32) = i32 60 from rfl, i32_mul, i32_add]]
      exact u1.trans w1
    · rw [w4, ad1_iff]
      constructor
      · rintro ((h | h) | ⟨y, h1, h2, h3⟩)
        · exact Or.inl h
        · exact Or.inr ⟨p, Nat.le_refl _, by omega, h⟩
        · exact Or.inr ⟨y, by omega, h2, h3⟩
      · rintro (h | ⟨y, h1, h2, h3⟩)
        · exact Or.inl (Or.inl h)
        · by_cases e : y = p
          · subst e; exact Or.inl (Or.inr h3)
          · exact Or.inr ⟨y, by omega, h2, h3⟩
theorem bk4_go {N d : Nat} (hN : 100 ≤ N) (hd : d < 20) (hk : k < 8) (h3 : S.1 20 d ≤ 3) : ∀ (q f i : Nat) (pl : Nat → Bool) (T : MT), RT (baS S k ps pl) T → i + q = S.1 20 d → q < f →
    ∃ pl' T1, h_R_backs_4 N f (i32 k) (i32 d) (i32 (3 * d + i)) T = h_R_backs_88 N N (i32 k) (i32 d) 0 T1 ∧ RT (baS S k ps pl') T1 ∧ Fi bF T T1 ∧ ∀ x, pl' x = true ↔ (pl x = true ∨ ∃ y, i ≤ y ∧ y < S.1 20 d ∧ x = 3 * d + y)
  | 0, 0, _, _, _, _, _, h => absurd h (by omega)
  | 0, f + 1, i, pl, T, hR, hp, _ => by
    refine ⟨pl, T, ?_, hR, Fi.refl _ _, fun x => ⟨Or.inl, fun h => ?_⟩⟩
    · unfold h_R_backs_4
      rw [jrg_i32 hd (by decide), obd_some, hR.1 20 (by decide), baS_k (x := 20) (by decide) (by decide), show (3 : Int32) * i32 d + i32 (S.1 20 d) = i32 (3 * d + S.1 20 d) from by rw [show (3 : Int32) = i32 3 from rfl, i32_mul, i32_add], if_pos (by rw [i32_le (by omega) (by omega)]; omega)]
    · rcases h with h | ⟨y, h1, h2, -⟩
      · exact h
      · omega
  | q + 1, 0, _, _, _, _, _, h => absurd h (by omega)
  | q + 1, f + 1, i, pl, T, hR, hp, hq => by
    obtain ⟨T1, u1, u2, u3⟩ := blop_ref (N := N) (k4 := h_R_backs_4 N f) (v1 := i32 k) (v2 := i32 d) (l := 3 * d + i) hN (by omega) hk hR
    obtain ⟨pl', T2, w1, w2, w3, w4⟩ := bk4_go hN hd hk h3 q f (i + 1) _ T1 u2 (by omega) (by omega)
    refine ⟨pl', T2, ?_, w2, u3.trans w3, fun x => ?_⟩
    · unfold h_R_backs_4
      rw [jrg_i32 hd (by decide), obd_some, hR.1 20 (by decide), baS_k (x := 20) (by decide) (by decide), show (3 : Int32) * i32 d + i32 (S.1 20 d) = i32 (3 * d + S.1 20 d) from by rw [show (3 : Int32) = i32 3 from rfl, i32_mul, i32_add], if_neg (by rw [i32_le (by omega) (by omega)]; omega),
        show (60 : Int32) * i32 k + i32 (3 * d + i) = i32 (60 * k + (3 * d + i)) from by rw [show (60 : Int32) = i32 60 from rfl, i32_mul, i32_add]]
      exact u1.trans w1
    · rw [w4, ad1_iff]
      constructor
      · rintro ((h | h) | ⟨y, h1, h2, h3⟩)
        · exact Or.inl h
        · exact Or.inr ⟨i, Nat.le_refl _, by omega, h⟩
        · exact Or.inr ⟨y, by omega, h2, h3⟩
      · rintro (h | ⟨y, h1, h2, h3⟩)
        · exact Or.inl (Or.inl h)
        · by_cases e : y = i
          · subst e; exact Or.inl (Or.inr h3)
          · exact Or.inr ⟨y, by omega, h2, h3⟩
theorem back12_go {N : Nat} (hN : 100 ≤ N) {t : TR} (hk : k < 8) (hts : TS S t) : ∀ (q f i : Nat) (ps pl : Nat → Bool) (T : MT), RT (baS S k ps pl) T → TM T t → i + q = t.1 → q < f →
    ∃ ps' pl' T1, h_R_back_12 N f (i32 k) (i32 i) T = some (true, T1) ∧ RT (baS S k ps' pl') T1 ∧ (∀ x, ps' x = true ↔ (ps x = true ∨ ∃ a y, i ≤ a ∧ a < t.1 ∧ y < S.1 17 (t.2 a) ∧ x = S.1 18 (10 * t.2 a + y))) ∧ ∀ x, pl' x = true ↔ (pl x = true ∨ ∃ a y, i ≤ a ∧ a < t.1 ∧ y < S.1 20 (t.2 a) ∧ x = 3 * t.2 a + y)
  | 0, 0, _, _, _, _, _, _, _, h => absurd h (by omega)
  | 0, f + 1, i, ps, pl, T, hR, hM, hi, _ => by
    have := hts.1
    refine ⟨ps, pl, T, ?_, hR, fun x => ⟨Or.inl, fun h => ?_⟩, fun x => ⟨Or.inl, fun h => ?_⟩⟩
    · unfold h_R_back_12
      rw [hM.1, if_pos (by rw [i32_le (by omega) (by omega)]; omega)]
    · rcases h with h | ⟨a, y, h1, h2, -⟩
      · exact h
      · omega
    · rcases h with h | ⟨a, y, h1, h2, -⟩
      · exact h
      · omega
  | q + 1, 0, _, _, _, _, _, _, _, h => absurd h (by omega)
  | q + 1, f + 1, i, ps, pl, T, hR, hM, hi, hq => by
    have := hts.1
    obtain ⟨s1, s2, s3, s4⟩ := hts.2 i (by omega)
    obtain ⟨pl1, T1, u1, u2, u3, u4⟩ := bk4_go (S := S) hN s1 hk s3 (S.1 20 (t.2 i)) N 0 pl T hR (by omega) (by omega)
    obtain ⟨ps1, T2, w1, w2, w3, w4⟩ := bk88_go (S := S) hN s1 hk s2 s4 (S.1 17 (t.2 i)) N 0 ps T1 u2 (by omega) (by omega)
    have hF := u3.trans w3
    obtain ⟨ps', pl', T3, x1, x2, x3, x4⟩ := back12_go hN hk hts q f (i + 1) ps1 pl1 T2 w2 ⟨by rw [hF.1 42 (by decide)]; exact hM.1, fun a ha => by rw [hF.1 43 (by decide)]; exact hM.2 a ha⟩ (by omega) (by omega)
    refine ⟨ps', pl', T3, ?_, x2, fun x => ?_, fun x => ?_⟩
    · unfold h_R_back_12 h_R_backs
      rw [hM.1, if_neg (by rw [i32_le (by omega) (by omega)]; omega), jrg_i32 (by omega) (by decide), obd_some, hM.2 i (by omega), show (3 : Int32) * i32 (t.2 i) = i32 (3 * t.2 i + 0) from by rw [show (3 : Int32) = i32 3 from rfl, i32_mul, Nat.add_zero], u1.trans w1, obd_some, show i32 i + 1 = i32 (i + 1) from i32_add i 1]
      exact x1
    · rw [x3, w4]
      constructor
      · rintro ((h | ⟨y, h1, h2, h3⟩) | ⟨a, y, h1, h2, h3, h4⟩)
        · exact Or.inl h
        · exact Or.inr ⟨i, y, Nat.le_refl _, by omega, h2, h3⟩
        · exact Or.inr ⟨a, y, by omega, h2, h3, h4⟩
      · rintro (h | ⟨a, y, h1, h2, h3, h4⟩)
        · exact Or.inl (Or.inl h)
        · by_cases e : a = i
          · subst e; exact Or.inl (Or.inr ⟨y, Nat.zero_le _, h3, h4⟩)
          · exact Or.inr ⟨a, y, by omega, h2, h3, h4⟩
    · rw [x4, u4]
      constructor
      · rintro ((h | ⟨y, h1, h2, h3⟩) | ⟨a, y, h1, h2, h3, h4⟩)
        · exact Or.inl h
        · exact Or.inr ⟨i, y, Nat.le_refl _, by omega, h2, h3⟩
        · exact Or.inr ⟨a, y, by omega, h2, h3, h4⟩
      · rintro (h | ⟨a, y, h1, h2, h3, h4⟩)
        · exact Or.inl (Or.inl h)
        · by_cases e : a = i
          · subst e; exact Or.inl (Or.inr ⟨y, Nat.zero_le _, h3, h4⟩)
          · exact Or.inr ⟨a, y, by omega, h2, h3, h4⟩
end BACK
