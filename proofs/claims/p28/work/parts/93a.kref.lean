/-! the reference keeps -/
section KREF
variable {G : GT} {E B bx m k : Nat} {ad : Nat → Nat} {S S' S'' S0 : ST} {A : AT} {C C' : CT} {T T' : MT}
def szN (x : Nat) : Nat := match x with | 51 => 20 | 52 => 20 | 47 => 60 | 53 => 60 | 50 => 60 | _ => 0
def srN (x : Nat) : Nat := match x with | 51 => 17 | 52 => 20 | 47 => 14 | 53 => 10 | 50 => 26 | _ => 0
def szJ (x : Nat) : Nat := match x with | 48 => 60 | 46 => 3840 | 49 => 3840 | _ => 0
def srJ (x : Nat) : Nat := match x with | 48 => 15 | 46 => 13 | 49 => 25 | _ => 0
/-- what differs is a right copy, in place k -/
def CC (S0 S' : ST) (k : Nat) : Prop := (∀ x j, S'.1 x j = S0.1 x j ∨ ∃ y, y < szN x ∧ j = szN x * k + y ∧ S'.1 x j = S0.1 (srN x) y) ∧ (∀ x j, S'.2.1 x j = S0.2.1 x j ∨ ∃ y, y < szJ x ∧ j = szJ x * k + y ∧ S'.2.1 x j = S0.2.1 (srJ x) y) ∧ S'.2.2 = S0.2.2
def DN (S0 S' : ST) (k x y : Nat) : Prop := S'.1 x (szN x * k + y) = S0.1 (srN x) y
def DJ (S0 S' : ST) (k x y : Nat) : Prop := S'.2.1 x (szJ x * k + y) = S0.2.1 (srJ x) y
def PD (S0 : ST) (k : Nat) (S' S'' : ST) : Prop := (∀ x y, DN S0 S' k x y → DN S0 S'' k x y) ∧ ∀ x y, DJ S0 S' k x y → DJ S0 S'' k x y
theorem PD.refl : PD S0 k S' S' := ⟨fun _ _ h => h, fun _ _ h => h⟩
theorem PD.trans {S3 : ST} (h : PD S0 k S' S'') (h' : PD S0 k S'' S3) : PD S0 k S' S3 := ⟨fun x y q => h'.1 x y (h.1 x y q), fun x y q => h'.2 x y (h.2 x y q)⟩
theorem CC.refl : CC S0 S0 k := ⟨fun _ _ => Or.inl rfl, fun _ _ => Or.inl rfl, rfl⟩
theorem cc_N (h : CC S0 S' k) {x : Nat} (hx : szN x = 0) : S'.1 x = S0.1 x := funext fun j => by
  rcases h.1 x j with q | ⟨y, q, -⟩
  · exact q
  · rw [hx] at q; exact absurd q (Nat.not_lt_zero _)
theorem cc_J (h : CC S0 S' k) {x : Nat} (hx : szJ x = 0) : S'.2.1 x = S0.2.1 x := funext fun j => by
  rcases h.2.1 x j with q | ⟨y, q, -⟩
  · exact q
  · rw [hx] at q; exact absurd q (Nat.not_lt_zero _)
theorem szN_in {x : Nat} (h : x ∉ kNs) : szN x = 0 := by
  unfold szN
  split <;> first | rfl | exact absurd (by decide) h
theorem szJ_in {x : Nat} (h : x ∉ kJs) : szJ x = 0 := by
  unfold szJ
  split <;> first | rfl | exact absurd (by decide) h
theorem cc_kx (h : CC S0 S' k) : Kx S0 S' := ⟨fun _ hx => cc_N h (szN_in hx), fun _ hx => cc_J h (szJ_in hx), h.2.2⟩
theorem cc_uN (h : CC S0 S' k) {x y : Nat} (hy : y < szN x) : CC S0 (uN S' x (szN x * k + y) (S0.1 (srN x) y)) k ∧ PD S0 k S' (uN S' x (szN x * k + y) (S0.1 (srN x) y)) ∧ DN S0 (uN S' x (szN x * k + y) (S0.1 (srN x) y)) k x y := by
  have e : ∀ a b, (uN S' x (szN x * k + y) (S0.1 (srN x) y)).1 a b = if a = x ∧ b = szN x * k + y then S0.1 (srN x) y else S'.1 a b := fun _ _ => rfl
  refine ⟨⟨fun a b => ?_, h.2.1, h.2.2⟩, ⟨fun a b q => ?_, fun _ _ q => q⟩, ?_⟩
  · rw [e]
    by_cases c : a = x ∧ b = szN x * k + y
    · obtain ⟨rfl, rfl⟩ := c
      rw [if_pos ⟨rfl, rfl⟩]
      exact Or.inr ⟨y, hy, rfl, rfl⟩
    · rw [if_neg c]; exact h.1 a b
  · unfold DN at q ⊢
    rw [e]
    by_cases c : a = x ∧ szN a * k + b = szN x * k + y
    · obtain ⟨rfl, c⟩ := c
      rw [if_pos ⟨rfl, c⟩, show b = y by omega]
    · rw [if_neg c]; exact q
  · unfold DN
    rw [e, if_pos ⟨rfl, rfl⟩]
theorem cc_uJ (h : CC S0 S' k) {x y : Nat} (hy : y < szJ x) : CC S0 (uJ S' x (szJ x * k + y) (S0.2.1 (srJ x) y)) k ∧ PD S0 k S' (uJ S' x (szJ x * k + y) (S0.2.1 (srJ x) y)) ∧ DJ S0 (uJ S' x (szJ x * k + y) (S0.2.1 (srJ x) y)) k x y := by
  have e : ∀ a b, (uJ S' x (szJ x * k + y) (S0.2.1 (srJ x) y)).2.1 a b = if a = x ∧ b = szJ x * k + y then S0.2.1 (srJ x) y else S'.2.1 a b := fun _ _ => rfl
  refine ⟨⟨h.1, fun a b => ?_, h.2.2⟩, ⟨fun _ _ q => q, fun a b q => ?_⟩, ?_⟩
  · rw [e]
    by_cases c : a = x ∧ b = szJ x * k + y
    · obtain ⟨rfl, rfl⟩ := c
      rw [if_pos ⟨rfl, rfl⟩]
      exact Or.inr ⟨y, hy, rfl, rfl⟩
    · rw [if_neg c]; exact h.2.1 a b
  · unfold DJ at q ⊢
    rw [e]
    by_cases c : a = x ∧ szJ a * k + b = szJ x * k + y
    · obtain ⟨rfl, c⟩ := c
      rw [if_pos ⟨rfl, c⟩, show b = y by omega]
    · rw [if_neg c]; exact q
  · unfold DJ
    rw [e, if_pos ⟨rfl, rfl⟩]
theorem rt_uM (h : RT S T) {x j v : Nat} (hk : x ∈ rtM) : RT (uN S x j v) (tsI T x j (im v)) := by
  obtain ⟨a1, a2, a3, a4, a5, a6, a7, a8, a9, b1, b2, b3⟩ := h
  have hd : ∀ y, y ∈ rtM → y ∉ rtN ∧ y ∉ rtC ∧ y ∉ rtI ∧ y ≠ 2 ∧ y ≠ 3 ∧ y ≠ 18 := by decide
  obtain ⟨d1, d2, d3, d4, d5, d6⟩ := hd x hk
  have e3 : ∀ y, (uN S x j v).1 3 y = S.1 3 y := fun y => up2_k _ _ _ _ (Ne.symm d5)
  have e2 : ∀ y, (uN S x j v).1 2 y = S.1 2 y := fun y => up2_k _ _ _ _ (Ne.symm d4)
  have e18 : ∀ y, (uN S x j v).1 18 y = S.1 18 y := fun y => up2_k _ _ _ _ (Ne.symm d6)
  have ec : ∀ y, cso (uN S x j v) y = cso S y := fun y => by unfold cso; rw [e18, e3]
  have ev : ∀ y, vso (uN S x j v) y = vso S y := fun y => by unfold vso; rw [e2, e3]
  refine ⟨fun y hy z => ?_, fun y hy => ?_, fun y hy z => ?_, fun y hy z => ?_, a5, fun y => ?_, fun y => ?_, fun y => ?_, fun y => ?_, fun y => ?_, fun y => ?_, fun y => ?_⟩
  · have : y ≠ x := fun e => d1 (e ▸ hy)
    simp only [tsI, uN, up2, this, false_and, if_false]; exact a1 y hy z
  · have : y ≠ x := fun e => d2 (e ▸ hy)
    simp only [tsI, uN, up2, this, false_and, if_false]; exact a2 y hy
  · by_cases e : y = x ∧ z = j
    · obtain ⟨rfl, rfl⟩ := e
      simp [tsI, uN, up2]
    · have : T.1 y z = im (S.1 y z) := a3 y hy z
      simp only [tsI, uN, up2, if_neg e, this]
  · have : y ≠ x := fun e => d3 (e ▸ hy)
    simp only [tsI, uN, up2, this, false_and, if_false]; exact a4 y hy z
  · rw [e3]; exact a6 y
  · rw [ev]; exact a7 y
  · rw [ec]; exact a8 y
  · rw [ec]; exact a9 y
  · rw [ec]; exact b1 y
  · rw [ev]; exact b2 y
  · rw [ec]; exact b3 y
/-! one number, one value copied -/
theorem st_N (hR : RT S' T') (hc : CC S0 S' k) {x y : Nat} (hx : x ∈ [47, 50, 51, 52]) (hy : y < szN x) : ∃ S'', RT S'' (tsI T' x (szN x * k + y) (T'.1 (srN x) y)) ∧ CC S0 S'' k ∧ PD S0 k S' S'' ∧ DN S0 S'' k x y := by
  obtain ⟨h1, h2, h3⟩ := cc_uN hc hy
  have q : ∀ x, x ∈ [47, 50, 51, 52] → x ∈ rtN ∧ x ≠ 2 ∧ x ≠ 3 ∧ x ≠ 18 ∧ srN x ∈ rtN ∧ szN (srN x) = 0 := by decide
  obtain ⟨q1, q2, q3, q4, q5, q6⟩ := q x hx
  refine ⟨_, ?_, h1, h2, h3⟩
  rw [hR.1 _ q5, cc_N hc q6]
  exact rt_uN hR q1 q2 q3 q4
theorem st_M (hR : RT S' T') (hc : CC S0 S' k) {y : Nat} (hy : y < 60) : ∃ S'', RT S'' (tsI T' 53 (60 * k + y) (T'.1 10 y)) ∧ CC S0 S'' k ∧ PD S0 k S' S'' ∧ DN S0 S'' k 53 y := by
  obtain ⟨h1, h2, h3⟩ := cc_uN hc (x := 53) (y := y) hy
  refine ⟨_, ?_, h1, h2, h3⟩
  rw [hR.2.2.1 10 (by decide), cc_N hc (x := 10) rfl]
  exact rt_uM hR (x := 53) (by decide)
theorem st_J (hR : RT S' T') (hc : CC S0 S' k) {y : Nat} (hy : y < 60) : ∃ S'', RT S'' (tsJ T' 48 (60 * k + y) (T'.2.1 15 y)) ∧ CC S0 S'' k ∧ PD S0 k S' S'' ∧ DJ S0 S'' k 48 y := by
  obtain ⟨h1, h2, h3⟩ := cc_uJ hc (x := 48) (y := y) hy
  refine ⟨_, ?_, h1, h2, h3⟩
  rw [hR.2.2.2.2.1 15 (by decide), cc_J hc (x := 15) rfl]
  exact rt_uJ hR (k := 48) (by decide)
theorem st_46 (hR : RT S' T') (hc : CC S0 S' k) {s j : Nat} (hs : s < 60) (hj : j < 64) : ∃ S'', RT S'' (tsD T' 46 (64 * (60 * k + s) + j) (T'.2.2.1 13 (64 * s + j))) ∧ CC S0 S'' k ∧ PD S0 k S' S'' ∧ DJ S0 S'' k 46 (64 * s + j) := by
  obtain ⟨h1, h2, h3⟩ := cc_uJ hc (x := 46) (y := 64 * s + j) (show _ < 3840 by omega)
  refine ⟨_, ?_, h1, h2, h3⟩
  have e : szJ 46 * k + (64 * s + j) = 64 * (60 * k + s) + j := by
    show 3840 * k + (64 * s + j) = _
    omega
  have e2 : S0.2.1 (srJ 46) (64 * s + j) = S'.2.1 13 (64 * s + j) := (congrFun (cc_J hc (x := 13) rfl) _).symm
  rw [e, e2, hR.2.2.2.2.2.2.1]
  exact rt_uD hR (Or.inr (Or.inr (Or.inr (Or.inr (Or.inr (Or.inl ⟨rfl, by congr 1; omega⟩))))))
theorem st_49 (hR : RT S' T') (hc : CC S0 S' k) {l j : Nat} (hl : l < 60) (hj : j < 64) : ∃ S'', RT S'' (tsD T' 49 (64 * (60 * k + l) + j) (T'.2.2.1 25 (64 * l + j))) ∧ CC S0 S'' k ∧ PD S0 k S' S'' ∧ DJ S0 S'' k 49 (64 * l + j) := by
  obtain ⟨h1, h2, h3⟩ := cc_uJ hc (x := 49) (y := 64 * l + j) (show _ < 3840 by omega)
  refine ⟨_, ?_, h1, h2, h3⟩
  have e : szJ 49 * k + (64 * l + j) = 64 * (60 * k + l) + j := by
    show 3840 * k + (64 * l + j) = _
    omega
  have e2 : S0.2.1 (srJ 49) (64 * l + j) = S'.2.1 25 (64 * l + j) := (congrFun (cc_J hc (x := 25) rfl) _).symm
  rw [e, e2, hR.2.2.2.2.2.2.2.2.1]
  exact rt_uD hR (Or.inr (Or.inr (Or.inr (Or.inr (Or.inr (Or.inr ⟨rfl, by congr 1; omega⟩))))))
def kF : List Nat := [44, 45, 47, 50, 51, 52, 53]
theorem fi_I {L : List Nat} {x j : Nat} {v : Int32} (h : x ∈ L) : Fi L T (tsI T x j v) := ⟨fun y hy => funext fun z => by
  have : y ≠ x := fun q => hy (q ▸ h)
  simp [tsI, up2, this], rfl⟩
theorem fi_J {L : List Nat} {x j : Nat} {v : Int64} : Fi L T (tsJ T x j v) := ⟨fun _ _ => rfl, rfl⟩
theorem fi_D {L : List Nat} {x j : Nat} {v : UInt64} : Fi L T (tsD T x j v) := ⟨fun _ _ => rfl, rfl⟩
/-- what is kept of a section, of a loop, of a chain -/
def KDs (S0 S' : ST) (k s : Nat) : Prop := DN S0 S' k 47 s ∧ DJ S0 S' k 48 s ∧ DN S0 S' k 53 s ∧ ∀ y, y < 64 → DJ S0 S' k 46 (64 * s + y)
def KDl (S0 S' : ST) (k l : Nat) : Prop := DN S0 S' k 50 l ∧ ∀ y, y < 64 → DJ S0 S' k 49 (64 * l + y)
def KD (S0 S' : ST) (k d : Nat) : Prop := DN S0 S' k 51 d ∧ DN S0 S' k 52 d ∧ (∀ p, p < S0.1 17 d → KDs S0 S' k (S0.1 18 (10 * d + p))) ∧ ∀ i, i < S0.1 20 d → KDl S0 S' k (3 * d + i)
theorem KDs.pd {s : Nat} (h : KDs S0 S' k s) (hp : PD S0 k S' S'') : KDs S0 S'' k s := ⟨hp.1 _ _ h.1, hp.2 _ _ h.2.1, hp.1 _ _ h.2.2.1, fun y hy => hp.2 _ _ (h.2.2.2 y hy)⟩
theorem KDl.pd {l : Nat} (h : KDl S0 S' k l) (hp : PD S0 k S' S'') : KDl S0 S'' k l := ⟨hp.1 _ _ h.1, fun y hy => hp.2 _ _ (h.2 y hy)⟩
theorem KD.pd {d : Nat} (h : KD S0 S' k d) (hp : PD S0 k S' S'') : KD S0 S'' k d := ⟨hp.1 _ _ h.1, hp.1 _ _ h.2.1, fun p q => (h.2.2.1 p q).pd hp, fun i q => (h.2.2.2 i q).pd hp⟩
theorem kp157_go {N : Nat} {k122 : Int32 → Int32 → Int32 → MT → Option MT} {v1 v2 v3 : Int32} {s : Nat} (hs : s < 60) (hk : k < 8) : ∀ (q n j : Nat) (S' : ST) (T' : MT), RT S' T' → CC S0 S' k → j + q = 64 → q < n →
    ∃ S'' T'', h_R_keeps_157 N k122 n v1 v2 v3 (i32 s) (i32 (60 * k + s)) (i32 j) T' = k122 v1 v2 (v3 + 1) T'' ∧ RT S'' T'' ∧ CC S0 S'' k ∧ PD S0 k S' S'' ∧ (DN S0 S'' k 47 s ∧ DJ S0 S'' k 48 s ∧ DN S0 S'' k 53 s ∧ ∀ y, j ≤ y → y < 64 → DJ S0 S'' k 46 (64 * s + y)) ∧ Fi kF T' T''
  | 0, 0, _, _, _, _, _, _, h => absurd h (by omega)
  | 0, n + 1, j, S', T', hR, hc, hj, _ => by
    have : j = 64 := by omega
    subst this
    obtain ⟨S1, a1, a2, a3, a4⟩ := st_N hR hc (x := 47) (y := s) (by decide) hs
    have a1 : RT S1 (tsI T' 47 (60 * k + s) (T'.1 14 s)) := a1
    obtain ⟨S2, b1, b2, b3, b4⟩ := st_J a1 a2 (y := s) hs
    obtain ⟨S3, c1, c2, c3, c4⟩ := st_M b1 b2 (y := s) hs
    refine ⟨S3, _, ?_, c1, c2, (a3.trans b3).trans c3, ⟨c3.1 _ _ (b3.1 _ _ a4), c3.2 _ _ b4, c4, fun y h1 h2 => absurd h2 (by omega)⟩, ((fi_I (by decide)).trans fi_J).trans (fi_I (by decide))⟩
    unfold h_R_keeps_157
    rw [if_pos (by decide)]
    simp only [jrg_i32 (show s < 60 from hs) (show 60 < 2 ^ 31 by decide), jrg_i32 (show 60 * k + s < 480 by omega) (show 480 < 2 ^ 31 by decide), obd_some, jlet_eq]
  | q + 1, 0, _, _, _, _, _, _, h => absurd h (by omega)
  | q + 1, n + 1, j, S', T', hR, hc, hj, hn => by
    obtain ⟨S1, a1, a2, a3, a4⟩ := st_46 hR hc (s := s) (j := j) hs (by omega)
    obtain ⟨S2, T2, u1, u2, u3, u4, ⟨u5, u6, u7, u8⟩, u9⟩ := kp157_go hs hk q n (j + 1) S1 _ a1 a2 (by omega) (by omega)
    refine ⟨S2, T2, ?_, u2, u3, a3.trans u4, ⟨u5, u6, u7, fun y h1 h2 => ?_⟩, fi_D.trans u9⟩
    · unfold h_R_keeps_157
      rw [if_neg (by rw [show (64 : Int32) = i32 64 from rfl, i32_le (by omega) (by omega)]; omega), show (64 : Int32) * i32 s + i32 j = i32 (64 * s + j) from by rw [show (64 : Int32) = i32 64 from rfl, i32_mul, i32_add], show (64 : Int32) * i32 (60 * k + s) + i32 j = i32 (64 * (60 * k + s) + j) from by rw [show (64 : Int32) = i32 64 from rfl, i32_mul, i32_add],
        jrg_i32 (show 64 * s + j < 3840 by omega) (by decide), obd_some, jrg_i32 (show 64 * (60 * k + s) + j < 30720 by omega) (by decide), obd_some, jlet_eq, show i32 j + 1 = i32 (j + 1) from i32_add j 1]
      exact u1
    · by_cases e : y = j
      · subst e; exact u4.2 _ _ a4
      · exact u8 y (by omega) h2
theorem kp63_go {N : Nat} {k38 : Int32 → Int32 → Int32 → MT → Option MT} {v1 v2 : Int32} {l : Nat} (hl : l < 60) (hk : k < 8) : ∀ (q n j : Nat) (S' : ST) (T' : MT), RT S' T' → CC S0 S' k → j + q = 64 → q < n →
    ∃ S'' T'', h_R_keeps_63 N k38 n v1 v2 (i32 l) (i32 (60 * k + l)) (i32 j) T' = k38 v1 v2 (i32 (l + 1)) T'' ∧ RT S'' T'' ∧ CC S0 S'' k ∧ PD S0 k S' S'' ∧ (DN S0 S'' k 50 l ∧ ∀ y, j ≤ y → y < 64 → DJ S0 S'' k 49 (64 * l + y)) ∧ Fi kF T' T''
  | 0, 0, _, _, _, _, _, _, h => absurd h (by omega)
  | 0, n + 1, j, S', T', hR, hc, hj, _ => by
    have : j = 64 := by omega
    subst this
    obtain ⟨S1, a1, a2, a3, a4⟩ := st_N hR hc (x := 50) (y := l) (by decide) hl
    have a1 : RT S1 (tsI T' 50 (60 * k + l) (T'.1 26 l)) := a1
    refine ⟨S1, _, ?_, a1, a2, a3, ⟨a4, fun y h1 h2 => absurd h2 (by omega)⟩, fi_I (by decide)⟩
    unfold h_R_keeps_63
    rw [if_pos (by decide), jrg_i32 hl (by decide), obd_some, jrg_i32 (show 60 * k + l < 480 by omega) (by decide), obd_some, jlet_eq, show i32 l + 1 = i32 (l + 1) from i32_add l 1]
  | q + 1, 0, _, _, _, _, _, _, h => absurd h (by omega)
  | q + 1, n + 1, j, S', T', hR, hc, hj, hn => by
    obtain ⟨S1, a1, a2, a3, a4⟩ := st_49 hR hc (l := l) (j := j) hl (by omega)
    obtain ⟨S2, T2, u1, u2, u3, u4, ⟨u5, u8⟩, u9⟩ := kp63_go hl hk q n (j + 1) S1 _ a1 a2 (by omega) (by omega)
    refine ⟨S2, T2, ?_, u2, u3, a3.trans u4, ⟨u5, fun y h1 h2 => ?_⟩, fi_D.trans u9⟩
    · unfold h_R_keeps_63
      rw [if_neg (by rw [show (64 : Int32) = i32 64 from rfl, i32_le (by omega) (by omega)]; omega), show (64 : Int32) * i32 l + i32 j = i32 (64 * l + j) from by rw [show (64 : Int32) = i32 64 from rfl, i32_mul, i32_add], show (64 : Int32) * i32 (60 * k + l) + i32 j = i32 (64 * (60 * k + l) + j) from by rw [show (64 : Int32) = i32 64 from rfl, i32_mul, i32_add],
        jrg_i32 (show 64 * l + j < 3840 by omega) (by decide), obd_some, jrg_i32 (show 64 * (60 * k + l) + j < 30720 by omega) (by decide), obd_some, jlet_eq, show i32 j + 1 = i32 (j + 1) from i32_add j 1]
      exact u1
    · by_cases e : y = j
      · subst e; exact u4.2 _ _ a4
      · exact u8 y (by omega) h2
theorem kp122_go {N : Nat} (hN : 100 ≤ N) {d : Nat} (hd : d < 20) (hk : k < 8) (h10 : S0.1 17 d ≤ 10) (hm : ∀ p, p < S0.1 17 d → S0.1 18 (10 * d + p) < 60) : ∀ (q n p : Nat) (S' : ST) (T' : MT), RT S' T' → CC S0 S' k → p + q = S0.1 17 d → q < n →
    ∃ S'' T'', h_R_keeps_122 N n (i32 k) (i32 d) (i32 p) T' = some T'' ∧ RT S'' T'' ∧ CC S0 S'' k ∧ PD S0 k S' S'' ∧ (∀ x, p ≤ x → x < S0.1 17 d → KDs S0 S'' k (S0.1 18 (10 * d + x))) ∧ Fi kF T' T''
  | 0, 0, _, _, _, _, _, _, h => absurd h (by omega)
  | 0, n + 1, p, S', T', hR, hc, hp, _ => by
    refine ⟨S', T', ?_, hR, hc, PD.refl, fun x h1 h2 => absurd h2 (by omega), Fi.refl _ _⟩
    unfold h_R_keeps_122
    rw [jrg_i32 hd (by decide), obd_some, hR.1 17 (by decide), cc_N hc (x := 17) rfl, if_pos (by rw [i32_le (by omega) (by omega)]; omega)]
  | q + 1, 0, _, _, _, _, _, _, h => absurd h (by omega)
  | q + 1, n + 1, p, S', T', hR, hc, hp, hn => by
    have hs := hm p (by omega)
    obtain ⟨S1, T1, u1, u2, u3, u4, ⟨u5, u6, u7, u8⟩, u9⟩ := kp157_go (N := N) (k122 := h_R_keeps_122 N n) (v1 := i32 k) (v2 := i32 d) (v3 := i32 p) hs hk 64 N 0 S' T' hR hc (by decide) (by omega)
    rw [show i32 p + 1 = i32 (p + 1) from i32_add p 1] at u1
    obtain ⟨S2, T2, w1, w2, w3, w4, w5, w6⟩ := kp122_go hN hd hk h10 hm q n (p + 1) S1 T1 u2 u3 (by omega) (by omega)
    refine ⟨S2, T2, ?_, w2, w3, u4.trans w4, fun x h1 h2 => ?_, u9.trans w6⟩
    · unfold h_R_keeps_122
      rw [jrg_i32 hd (by decide), obd_some, hR.1 17 (by decide), cc_N hc (x := 17) rfl, if_neg (by rw [i32_le (by omega) (by omega)]; omega), show (10 : Int32) * i32 d + i32 p = i32 (10 * d + p) from by rw [show (10 : Int32) = i32 10 from rfl, i32_mul, i32_add], jrg_i32 (show 10 * d + p < 200 by omega) (by decide), obd_some, jlet_eq, hR.1 18 (by decide), cc_N hc (x := 18) rfl,
        show (60 : Int32) * i32 k + i32 (S0.1 18 (10 * d + p)) = i32 (60 * k + S0.1 18 (10 * d + p)) from by rw [show (60 : Int32) = i32 60 from rfl, i32_mul, i32_add]]
      exact u1.trans w1
    · by_cases e : x = p
      · subst e
        exact KDs.pd ⟨u5, u6, u7, fun y hy => u8 y (Nat.zero_le _) hy⟩ w4
      · exact w5 x (by omega) h2
theorem kp38_go {N : Nat} (hN : 100 ≤ N) {d : Nat} (hd : d < 20) (hk : k < 8) (h3 : S0.1 20 d ≤ 3) : ∀ (q n i : Nat) (S' : ST) (T' : MT), RT S' T' → CC S0 S' k → i + q = S0.1 20 d → q < n →
    ∃ S'' T'', h_R_keeps_38 N n (i32 k) (i32 d) (i32 (3 * d + i)) T' = h_R_keeps_122 N N (i32 k) (i32 d) 0 T'' ∧ RT S'' T'' ∧ CC S0 S'' k ∧ PD S0 k S' S'' ∧ (∀ x, i ≤ x → x < S0.1 20 d → KDl S0 S'' k (3 * d + x)) ∧ Fi kF T' T''
  | 0, 0, _, _, _, _, _, _, h => absurd h (by omega)
  | 0, n + 1, i, S', T', hR, hc, hp, _ => by
    refine ⟨S', T', ?_, hR, hc, PD.refl, fun x h1 h2 => absurd h2 (by omega), Fi.refl _ _⟩
    unfold h_R_keeps_38
    rw [jrg_i32 hd (by decide), obd_some, hR.1 20 (by decide), cc_N hc (x := 20) rfl, show (3 : Int32) * i32 d + i32 (S0.1 20 d) = i32 (3 * d + S0.1 20 d) from by rw [show (3 : Int32) = i32 3 from rfl, i32_mul, i32_add], if_pos (by rw [i32_le (by omega) (by omega)]; omega)]
  | q + 1, 0, _, _, _, _, _, _, h => absurd h (by omega)
  | q + 1, n + 1, i, S', T', hR, hc, hp, hn => by
    obtain ⟨S1, T1, u1, u2, u3, u4, ⟨u5, u8⟩, u9⟩ := kp63_go (N := N) (k38 := h_R_keeps_38 N n) (v1 := i32 k) (v2 := i32 d) (l := 3 * d + i) (by omega) hk 64 N 0 S' T' hR hc (by decide) (by omega)
    obtain ⟨S2, T2, w1, w2, w3, w4, w5, w6⟩ := kp38_go hN hd hk h3 q n (i + 1) S1 T1 u2 u3 (by omega) (by omega)
    refine ⟨S2, T2, ?_, w2, w3, u4.trans w4, fun x h1 h2 => ?_, u9.trans w6⟩
    · unfold h_R_keeps_38
      rw [jrg_i32 hd (by decide), obd_some, hR.1 20 (by decide), cc_N hc (x := 20) rfl, show (3 : Int32) * i32 d + i32 (S0.1 20 d) = i32 (3 * d + S0.1 20 d) from by rw [show (3 : Int32) = i32 3 from rfl, i32_mul, i32_add], if_neg (by rw [i32_le (by omega) (by omega)]; omega),
        show (60 : Int32) * i32 k + i32 (3 * d + i) = i32 (60 * k + (3 * d + i)) from by rw [show (60 : Int32) = i32 60 from rfl, i32_mul, i32_add]]
      exact u1.trans w1
    · by_cases e : x = i
      · subst e
        exact KDl.pd ⟨u5, fun y hy => u8 y (Nat.zero_le _) hy⟩ w4
      · exact w5 x (by omega) h2
theorem keeps_ref {N : Nat} (hN : 100 ≤ N) {d : Nat} (hd : d < 20) (hk : k < 8) (h10 : S0.1 17 d ≤ 10) (h3 : S0.1 20 d ≤ 3) (hm : ∀ p, p < S0.1 17 d → S0.1 18 (10 * d + p) < 60) (hR : RT S' T') (hc : CC S0 S' k) :
    ∃ S'' T'', h_R_keeps N (i32 k) (i32 d) T' = some T'' ∧ RT S'' T'' ∧ CC S0 S'' k ∧ PD S0 k S' S'' ∧ KD S0 S'' k d ∧ Fi kF T' T'' := by
  obtain ⟨S1, a1, a2, a3, a4⟩ := st_N hR hc (x := 51) (y := d) (by decide) hd
  have a1 : RT S1 (tsI T' 51 (20 * k + d) (T'.1 17 d)) := a1
  obtain ⟨S2, b1, b2, b3, b4⟩ := st_N a1 a2 (x := 52) (y := d) (by decide) hd
  have b1 : RT S2 (tsI (tsI T' 51 (20 * k + d) (T'.1 17 d)) 52 (20 * k + d) ((tsI T' 51 (20 * k + d) (T'.1 17 d)).1 20 d)) := b1
  obtain ⟨S3, T3, u1, u2, u3, u4, u5, u6⟩ := kp38_go hN hd hk h3 (S0.1 20 d) N 0 S2 _ b1 b2 (by omega) (by omega)
  obtain ⟨S4, T4, w1, w2, w3, w4, w5, w6⟩ := kp122_go hN hd hk h10 hm (S0.1 17 d) N 0 S3 T3 u2 u3 (by omega) (by omega)
  refine ⟨S4, T4, ?_, w2, w3, (a3.trans b3).trans (u4.trans w4), ⟨w4.1 _ _ (u4.1 _ _ (b3.1 _ _ a4)), w4.1 _ _ (u4.1 _ _ b4), fun p hp => w5 p (Nat.zero_le _) hp, fun i hi => (u5 i (Nat.zero_le _) hi).pd w4⟩, ((fi_I (by decide)).trans (fi_I (by decide))).trans (u6.trans w6)⟩
  unfold h_R_keeps
  rw [show (20 : Int32) * i32 k + i32 d = i32 (20 * k + d) from by rw [show (20 : Int32) = i32 20 from rfl, i32_mul, i32_add], show (3 : Int32) * i32 d = i32 (3 * d) from by rw [show (3 : Int32) = i32 3 from rfl, i32_mul]]
  simp only [jrg_i32 hd (show 20 < 2 ^ 31 by decide), jrg_i32 (show 20 * k + d < 160 by omega) (show 160 < 2 ^ 31 by decide), obd_some, jlet_eq]
  exact u1.trans w1
theorem keep36_go {N : Nat} (hN : 100 ≤ N) {t : TR} (hk : k < 8) (h44 : S0.1 44 0 = k) (hts : TS S0 t) : ∀ (q n i : Nat) (S' : ST) (T' : MT), RT S' T' → CC S0 S' k → TM T' t → t.1 = i + q → q < n →
    ∃ S'' T'', h_R_keep_36 N n (i32 i) T' = some (i32 k, tsI T'' 44 0 (i32 (k + 1))) ∧ RT S'' T'' ∧ CC S0 S'' k ∧ PD S0 k S' S'' ∧ (∀ x, i ≤ x → x < t.1 → KD S0 S'' k (t.2 x)) ∧ Fi kF T' T''
  | 0, 0, _, _, _, _, _, _, _, h => absurd h (by omega)
  | 0, n + 1, i, S', T', hR, hc, hM, hi, _ => by
    have := hts.1
    refine ⟨S', T', ?_, hR, hc, PD.refl, fun x h1 h2 => absurd h2 (by omega), Fi.refl _ _⟩
    have e44 : T'.1 44 0 = i32 k := by rw [hR.2.1 44 (by decide), cc_N hc (x := 44) rfl, h44]
    unfold h_R_keep_36
    rw [hM.1, if_pos (by rw [i32_le (by omega) (by omega)]; omega), e44, show i32 k + 1 = i32 (k + 1) from i32_add k 1, jlet_eq]
    have e2 : (tsI T' 44 0 (i32 (k + 1))).1 44 0 = i32 (k + 1) := by simp [tsI, up2]
    rw [e2, show i32 (k + 1) - 1 = i32 k from i32_sub (a := k + 1) (b := 1) (by omega)]
  | q + 1, 0, _, _, _, _, _, _, _, h => absurd h (by omega)
  | q + 1, n + 1, i, S', T', hR, hc, hM, hi, hn => by
    have := hts.1
    obtain ⟨s1, s2, s3, s4⟩ := hts.2 i (by omega)
    have e44 : T'.1 44 0 = i32 k := by rw [hR.2.1 44 (by decide), cc_N hc (x := 44) rfl, h44]
    obtain ⟨S1, T1, u1, u2, u3, u4, u5, u6⟩ := keeps_ref hN s1 hk s2 s3 s4 hR hc
    obtain ⟨S2, T2, w1, w2, w3, w4, w5, w6⟩ := keep36_go hN hk h44 hts q n (i + 1) S1 T1 u2 u3 ⟨by rw [u6.1 42 (by decide)]; exact hM.1, fun a ha => by rw [u6.1 43 (by decide)]; exact hM.2 a ha⟩ (by omega) (by omega)
    refine ⟨S2, T2, ?_, w2, w3, u4.trans w4, fun x h1 h2 => ?_, u6.trans w6⟩
    · unfold h_R_keep_36
      rw [hM.1, if_neg (by rw [i32_le (by omega) (by omega)]; omega), jrg_i32 (by omega) (by decide), obd_some, hM.2 i (by omega), e44, u1, obd_some, show i32 i + 1 = i32 (i + 1) from i32_add i 1]
      exact w1
    · by_cases e : x = i
      · subst e; exact u5.pd w4
      · exact w5 x (by omega) h2
end KREF
