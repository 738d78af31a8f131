/-! walks over a map of the numbers below Z -/
section CYC
variable {Z : Nat} {f : Nat → Nat} {μ : Nat → Nat}
def it (f : Nat → Nat) : Nat → Nat → Nat
  | 0, v => v
  | n + 1, v => f (it f n v)
theorem it_add (f : Nat → Nat) (v b : Nat) : ∀ a, it f (a + b) v = it f a (it f b v)
  | 0 => by rw [Nat.zero_add]; rfl
  | a + 1 => by
    rw [show a + 1 + b = a + b + 1 by omega]
    show f (it f (a + b) v) = f (it f a (it f b v))
    rw [it_add f v b a]
theorem it_lt (hf : ∀ i, i < Z → f i < Z) {v : Nat} (hv : v < Z) : ∀ n, it f n v < Z
  | 0 => hv
  | n + 1 => hf _ (it_lt hf hv n)
def anyb (P : Nat → Bool) : Nat → Bool
  | 0 => false
  | n + 1 => anyb P n || P n
theorem anyb_iff {P : Nat → Bool} : ∀ {n : Nat}, anyb P n = true ↔ ∃ i, i < n ∧ P i = true
  | 0 => ⟨fun h => (by cases h), fun ⟨i, h, _⟩ => absurd h (Nat.not_lt_zero _)⟩
  | n + 1 => by
    show (anyb P n || P n) = true ↔ _
    rw [Bool.or_eq_true, anyb_iff (n := n)]
    constructor
    · rintro (⟨i, h1, h2⟩ | h)
      · exact ⟨i, by omega, h2⟩
      · exact ⟨n, by omega, h⟩
    · rintro ⟨i, h1, h2⟩
      by_cases e : i = n
      · subst e; exact Or.inr h2
      · exact Or.inl ⟨i, by omega, h2⟩
/-- the first from j on, of q, that has it -/
def fsb (P : Nat → Bool) : Nat → Nat → Nat
  | 0, j => j
  | q + 1, j => if P j = true then j else fsb P q (j + 1)
theorem fsb_ge {P : Nat → Bool} : ∀ (q j : Nat), j ≤ fsb P q j ∧ fsb P q j ≤ j + q
  | 0, j => ⟨Nat.le_refl _, Nat.le_refl _⟩
  | q + 1, j => by
    show j ≤ (if P j = true then j else fsb P q (j + 1)) ∧ (if P j = true then j else fsb P q (j + 1)) ≤ _
    have ih := fsb_ge (P := P) q (j + 1)
    split
    · exact ⟨Nat.le_refl _, by omega⟩
    · exact ⟨by omega, by omega⟩
theorem fsb_no {P : Nat → Bool} : ∀ (q j i : Nat), j ≤ i → i < fsb P q j → P i = false
  | 0, j, i, h1, h2 => by
    have h2 : i < j := h2
    omega
  | q + 1, j, i, h1, h2 => by
    have h2 : i < (if P j = true then j else fsb P q (j + 1)) := h2
    by_cases h : P j = true
    · rw [if_pos h] at h2
      omega
    · rw [if_neg h] at h2
      by_cases e : i = j
      · subst e; exact Bool.eq_false_iff.mpr h
      · exact fsb_no q (j + 1) i (by omega) h2
theorem fsb_yes {P : Nat → Bool} : ∀ (q j i : Nat), j ≤ i → i < j + q → P i = true → P (fsb P q j) = true ∧ fsb P q j ≤ i
  | 0, j, i, h1, h2, _ => by omega
  | q + 1, j, i, h1, h2, h3 => by
    show P (if P j = true then j else fsb P q (j + 1)) = true ∧ (if P j = true then j else fsb P q (j + 1)) ≤ i
    by_cases h : P j = true
    · rw [if_pos h]; exact ⟨h, h1⟩
    · rw [if_neg h]
      exact fsb_yes q (j + 1) i (by
        by_cases e : i = j
        · subst e; exact absurd h3 h
        · omega) (by omega) h3
/-- where a walk from v ends -/
def stp (f : Nat → Nat) (μ : Nat → Nat) (v j : Nat) : Bool := decide (μ (it f j v) ≠ 0) || anyb (fun a => decide (it f a v = it f j v)) j
def cOf (Z : Nat) (f : Nat → Nat) (μ : Nat → Nat) (v : Nat) : Nat := fsb (stp f μ v) (Z + 1) 0
theorem stp_iff {v j : Nat} : stp f μ v j = true ↔ μ (it f j v) ≠ 0 ∨ ∃ a, a < j ∧ it f a v = it f j v := by
  unfold stp
  rw [Bool.or_eq_true, decide_eq_true_iff, anyb_iff]
  constructor
  · rintro (h | ⟨a, h1, h2⟩)
    · exact Or.inl h
    · exact Or.inr ⟨a, h1, of_decide_eq_true h2⟩
  · rintro (h | ⟨a, h1, h2⟩)
    · exact Or.inl h
    · exact Or.inr ⟨a, h1, decide_eq_true h2⟩
theorem c_no {v j : Nat} (h : j < cOf Z f μ v) : μ (it f j v) = 0 ∧ ∀ a, a < j → it f a v ≠ it f j v := by
  have := fsb_no (P := stp f μ v) (Z + 1) 0 j (Nat.zero_le _) h
  refine ⟨Classical.byContradiction fun q => ?_, fun a ha q => ?_⟩
  · rw [stp_iff.mpr (Or.inl q)] at this; cases this
  · rw [stp_iff.mpr (Or.inr ⟨a, ha, q⟩)] at this; cases this
theorem c_inj {v a b : Nat} (ha : a < cOf Z f μ v) (hb : b < cOf Z f μ v) (h : it f a v = it f b v) : a = b := by
  rcases Nat.lt_trichotomy a b with q | q | q
  · exact absurd h ((c_no hb).2 a q)
  · exact q
  · exact absurd h.symm ((c_no ha).2 b q)
theorem c_yes (hf : ∀ i, i < Z → f i < Z) {v : Nat} (hv : v < Z) : cOf Z f μ v ≤ Z ∧ (μ (it f (cOf Z f μ v) v) ≠ 0 ∨ ∃ a, a < cOf Z f μ v ∧ it f a v = it f (cOf Z f μ v) v) := by
  have ex : ∃ i, i < Z + 1 ∧ stp f μ v i = true := by
    apply Classical.byContradiction
    intro h
    have hno : ∀ j, j < Z + 1 → ∀ a, a < j → it f a v ≠ it f j v := fun j hj a ha q => h ⟨j, hj, stp_iff.mpr (Or.inr ⟨a, ha, q⟩)⟩
    have := pig Z (Z + 1) (fun j => it f j v) (fun a _ => it_lt hf hv a) (fun a b ha hb hab => by
      rcases Nat.lt_trichotomy a b with q | q | q
      · exact absurd hab (hno b hb a q)
      · exact q
      · exact absurd hab.symm (hno a ha b q))
    omega
  obtain ⟨i, h1, h2⟩ := ex
  obtain ⟨g1, g2⟩ := fsb_yes (P := stp f μ v) (Z + 1) 0 i (Nat.zero_le _) (by omega) h2
  exact ⟨by unfold cOf; omega, stp_iff.mp g1⟩
/-- along a walk numbers are set -/
def mk (f : Nat → Nat) (v y : Nat) : Nat → (Nat → Nat) → Nat → Nat
  | 0, μ => μ
  | j + 1, μ => up1 (mk f v y j μ) (it f j v) y
theorem mk_eq {v y : Nat} : ∀ (j : Nat) (i : Nat), mk f v y j μ i = if anyb (fun a => decide (it f a v = i)) j = true then y else μ i
  | 0, i => by
    exact (if_neg (show ¬ (false = true) by decide)).symm
  | j + 1, i => by
    show (if i = it f j v then y else mk f v y j μ i) = if (anyb (fun a => decide (it f a v = i)) j || decide (it f j v = i)) = true then y else μ i
    rw [mk_eq j i]
    by_cases h : i = it f j v
    · rw [if_pos h, if_pos (by rw [Bool.or_eq_true]; exact Or.inr (decide_eq_true h.symm))]
    · rw [if_neg h, decide_eq_false (fun q => h q.symm), Bool.or_false]
theorem mk_on {v y j a : Nat} (h : a < j) : mk f v y j μ (it f a v) = y := by
  rw [mk_eq, if_pos (anyb_iff.mpr ⟨a, h, decide_eq_true rfl⟩)]
theorem mk_off {v y j i : Nat} (h : ∀ a, a < j → it f a v ≠ i) : mk f v y j μ i = μ i := by
  rw [mk_eq, if_neg (fun q => by
    obtain ⟨a, h1, h2⟩ := anyb_iff.mp q
    exact h a h1 (of_decide_eq_true h2))]
theorem mk_mk {v y z : Nat} (c : Nat) : mk f v z c (mk f v y c μ) = mk f v z c μ := by
  funext i
  by_cases h : anyb (fun a => decide (it f a v = i)) c = true
  · rw [mk_eq, if_pos h, mk_eq, if_pos h]
  · rw [mk_eq, if_neg h, mk_eq, if_neg h, mk_eq, if_neg h]
/-- a cycle from one of its places: how long it is, its least place -/
def per (Z : Nat) (f : Nat → Nat) (k : Nat) : Nat := fsb (fun t => decide (it f (t + 1) k = k)) Z 0 + 1
def mnl (f : Nat → Nat) (k : Nat) : Nat → Nat
  | 0 => k
  | n + 1 => min (mnl f k n) (it f n k)
theorem per_of {k t : Nat} (h1 : 1 ≤ t) (h2 : t ≤ Z) (h : it f t k = k) : it f (per Z f k) k = k ∧ per Z f k ≤ t ∧ 1 ≤ per Z f k ∧ ∀ j, 1 ≤ j → j < per Z f k → it f j k ≠ k := by
  obtain ⟨g1, g2⟩ := fsb_yes (P := fun t => decide (it f (t + 1) k = k)) Z 0 (t - 1) (Nat.zero_le _) (by omega) (decide_eq_true (by rw [show t - 1 + 1 = t by omega]; exact h))
  refine ⟨of_decide_eq_true g1, by unfold per; omega, Nat.le_add_left _ _, fun j hj hp q => ?_⟩
  have := fsb_no (P := fun t => decide (it f (t + 1) k = k)) Z 0 (j - 1) (Nat.zero_le _) (by unfold per at hp; omega)
  rw [show j - 1 + 1 = j by omega, decide_eq_true q] at this
  cases this
theorem mnl_in (k : Nat) : ∀ n, 1 ≤ n → ∃ j, j < n ∧ mnl f k n = it f j k
  | 0, h => by omega
  | 1, _ => ⟨0, by omega, by show min k k = k; omega⟩
  | n + 2, _ => by
    obtain ⟨j, h1, h2⟩ := mnl_in k (n + 1) (by omega)
    have e : mnl f k (n + 2) = min (mnl f k (n + 1)) (it f (n + 1) k) := rfl
    by_cases h : mnl f k (n + 1) ≤ it f (n + 1) k
    · exact ⟨j, by omega, by rw [e, Nat.min_eq_left h, h2]⟩
    · exact ⟨n + 1, by omega, by rw [e, Nat.min_eq_right (by omega)]⟩
/-! counting -/
theorem cnt_up {g h : Nat → Bool} {x : Nat} : ∀ {n : Nat}, x < n → g x = true → h x = false → (∀ i, i < n → i ≠ x → g i = h i) → cnt g n = cnt h n + 1
  | 0, hx, _, _, _ => absurd hx (Nat.not_lt_zero _)
  | n + 1, hx, h1, h2, h3 => by
    have e1 : cnt g (n + 1) = cnt g n + (if g n then 1 else 0) := rfl
    have e2 : cnt h (n + 1) = cnt h n + (if h n then 1 else 0) := rfl
    rw [e1, e2]
    by_cases e : x = n
    · subst e
      rw [h1, h2, cnt_congr (f := g) (g := h) (fun i hi => h3 i (by omega) (by omega))]
      rfl
    · rw [cnt_up (n := n) (by omega) h1 h2 (fun i hi hne => h3 i (by omega) hne), h3 n (by omega) (Ne.symm e)]
      omega
theorem cnt_full {g : Nat → Bool} : ∀ {n : Nat}, cnt g n ≤ n
  | 0 => Nat.le_refl _
  | n + 1 => by
    have := cnt_full (g := g) (n := n)
    show cnt g n + (if g n then 1 else 0) ≤ n + 1
    split <;> omega
/-- how many are marked after a walk -/
theorem cnt_mk {v y : Nat} (hf : ∀ i, i < Z → f i < Z) (hv : v < Z) (hy : y ≠ 0) : ∀ c, c ≤ cOf Z f μ v → cnt (fun i => decide (mk f v y c μ i ≠ 0)) Z = cnt (fun i => decide (μ i ≠ 0)) Z + c
  | 0, _ => rfl
  | c + 1, hc => by
    have ih := cnt_mk (y := y) hf hv hy c (by omega)
    obtain ⟨h1, h2⟩ := c_no (show c < cOf Z f μ v by omega)
    have e0 : mk f v y c μ (it f c v) = 0 := by rw [mk_off (fun a ha => h2 a ha)]; exact h1
    have := cnt_up (n := Z) (x := it f c v) (g := fun i => decide (mk f v y (c + 1) μ i ≠ 0)) (h := fun i => decide (mk f v y c μ i ≠ 0)) (it_lt hf hv c) (by
      refine decide_eq_true ?_
      show up1 (mk f v y c μ) (it f c v) y (it f c v) ≠ 0
      unfold up1
      rw [if_pos rfl]; exact hy) (decide_eq_false (fun q => q e0)) (fun i _ hne => by
      show decide (up1 (mk f v y c μ) (it f c v) y i ≠ 0) = _
      unfold up1
      rw [if_neg hne])
    rw [this, ih]; omega
/-! the run: marks, cycles, their leasts, their sizes, how many lead to them -/
abbrev QS : Type := (Nat → Nat) × Nat × (Nat → Nat) × (Nat → Nat) × (Nat → Nat)
def wlk (Z : Nat) (f : Nat → Nat) (v : Nat) (s : QS) : QS :=
  if cOf Z f s.1 v = 0 then s
  else if s.1 (it f (cOf Z f s.1 v) v) ≠ 0 then
    (mk f v (s.1 (it f (cOf Z f s.1 v) v)) (cOf Z f s.1 v) s.1, s.2.1, s.2.2.1, s.2.2.2.1, up1 s.2.2.2.2 (s.1 (it f (cOf Z f s.1 v) v) - (Z + 1)) (s.2.2.2.2 (s.1 (it f (cOf Z f s.1 v) v) - (Z + 1)) + cOf Z f s.1 v))
  else
    (mk f v (Z + 1 + s.2.1) (cOf Z f s.1 v) s.1, s.2.1 + 1, up1 s.2.2.1 s.2.1 (mnl f (it f (cOf Z f s.1 v) v) (per Z f (it f (cOf Z f s.1 v) v))), up1 s.2.2.2.1 s.2.1 (per Z f (it f (cOf Z f s.1 v) v)), up1 s.2.2.2.2 s.2.1 (cOf Z f s.1 v))
def rnf (Z : Nat) (f : Nat → Nat) : Nat → QS
  | 0 => (fun _ => 0, 0, fun _ => 0, fun _ => 0, fun _ => 0)
  | v + 1 => wlk Z f v (rnf Z f v)
def QI (Z v : Nat) (s : QS) : Prop :=
  (∀ i, i < Z → s.1 i = 0 ∨ Z < s.1 i ∧ s.1 i ≤ Z + s.2.1) ∧ (∀ i, i < v → s.1 i ≠ 0) ∧ (∀ w, w < s.2.1 → s.2.2.1 w < Z ∧ s.1 (s.2.2.1 w) = Z + 1 + w) ∧ (∀ w, w < s.2.1 → 1 ≤ s.2.2.2.1 w ∧ s.2.2.2.1 w ≤ Z) ∧ ∀ w, w < s.2.1 → s.2.2.2.2 w ≤ cnt (fun i => decide (s.1 i ≠ 0)) Z
theorem qi_cy {v : Nat} {s : QS} (h : QI Z v s) : s.2.1 ≤ Z := pig Z s.2.1 s.2.2.1 (fun a ha => (h.2.2.1 a ha).1) (fun a b ha hb hab => by
  have h1 := (h.2.2.1 a ha).2
  have h2 := (h.2.2.1 b hb).2
  rw [hab] at h1
  omega)
/-- the end of a walk that meets itself -/
theorem own_end (hf : ∀ i, i < Z → f i < Z) {v : Nat} (hv : v < Z) (h0 : μ (it f (cOf Z f μ v) v) = 0) : ∃ a, a < cOf Z f μ v ∧ it f a v = it f (cOf Z f μ v) v ∧ it f (per Z f (it f (cOf Z f μ v) v)) (it f (cOf Z f μ v) v) = it f (cOf Z f μ v) v ∧ 1 ≤ per Z f (it f (cOf Z f μ v) v) ∧ a + per Z f (it f (cOf Z f μ v) v) ≤ cOf Z f μ v ∧
    (∀ j, 1 ≤ j → j < per Z f (it f (cOf Z f μ v) v) → it f j (it f (cOf Z f μ v) v) ≠ it f (cOf Z f μ v) v) ∧ ∀ j, it f j (it f (cOf Z f μ v) v) = it f (a + j) v := by
  obtain ⟨c1, c2⟩ := c_yes (μ := μ) hf hv
  rcases c2 with h | ⟨a, a1, a2⟩
  · exact absurd h0 h
  · have e : ∀ j, it f j (it f (cOf Z f μ v) v) = it f (a + j) v := fun j => by rw [← a2, ← it_add, Nat.add_comm]
    have ht : it f (cOf Z f μ v - a) (it f (cOf Z f μ v) v) = it f (cOf Z f μ v) v := by rw [e, show a + (cOf Z f μ v - a) = cOf Z f μ v by omega]
    obtain ⟨p1, p2, p3, p4⟩ := per_of (Z := Z) (show 1 ≤ cOf Z f μ v - a by omega) (by omega) ht
    exact ⟨a, a1, a2, p1, p3, by omega, p4, e⟩
theorem qi_wlk (hf : ∀ i, i < Z → f i < Z) {v : Nat} (hv : v < Z) {s : QS} (h : QI Z v s) : QI Z (v + 1) (wlk Z f v s) := by
  obtain ⟨μ, cy, le, si, ba⟩ := s
  obtain ⟨q1, q2, q3, q4, q5⟩ := h
  have q1 : ∀ i, i < Z → μ i = 0 ∨ Z < μ i ∧ μ i ≤ Z + cy := q1
  have q2 : ∀ i, i < v → μ i ≠ 0 := q2
  have q3 : ∀ w, w < cy → le w < Z ∧ μ (le w) = Z + 1 + w := q3
  have q4 : ∀ w, w < cy → 1 ≤ si w ∧ si w ≤ Z := q4
  have q5 : ∀ w, w < cy → ba w ≤ cnt (fun i => decide (μ i ≠ 0)) Z := q5
  obtain ⟨c1, c2⟩ := c_yes (μ := μ) hf hv
  have hlt := it_lt hf hv (cOf Z f μ v)
  unfold wlk
  show QI Z (v + 1) (if cOf Z f μ v = 0 then (μ, cy, le, si, ba) else if μ (it f (cOf Z f μ v) v) ≠ 0 then (mk f v (μ (it f (cOf Z f μ v) v)) (cOf Z f μ v) μ, cy, le, si, up1 ba (μ (it f (cOf Z f μ v) v) - (Z + 1)) (ba (μ (it f (cOf Z f μ v) v) - (Z + 1)) + cOf Z f μ v))
    else (mk f v (Z + 1 + cy) (cOf Z f μ v) μ, cy + 1, up1 le cy (mnl f (it f (cOf Z f μ v) v) (per Z f (it f (cOf Z f μ v) v))), up1 si cy (per Z f (it f (cOf Z f μ v) v)), up1 ba cy (cOf Z f μ v)))
  by_cases h0 : cOf Z f μ v = 0
  · rw [if_pos h0]
    refine ⟨q1, fun i hi => ?_, q3, q4, q5⟩
    by_cases e : i = v
    · subst e
      rw [h0] at c2
      rcases c2 with z | ⟨a, z, -⟩
      · exact z
      · omega
    · exact q2 i (by omega)
  · rw [if_neg h0]
    have hon : ∀ {y : Nat} {i : Nat}, y ≠ 0 → μ i ≠ 0 → mk f v y (cOf Z f μ v) μ i = μ i := fun {y i} _ hi => mk_off (fun a ha q => hi (by rw [← q]; exact (c_no ha).1))
    have hcy : ∀ {y : Nat}, y ≠ 0 → ∀ i, i < v + 1 → mk f v y (cOf Z f μ v) μ i ≠ 0 := fun {y} hy i hi => by
      by_cases e : i = v
      · subst e
        have : mk f i y (cOf Z f μ i) μ (it f 0 i) = y := mk_on (by omega)
        have e2 : it f 0 i = i := rfl
        rw [e2] at this
        rw [this]; exact hy
      · rw [hon hy (q2 i (by omega))]; exact q2 i (by omega)
    by_cases h1 : μ (it f (cOf Z f μ v) v) ≠ 0
    · rw [if_pos h1]
      have hy := q1 _ hlt
      generalize hyy : μ (it f (cOf Z f μ v) v) = y at *
      have hcm := cnt_mk (μ := μ) (y := y) hf hv h1 (cOf Z f μ v) (Nat.le_refl _)
      refine ⟨fun i hi => ?_, hcy h1, fun w hw => ⟨(q3 w hw).1, ?_⟩, q4, fun w hw => ?_⟩
      · show mk f v y (cOf Z f μ v) μ i = 0 ∨ Z < mk f v y (cOf Z f μ v) μ i ∧ mk f v y (cOf Z f μ v) μ i ≤ Z + cy
        rw [mk_eq]
        by_cases z : anyb (fun a => decide (it f a v = i)) (cOf Z f μ v) = true
        · rw [if_pos z]
          rcases hy with hy | hy
          · exact absurd hy h1
          · exact Or.inr hy
        · rw [if_neg z]; exact q1 i hi
      · show mk f v y (cOf Z f μ v) μ (le w) = _
        rw [hon h1 (by rw [(q3 w hw).2]; omega)]
        exact (q3 w hw).2
      · show up1 ba (y - (Z + 1)) (ba (y - (Z + 1)) + cOf Z f μ v) w ≤ cnt (fun i => decide (mk f v y (cOf Z f μ v) μ i ≠ 0)) Z
        rw [hcm]
        unfold up1
        by_cases e : w = y - (Z + 1)
        · rw [if_pos e]
          have := q5 w hw
          rw [e] at this
          omega
        · rw [if_neg e]
          have := q5 w hw
          omega
    · rw [if_neg h1]
      have h1 : μ (it f (cOf Z f μ v) v) = 0 := Classical.byContradiction h1
      obtain ⟨a, a1, a2, p1, p2, p3, p4, p5⟩ := own_end hf hv h1
      have hy : Z + 1 + cy ≠ 0 := by omega
      have hcm := cnt_mk (μ := μ) (y := Z + 1 + cy) hf hv hy (cOf Z f μ v) (Nat.le_refl _)
      obtain ⟨j, j1, j2⟩ := mnl_in (f := f) (it f (cOf Z f μ v) v) _ p2
      generalize hP : per Z f (it f (cOf Z f μ v) v) = P at *
      rw [p5] at j2
      have hlow : mnl f (it f (cOf Z f μ v) v) P < Z := by rw [j2]; exact it_lt hf hv _
      have hmk : mk f v (Z + 1 + cy) (cOf Z f μ v) μ (mnl f (it f (cOf Z f μ v) v) P) = Z + 1 + cy := by rw [j2]; exact mk_on (by omega)
      refine ⟨fun i hi => ?_, hcy hy, fun w hw => ?_, fun w hw => ?_, fun w hw => ?_⟩
      · show mk f v (Z + 1 + cy) (cOf Z f μ v) μ i = 0 ∨ Z < mk f v (Z + 1 + cy) (cOf Z f μ v) μ i ∧ mk f v (Z + 1 + cy) (cOf Z f μ v) μ i ≤ Z + (cy + 1)
        rw [mk_eq]
        by_cases z : anyb (fun a => decide (it f a v = i)) (cOf Z f μ v) = true
        · rw [if_pos z]
          exact Or.inr ⟨by omega, by omega⟩
        · rw [if_neg z]
          have := q1 i hi
          omega
      · have hw : w < cy + 1 := hw
        show up1 le cy (mnl f (it f (cOf Z f μ v) v) P) w < Z ∧ mk f v (Z + 1 + cy) (cOf Z f μ v) μ (up1 le cy (mnl f (it f (cOf Z f μ v) v) P) w) = _
        unfold up1
        by_cases e : w = cy
        · rw [if_pos e]
          exact ⟨hlow, by rw [hmk, e]⟩
        · rw [if_neg e]
          have := q3 w (by omega)
          refine ⟨this.1, ?_⟩
          rw [hon hy (by rw [this.2]; omega)]
          exact this.2
      · have hw : w < cy + 1 := hw
        show 1 ≤ up1 si cy P w ∧ up1 si cy P w ≤ Z
        unfold up1
        by_cases e : w = cy
        · rw [if_pos e]
          exact ⟨p2, by omega⟩
        · rw [if_neg e]
          exact q4 w (by omega)
      · have hw : w < cy + 1 := hw
        show up1 ba cy (cOf Z f μ v) w ≤ cnt (fun i => decide (mk f v (Z + 1 + cy) (cOf Z f μ v) μ i ≠ 0)) Z
        rw [hcm]
        unfold up1
        by_cases e : w = cy
        · rw [if_pos e]; omega
        · rw [if_neg e]
          have := q5 w (by omega)
          omega
theorem qi_rnf (hf : ∀ i, i < Z → f i < Z) : ∀ v, v ≤ Z → QI Z v (rnf Z f v)
  | 0, _ => ⟨fun i _ => Or.inl rfl, fun i hi => absurd hi (Nat.not_lt_zero _), fun w hw => absurd hw (Nat.not_lt_zero _), fun w hw => absurd hw (Nat.not_lt_zero _), fun w hw => absurd hw (Nat.not_lt_zero _)⟩
  | v + 1, h => qi_wlk hf (by omega) (qi_rnf hf v (by omega))
/-- a place that is the least of its cycle -/
def isL (Z : Nat) (s : QS) (v : Nat) : Bool := decide (Z < s.1 v) && decide (s.2.2.1 (s.1 v - (Z + 1)) = v)
theorem isL_iff {n : Nat} {s : QS} (h : QI Z n s) {v : Nat} (hv : v < Z) : isL Z s v = true ↔ ∃ w, w < s.2.1 ∧ s.2.2.1 w = v := by
  unfold isL
  rw [Bool.and_eq_true, decide_eq_true_iff, decide_eq_true_iff]
  constructor
  · rintro ⟨h1, h2⟩
    rcases h.1 v hv with z | z
    · omega
    · exact ⟨s.1 v - (Z + 1), by omega, h2⟩
  · rintro ⟨w, w1, w2⟩
    have := (h.2.2.1 w w1).2
    rw [w2] at this
    exact ⟨by omega, by rw [this, show Z + 1 + w - (Z + 1) = w by omega]; exact w2⟩
theorem isL_w {n : Nat} {s : QS} (h : QI Z n s) {w : Nat} (hw : w < s.2.1) : isL Z s (s.2.2.1 w) = true ∧ s.1 (s.2.2.1 w) - (Z + 1) = w := by
  have := h.2.2.1 w hw
  exact ⟨(isL_iff h this.1).mpr ⟨w, hw, rfl⟩, by rw [this.2]; omega⟩
theorem cnt_img {le : Nat → Nat} : ∀ {n : Nat}, (∀ w, w < n → le w < Z) → (∀ a b, a < n → b < n → le a = le b → a = b) → cnt (fun v => anyb (fun w => decide (le w = v)) n) Z = n
  | 0, _, _ => by
    have : ∀ m, cnt (fun _ : Nat => false) m = 0 := fun m => by
      induction m with
      | zero => rfl
      | succ m ih => show cnt (fun _ : Nat => false) m + 0 = 0; rw [ih]
    exact this Z
  | n + 1, h1, h2 => by
    have ih := cnt_img (le := le) (n := n) (fun w hw => h1 w (by omega)) (fun a b ha hb => h2 a b (by omega) (by omega))
    have := cnt_up (n := Z) (x := le n) (g := fun v => anyb (fun w => decide (le w = v)) (n + 1)) (h := fun v => anyb (fun w => decide (le w = v)) n) (h1 n (by omega)) (anyb_iff.mpr ⟨n, by omega, decide_eq_true rfl⟩) (Bool.eq_false_iff.mpr fun q => by
      obtain ⟨i, i1, i2⟩ := anyb_iff.mp q
      have := h2 i n (by omega) (by omega) (of_decide_eq_true i2)
      omega) (fun i _ hne => by
      show (anyb (fun w => decide (le w = i)) n || decide (le n = i)) = _
      rw [decide_eq_false (fun q => hne q.symm), Bool.or_false])
    rw [this, ih]
theorem cnt_isL {n : Nat} {s : QS} (h : QI Z n s) : cnt (isL Z s) Z = s.2.1 := by
  have e : cnt (isL Z s) Z = cnt (fun v => anyb (fun w => decide (s.2.2.1 w = v)) s.2.1) Z := cnt_congr fun v hv => by
    rw [Bool.eq_iff_iff, isL_iff h hv, anyb_iff]
    exact ⟨fun ⟨w, w1, w2⟩ => ⟨w, w1, decide_eq_true w2⟩, fun ⟨w, w1, w2⟩ => ⟨w, w1, of_decide_eq_true w2⟩⟩
  rw [e]
  refine cnt_img (fun w hw => (h.2.2.1 w hw).1) (fun a b ha hb hab => ?_)
  have h1 := (h.2.2.1 a ha).2
  have h2 := (h.2.2.1 b hb).2
  rw [hab] at h1
  omega
theorem cnt_mono {g : Nat → Bool} {a : Nat} : ∀ {b : Nat}, a ≤ b → cnt g a ≤ cnt g b
  | 0, h => by
    have : a = 0 := by omega
    subst this; exact Nat.le_refl _
  | b + 1, h => by
    by_cases e : a = b + 1
    · subst e; exact Nat.le_refl _
    · exact Nat.le_trans (cnt_mono (b := b) (by omega)) (Nat.le_add_right _ _)
theorem cnt_lt {g : Nat → Bool} {a b : Nat} (h : a < b) (ha : g a = true) : cnt g a < cnt g b := by
  have h1 : cnt g (a + 1) = cnt g a + (if g a then 1 else 0) := rfl
  rw [ha] at h1
  have h2 := cnt_mono (g := g) (show a + 1 ≤ b by omega)
  simp at h1
  omega
end CYC
