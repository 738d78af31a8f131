/-! dead cycles: the class's run -/
section CYCCLS
variable {Z : Nat} {f : Nat → Nat} {μ le si ba : Nat → Nat} {v cy D o t : Nat} {F : Int64} {r l : Int32} {C C' : CT}
/-- the object and its tables -/
def CD (C : CT) (D o t : Nat) (F : Int64) (r l : Int32) : Prop := (C.1 D = 3 ∧ C.2.2.2.1 33 D 0 = F ∧ C.2.2.1 34 D 0 = r ∧ C.2.2.1 35 D 0 = l ∧ C.2.2.2.2.1 37 D 0 = some o ∧ C.2.2.2.2.1 38 D 0 = some t) ∧ (C.1 o = 20 ∧ C.2.1 o = 65536) ∧ C.1 t = 21 ∧ C.2.1 t = 65536
theorem cd_w2 (h : CD C D o t F r l) (w : W2 o t C C') : CD C' D o t F r l := by
  obtain ⟨⟨h1, h2, h3, h4, h5, h6⟩, h7, h8⟩ := h
  exact ⟨⟨by rw [w.1]; exact h1, by rw [w.2.2.2.1 33 D 0 (fun z => absurd z.1 (by decide))]; exact h2, by rw [w.2.2.1 34 D 0 (fun z => absurd z.1 (by decide))]; exact h3, by rw [w.2.2.1 35 D 0 (fun z => absurd z.1 (by decide))]; exact h4, by rw [w.2.2.2.2]; exact h5, by rw [w.2.2.2.2]; exact h6⟩, by rw [w.1, w.2.1]; exact h7, by rw [w.1, w.2.1]; exact h8⟩
theorem w2_I {j : Nat} {x : Int32} : W2 o t C (csI C 900 o j x) := ⟨rfl, rfl, fun k y z q => by
  simp only [csI, up3]
  rw [if_neg (fun w => q ⟨w.1, w.2.1⟩)], fun _ _ _ _ => rfl, rfl⟩
theorem w2_J {j : Nat} {x : Int64} : W2 o t C (csJ C 900 t j x) := ⟨rfl, rfl, fun _ _ _ _ => rfl, fun k y z q => by
  simp only [csJ, up3]
  rw [if_neg (fun w => q ⟨w.1, w.2.1⟩)], rfl⟩
theorem cd_5 (h : CD C D o t F r l) : cgA C D 2 5 = some (some o) := (if_pos h.1.1).trans (congrArg some h.1.2.2.2.2.1)
theorem cd_6 (h : CD C D o t F r l) : cgA C D 2 6 = some (some t) := (if_pos h.1.1).trans (congrArg some h.1.2.2.2.2.2)
theorem cd_cob (h : CD C D o t F r l) : cob C D 2 = true := cob_of (ci := 2) h.1.1
theorem owner_of (h : CD C D o t F r l) {i : Nat} (hi : i < 65536) : c_DeadCycles_ownerOf D (i32 i) C = some (C.2.2.1 900 o i) := by
  unfold c_DeadCycles_ownerOf
  rw [cd_5 h, obd_some, jon_some, if_neg (i32_nonneg (by omega)), obd_some, obd_some, cal_of (n := 65536) (by rw [h.2.1.1]; decide) h.2.1.2, obd_some, if_pos (by rw [i32_lt (by omega) (by decide)]; omega), obd_some, obd_some, caI_of (n := 65536) h.2.1.1 h.2.1.2 hi (by decide), obd_some]
theorem tally_of (h : CD C D o t F r l) {i : Nat} (hi : i < 65536) : c_DeadCycles_tallyOf D (i32 i) C = some (C.2.2.2.1 900 t i) := by
  unfold c_DeadCycles_tallyOf
  rw [cd_6 h, obd_some, jon_some, if_neg (i32_nonneg (by omega)), obd_some, obd_some, cal_of (n := 65536) (by rw [h.2.2.1]; decide) h.2.2.2, obd_some, if_pos (by rw [i32_lt (by omega) (by decide)]; omega), obd_some, obd_some, caJ_of (n := 65536) h.2.2.1 h.2.2.2 hi (by decide), obd_some]
theorem setOwner_of (h : CD C D o t F r l) {i : Nat} (hi : i < 65536) (x : Int32) : c_DeadCycles_setOwner D (i32 i) x C = some (csI C 900 o i x) := by
  unfold c_DeadCycles_setOwner
  rw [cd_5 h, obd_some, jon_some, if_neg (i32_nonneg (by omega)), obd_some, obd_some, cal_of (n := 65536) (by rw [h.2.1.1]; decide) h.2.1.2, obd_some, if_neg (by rw [i32_le (by decide) (by omega)]; omega), obd_some, obd_some, cqI_of (n := 65536) h.2.1.1 h.2.1.2 hi (by decide), obd_some]
theorem setTally_of (h : CD C D o t F r l) {i : Nat} (hi : i < 65536) (x : Int64) : c_DeadCycles_setTally D (i32 i) x C = some (csJ C 900 t i x) := by
  unfold c_DeadCycles_setTally
  rw [cd_6 h, obd_some, jon_some, if_neg (i32_nonneg (by omega)), obd_some, obd_some, cal_of (n := 65536) (by rw [h.2.2.1]; decide) h.2.2.2, obd_some, if_neg (by rw [i32_le (by decide) (by omega)]; omega), obd_some, obd_some, cqJ_of (n := 65536) h.2.2.1 h.2.2.2 hi (by decide), obd_some]
theorem next_of (h : CD C D o t F r l) (i : Nat) : c_DeadCycles_next D (i32 i) C = some (i32 (nx F r l i)) := by
  have e1 : cgJ C D 2 1 = some F := (if_pos h.1.1).trans (congrArg some h.1.2.1)
  have e2 : cgI C D 2 2 = some r := (if_pos h.1.1).trans (congrArg some h.1.2.2.1)
  have e3 : cgI C D 2 3 = some l := (if_pos h.1.1).trans (congrArg some h.1.2.2.2.1)
  rw [← (nx_of F r l i).1]
  unfold c_DeadCycles_next c_DeadCycles_next_38 nxI
  rw [e1, obd_some, e2, obd_some, jlet_eq]
  by_cases hh : g_Shorts_isShort (g_Shorts_rounded (F * Int32.toInt64 (i32 i + (-32768 : Int32))) r) = true
  · rw [if_pos hh, if_pos hh]
  · rw [if_neg hh, if_neg hh, e3, obd_some]
/-- an owner -/
def eo (Z : Nat) (le : Nat → Nat) (x : Nat) : Int32 := if x = 0 then 0 else if x ≤ Z then -1 - i32 (x - 1) else i32 (le (x - (Z + 1)) + 1)
theorem eo_int (hZ : Z = 65536) {x : Nat} (hl : Z < x → le (x - (Z + 1)) < Z) : (eo Z le x).toInt = if x = 0 then 0 else if x ≤ Z then -(x : Int) else (le (x - (Z + 1)) : Int) + 1 := by
  unfold eo
  by_cases h0 : x = 0
  · rw [if_pos h0, if_pos h0]; rfl
  · rw [if_neg h0, if_neg h0]
    by_cases h1 : x ≤ Z
    · rw [if_pos h1, if_pos h1, tI_sub (show (-1 : Int32).toInt = -1 from rfl) (i32_toInt (n := x - 1) (by omega)) (by omega) (by omega)]
      omega
    · have := hl (by omega)
      rw [if_neg h1, if_neg h1, i32_toInt (by omega)]
      omega
theorem eo_zero (hZ : Z = 65536) {x : Nat} (hl : Z < x → le (x - (Z + 1)) < Z) : eo Z le x = 0 ↔ x = 0 := by
  constructor
  · intro h
    have e := congrArg Int32.toInt h
    rw [eo_int hZ hl, show (0 : Int32).toInt = 0 from rfl] at e
    by_cases h0 : x = 0
    · exact h0
    · rw [if_neg h0] at e
      split at e <;> omega
  · intro h
    exact if_pos h
theorem eo_walk (hZ : Z = 65536) {x : Nat} (hv : v < Z) (hl : Z < x → le (x - (Z + 1)) < Z) : eo Z le x = -1 - i32 v ↔ x = v + 1 := by
  have e1 : (-1 - i32 v).toInt = -(((v + 1 : Nat)) : Int) := by
    rw [tI_sub (show (-1 : Int32).toInt = -1 from rfl) (i32_toInt (n := v) (by omega)) (by omega) (by omega)]
    omega
  constructor
  · intro h
    have e := congrArg Int32.toInt h
    rw [eo_int hZ hl, e1] at e
    by_cases h0 : x = 0
    · rw [if_pos h0] at e; omega
    · rw [if_neg h0] at e
      split at e <;> omega
  · intro h
    subst h
    unfold eo
    rw [if_neg (by omega), if_pos (by omega), Nat.add_sub_cancel]
theorem eo_cyc {w : Nat} : eo Z le (Z + 1 + w) = i32 (le w + 1) := by
  unfold eo
  rw [if_neg (by omega), if_neg (by omega), show Z + 1 + w - (Z + 1) = w by omega]
def WO (Z : Nat) (C : CT) (o : Nat) (μ le : Nat → Nat) : Prop := ∀ i, i < Z → C.2.2.1 900 o i = eo Z le (μ i)
theorem wo_mark {x y : Nat} {w : Int32} (h : WO Z C o μ le) (hw : w = eo Z le y) : WO Z (csI C 900 o x w) o (up1 μ x y) le := fun i hi => by
  show (if 900 = 900 ∧ o = o ∧ i = x then w else C.2.2.1 900 o i) = eo Z le (up1 μ x y i)
  unfold up1
  by_cases e : i = x
  · rw [if_pos ⟨rfl, rfl, e⟩, if_pos e, hw]
  · rw [if_neg (fun q => e q.2.2), if_neg e]; exact h i hi
/-- marks that are cycles' have leasts -/
def LO (Z cy : Nat) (μ le : Nat → Nat) : Prop := (∀ i, i < Z → μ i = 0 ∨ Z < μ i ∧ μ i ≤ Z + cy) ∧ ∀ w, w < cy → le w < Z
theorem lo_of (h : LO Z cy μ le) {i : Nat} (hi : i < Z) : Z < μ i → le (μ i - (Z + 1)) < Z := fun q => h.2 _ (by rcases h.1 i hi with z | z <;> omega)
theorem lo_mk (h : LO Z cy μ le) (hf : ∀ i, i < Z → f i < Z) (hv : v < Z) {y j i : Nat} (hi : i < Z) (hy : Z < y → le (y - (Z + 1)) < Z) : Z < mk f v y j μ i → le (mk f v y j μ i - (Z + 1)) < Z := by
  rw [mk_eq]
  by_cases z : anyb (fun a => decide (it f a v = i)) j = true
  · rw [if_pos z]; exact hy
  · rw [if_neg z]; exact lo_of h hi
theorem w9_go {N : Nat} (hZ : Z = 65536) (hfx : f = nx F r l) (hf : ∀ i, i < Z → f i < Z) (hv : v < Z) (hL : LO Z cy μ le) : ∀ (q g j : Nat) (C : CT), CD C D o t F r l → WO Z C o (mk f v (v + 1) j μ) le → j + q = cOf Z f μ v → q < g →
    ∃ C', c_DeadCycles_walk_9 N g D (i32 v) (-1 - i32 v) (i32 (it f j v)) (i32 j) C = c_DeadCycles_walk_42 N D (i32 v) (-1 - i32 v) (i32 (it f (cOf Z f μ v) v)) C' ∧ WO Z C' o (mk f v (v + 1) (cOf Z f μ v) μ) le ∧ W2 o t C C' ∧ C'.2.2.2 = C.2.2.2
  | 0, 0, _, _, _, _, _, h => absurd h (by omega)
  | 0, g + 1, j, C, hd, hw, hj, _ => by
    have e : j = cOf Z f μ v := by omega
    subst e
    obtain ⟨c1, c2⟩ := c_yes (μ := μ) hf hv
    have hlt := it_lt hf hv (cOf Z f μ v)
    refine ⟨C, ?_, hw, W2.refl, rfl⟩
    show (if (65536 : Int32) ≤ i32 (cOf Z f μ v) then _ else _) = _
    by_cases h : (65536 : Int32) ≤ i32 (cOf Z f μ v)
    · rw [if_pos h]
    · rw [if_neg h, cd_cob hd, jgd_true, owner_of hd (by omega), obd_some, hw _ hlt]
      have hne : mk f v (v + 1) (cOf Z f μ v) μ (it f (cOf Z f μ v) v) ≠ 0 := by
        rcases c2 with z | ⟨a, a1, a2⟩
        · rw [mk_off (fun a ha w => z (by rw [← w]; exact (c_no ha).1))]; exact z
        · rw [← a2, mk_on a1]; omega
      rw [if_neg (fun z => hne ((eo_zero hZ (lo_mk hL hf hv hlt (fun z => by omega))).mp z))]
  | q + 1, 0, _, _, _, _, _, h => absurd h (by omega)
  | q + 1, g + 1, j, C, hd, hw, hj, hq => by
    obtain ⟨c1, c2⟩ := c_yes (μ := μ) hf hv
    have hlt := it_lt hf hv j
    obtain ⟨n1, n2⟩ := c_no (show j < cOf Z f μ v by omega)
    have e0 : C.2.2.1 900 o (it f j v) = 0 := by
      rw [hw _ hlt, mk_off (fun a ha => n2 a ha), n1]
      exact if_pos rfl
    have h1 : WO Z (csI C 900 o (it f j v) (-1 - i32 v)) o (mk f v (v + 1) (j + 1) μ) le := wo_mark hw ((eo_walk hZ hv (fun z => by omega)).mpr rfl).symm
    have w1 : W2 o t C (csI C 900 o (it f j v) (-1 - i32 v)) := w2_I
    obtain ⟨C', u1, u2, u3, u4⟩ := w9_go (N := N) hZ hfx hf hv hL q g (j + 1) _ (cd_w2 hd w1) h1 (by omega) (by omega)
    refine ⟨C', ?_, u2, w1.trans u3, u4⟩
    rw [← u1]
    show (if (65536 : Int32) ≤ i32 j then _ else _) = _
    rw [if_neg (by rw [show (65536 : Int32) = i32 65536 from rfl, i32_le (by omega) (by omega)]; omega), cd_cob hd, jgd_true, owner_of hd (by omega), obd_some, e0, if_pos rfl, jgd_true, setOwner_of hd (by omega), obd_some, cd_cob (cd_w2 hd w1), jgd_true, next_of (cd_w2 hd w1), obd_some, show i32 j + 1 = i32 (j + 1) from i32_add j 1]
    rw [← hfx]
    rfl
theorem nc14_go {N k P : Nat} (hZ : Z = 65536) (hfx : f = nx F r l) (hf : ∀ i, i < Z → f i < Z) (hk : k < Z) (hP : it f P k = k) (hno : ∀ j, 1 ≤ j → j < P → it f j k ≠ k) (hPZ : P ≤ Z) (hd : CD C D o t F r l) : ∀ (q g u : Nat), u + 1 + q = P → q < g →
    c_DeadCycles_newCycle_14 N g D (i32 k) (i32 (mnl f k (u + 1))) (i32 (u + 1)) (i32 (it f (u + 1) k)) (i32 u) C = c_DeadCycles_newCycle_51 N D (i32 (mnl f k P)) (i32 P) C
  | 0, 0, _, _, h => absurd h (by omega)
  | 0, g + 1, u, hu, _ => by
    have e : u + 1 = P := by omega
    show (if (65536 : Int32) ≤ i32 u then _ else (if i32 (it f (u + 1) k) = i32 k then _ else _)) = _
    rw [if_neg (by rw [show (65536 : Int32) = i32 65536 from rfl, i32_le (by omega) (by omega)]; omega), e, hP, if_pos rfl]
  | q + 1, 0, _, _, h => absurd h (by omega)
  | q + 1, g + 1, u, hu, hq => by
    have hlt := it_lt hf hk (u + 1)
    have hm : mnl f k (u + 1) < Z := by
      obtain ⟨j, j1, j2⟩ := mnl_in (f := f) k (u + 1) (by omega)
      rw [j2]; exact it_lt hf hk j
    have em1 : mnl f k (u + 2) = min (mnl f k (u + 1)) (it f (u + 1) k) := rfl
    have emin : g_JMath_min (i32 (mnl f k (u + 1))) (i32 (it f (u + 1) k)) = i32 (mnl f k (u + 2)) := by
      unfold g_JMath_min
      by_cases h : it f (u + 1) k < mnl f k (u + 1)
      · rw [if_pos ((i32_lt (by omega) (by omega)).mpr h), em1, Nat.min_eq_right (by omega)]
      · rw [if_neg (fun z => h ((i32_lt (by omega) (by omega)).mp z)), em1, Nat.min_eq_left (by omega)]
    rw [← nc14_go (N := N) hZ hfx hf hk hP hno hPZ hd q g (u + 1) (by omega) (by omega)]
    show (if (65536 : Int32) ≤ i32 u then _ else (if i32 (it f (u + 1) k) = i32 k then _ else _)) = _
    rw [if_neg (by rw [show (65536 : Int32) = i32 65536 from rfl, i32_le (by omega) (by omega)]; omega), if_neg (i32_ne (by omega) (by omega) (hno (u + 1) (by omega) (by omega))), cd_cob hd, jgd_true, next_of hd, obd_some, emin, show i32 (u + 1) + 1 = i32 (u + 1 + 1) from i32_add (u + 1) 1, show i32 u + 1 = i32 (u + 1) from i32_add u 1, ← hfx]
    rfl
theorem newCycle_of {N k P : Nat} (hN : 200000 ≤ N) (hZ : Z = 65536) (hfx : f = nx F r l) (hf : ∀ i, i < Z → f i < Z) (hk : k < Z) (hP : it f P k = k) (h1 : 1 ≤ P) (hno : ∀ j, 1 ≤ j → j < P → it f j k ≠ k) (hPZ : P ≤ Z) (hd : CD C D o t F r l) : c_DeadCycles_newCycle N D (i32 k) C = some (i32 (mnl f k P + 1), csJ C 900 t (mnl f k P) (j64 P)) := by
  have hm : mnl f k P < Z := by
    obtain ⟨j, j1, j2⟩ := mnl_in (f := f) k P h1
    rw [j2]; exact it_lt hf hk j
  have e0 : mnl f k 1 = k := by show min k k = k; omega
  have h := nc14_go (N := N) (P := P) hZ hfx hf hk hP hno hPZ hd (P - 1) N 0 (by omega) (by omega)
  rw [e0] at h
  unfold c_DeadCycles_newCycle
  rw [cd_cob hd, jgd_true, next_of hd, obd_some, ← hfx]
  have h : c_DeadCycles_newCycle_14 N N D (i32 k) (i32 k) (1 : Int32) (i32 (f k)) (0 : Int32) C = c_DeadCycles_newCycle_51 N D (i32 (mnl f k P)) (i32 P) C := h
  rw [h]
  unfold c_DeadCycles_newCycle_51
  rw [cd_cob hd, jgd_true, i32_j64 (by omega), setTally_of hd (by omega), obd_some, show i32 (mnl f k P) + (1 : Int32) = i32 (mnl f k P + 1) from i32_add _ 1]
theorem w74_go {N w : Nat} (hZ : Z = 65536) (hfx : f = nx F r l) (hf : ∀ i, i < Z → f i < Z) (hv : v < Z) (hL : LO Z cy μ le) (hw : le w < Z) (hwc : w ≤ cy) {ls : Nat → Nat} (hls : ∀ i, i < cy → ls i = le i) (hlw : ls w = le w) (hend : μ (it f (cOf Z f μ v) v) ≠ 0 ∨ ∃ a, a < cOf Z f μ v ∧ it f a v = it f (cOf Z f μ v) v) : ∀ (q g j : Nat) (C : CT), CD C D o t F r l → WO Z C o (mk f v (Z + 1 + w) j (mk f v (v + 1) (cOf Z f μ v) μ)) ls → j + q = cOf Z f μ v → q < g →
    ∃ C', c_DeadCycles_walk_74 N g D (-1 - i32 v) (i32 (it f j v)) (i32 (le w + 1)) (i32 j) (i32 j) C = c_DeadCycles_walk_112 N D (i32 (le w + 1)) (i32 (cOf Z f μ v)) C' ∧ WO Z C' o (mk f v (Z + 1 + w) (cOf Z f μ v) μ) ls ∧ W2 o t C C' ∧ C'.2.2.2 = C.2.2.2
  | 0, 0, _, _, _, _, _, h => absurd h (by omega)
  | 0, g + 1, j, C, hd, hwo, hj, _ => by
    have e : j = cOf Z f μ v := by omega
    subst e
    obtain ⟨c1, -⟩ := c_yes (μ := μ) hf hv
    have hlt := it_lt hf hv (cOf Z f μ v)
    rw [mk_mk] at hwo
    refine ⟨C, ?_, hwo, W2.refl, rfl⟩
    show (if (65536 : Int32) ≤ i32 (cOf Z f μ v) then _ else _) = _
    by_cases h : (65536 : Int32) ≤ i32 (cOf Z f μ v)
    · rw [if_pos h]
    · rw [if_neg h, cd_cob hd, jgd_true, owner_of hd (by omega), obd_some, hwo _ hlt]
      have hne : mk f v (Z + 1 + w) (cOf Z f μ v) μ (it f (cOf Z f μ v) v) ≠ v + 1 ∧ (Z < mk f v (Z + 1 + w) (cOf Z f μ v) μ (it f (cOf Z f μ v) v) → ls (mk f v (Z + 1 + w) (cOf Z f μ v) μ (it f (cOf Z f μ v) v) - (Z + 1)) < Z) := by
        rcases hend with z | ⟨a, a1, a2⟩
        · rw [mk_off (fun a ha w => z (by rw [← w]; exact (c_no ha).1))]
          have := hL.1 _ hlt
          refine ⟨by omega, fun q => ?_⟩
          rw [hls _ (by omega)]
          exact hL.2 _ (by omega)
        · rw [← a2, mk_on a1]
          refine ⟨by omega, fun _ => ?_⟩
          rw [show Z + 1 + w - (Z + 1) = w by omega, hlw]; exact hw
      rw [if_neg (fun z => hne.1 ((eo_walk hZ hv hne.2).mp z))]
  | q + 1, 0, _, _, _, _, _, h => absurd h (by omega)
  | q + 1, g + 1, j, C, hd, hwo, hj, hq => by
    obtain ⟨c1, -⟩ := c_yes (μ := μ) hf hv
    have hlt := it_lt hf hv j
    have hjc : j < cOf Z f μ v := by omega
    have e0 : C.2.2.1 900 o (it f j v) = -1 - i32 v := by
      rw [hwo _ hlt, mk_off (fun a ha => (c_no hjc).2 a ha), mk_on hjc]
      exact (eo_walk hZ hv (fun z => by omega)).mpr rfl
    have h1 : WO Z (csI C 900 o (it f j v) (i32 (le w + 1))) o (mk f v (Z + 1 + w) (j + 1) (mk f v (v + 1) (cOf Z f μ v) μ)) ls := wo_mark hwo (by rw [eo_cyc, hlw])
    have w1 : W2 o t C (csI C 900 o (it f j v) (i32 (le w + 1))) := w2_I
    obtain ⟨C', u1, u2, u3, u4⟩ := w74_go (N := N) hZ hfx hf hv hL hw hwc hls hlw hend q g (j + 1) _ (cd_w2 hd w1) h1 (by omega) (by omega)
    refine ⟨C', ?_, u2, w1.trans u3, u4⟩
    rw [← u1]
    show (if (65536 : Int32) ≤ i32 j then _ else _) = _
    rw [if_neg (by rw [show (65536 : Int32) = i32 65536 from rfl, i32_le (by omega) (by omega)]; omega), cd_cob hd, jgd_true, owner_of hd (by omega), obd_some, e0, if_pos rfl, jgd_true, setOwner_of hd (by omega), obd_some, cd_cob (cd_w2 hd w1), jgd_true, next_of (cd_w2 hd w1), obd_some, show i32 j + 1 = i32 (j + 1) from i32_add j 1]
    rw [← hfx]
    rfl
/-- what the class holds of a run -/
def tl (si ba : Nat → Nat) (w : Nat) : Int64 := j64 (si w + 4294967296 * ba w)
def WQ (Z : Nat) (C : CT) (o t : Nat) (s : QS) : Prop := WO Z C o s.1 s.2.2.1 ∧ (∀ w, w < s.2.1 → C.2.2.2.1 900 t (s.2.2.1 w) = tl s.2.2.2.1 s.2.2.2.2 w) ∧ ∀ i, i < Z → (∀ w, w < s.2.1 → s.2.2.1 w ≠ i) → C.2.2.2.1 900 t i = 0
theorem w112_of {N x c a b : Nat} (hd : CD C D o t F r l) (hx : x < 65536) (hc : c ≤ 65536) (ht : C.2.2.2.1 900 t x = j64 (a + 4294967296 * b)) : c_DeadCycles_walk_112 N D (i32 (x + 1)) (i32 c) C = some (csJ C 900 t x (j64 (a + 4294967296 * (b + c)))) := by
  have e1 : i32 (x + 1) - (1 : Int32) = i32 x := i32_sub (a := x + 1) (b := 1) (by omega)
  have e2 : Int32.toInt64 (i32 c) <<< (Int32.toInt64 (32 : Int32) &&& 63) = j64 (c * 2 ^ 32) := by
    rw [i32_j64 (by omega)]
    exact j_shl (n := 32) (by decide) (by omega)
  unfold c_DeadCycles_walk_112
  rw [cd_cob hd, jgd_true, e1, tally_of hd hx, obd_some, jgd_true, ht, e2, j64_add, setTally_of hd hx, obd_some]
  congr 3
  omega
theorem walk_of {N : Nat} (hN : 200000 ≤ N) (hZ : Z = 65536) (hfx : f = nx F r l) (hf : ∀ i, i < Z → f i < Z) (hv : v < Z) {s : QS} (hq : QI Z v s) (hd : CD C D o t F r l) (hw : WQ Z C o t s) (h0 : s.1 v = 0) : ∃ C', c_DeadCycles_walk N D (i32 v) C = some C' ∧ WQ Z C' o t (wlk Z f v s) ∧ W2 o t C C' := by
  obtain ⟨μ, cy, le, si, ba⟩ := s
  have hcy : cy ≤ Z := qi_cy hq
  obtain ⟨q1, q2, q3, q4, q5⟩ := hq
  have q1 : ∀ i, i < Z → μ i = 0 ∨ Z < μ i ∧ μ i ≤ Z + cy := q1
  have q3 : ∀ w, w < cy → le w < Z ∧ μ (le w) = Z + 1 + w := q3
  obtain ⟨wo, wt, wz⟩ := hw
  have wo : WO Z C o μ le := wo
  have wt : ∀ w, w < cy → C.2.2.2.1 900 t (le w) = tl si ba w := wt
  have wz : ∀ i, i < Z → (∀ w, w < cy → le w ≠ i) → C.2.2.2.1 900 t i = 0 := wz
  have h0 : μ v = 0 := h0
  have hL : LO Z cy μ le := ⟨q1, fun w hw => (q3 w hw).1⟩
  have linj : ∀ a b, a < cy → b < cy → le a = le b → a = b := fun a b ha hb hab => by
    have h1 := (q3 a ha).2
    have h2 := (q3 b hb).2
    rw [hab] at h1
    omega
  obtain ⟨c1, c2⟩ := c_yes (μ := μ) hf hv
  have hlt := it_lt hf hv (cOf Z f μ v)
  have hc0 : cOf Z f μ v ≠ 0 := fun z => by
    rw [z] at c2
    rcases c2 with q | ⟨a, q, -⟩
    · exact q h0
    · omega
  obtain ⟨C1, u1, u2, u3, u4⟩ := w9_go (N := N) (t := t) hZ hfx hf hv hL (cOf Z f μ v) N 0 C hd wo (by omega) (by omega)
  have u1 : c_DeadCycles_walk_9 N N D (i32 v) (-1 - i32 v) (i32 v) (0 : Int32) C = _ := u1
  have hd1 := cd_w2 hd u3
  have ew : ∀ k j, C1.2.2.2.1 k t j = C.2.2.2.1 k t j := fun k j => by rw [u4]
  unfold c_DeadCycles_walk
  rw [u1]
  unfold c_DeadCycles_walk_42
  rw [cd_cob hd1, jgd_true, owner_of hd1 (by omega), obd_some, u2 _ hlt]
  unfold wlk
  show ∃ C', _ ∧ WQ Z C' o t (if cOf Z f μ v = 0 then (μ, cy, le, si, ba) else if μ (it f (cOf Z f μ v) v) ≠ 0 then (mk f v (μ (it f (cOf Z f μ v) v)) (cOf Z f μ v) μ, cy, le, si, up1 ba (μ (it f (cOf Z f μ v) v) - (Z + 1)) (ba (μ (it f (cOf Z f μ v) v) - (Z + 1)) + cOf Z f μ v))
    else (mk f v (Z + 1 + cy) (cOf Z f μ v) μ, cy + 1, up1 le cy (mnl f (it f (cOf Z f μ v) v) (per Z f (it f (cOf Z f μ v) v))), up1 si cy (per Z f (it f (cOf Z f μ v) v)), up1 ba cy (cOf Z f μ v))) ∧ _
  rw [if_neg hc0]
  by_cases h1 : μ (it f (cOf Z f μ v) v) ≠ 0
  · have hb := q1 _ hlt
    have hoff : mk f v (v + 1) (cOf Z f μ v) μ (it f (cOf Z f μ v) v) = μ (it f (cOf Z f μ v) v) := mk_off (fun a ha z => h1 (by rw [← z]; exact (c_no ha).1))
    obtain ⟨w, hw⟩ : ∃ w, μ (it f (cOf Z f μ v) v) = Z + 1 + w := ⟨μ (it f (cOf Z f μ v) v) - (Z + 1), by omega⟩
    have hwc : w < cy := by omega
    have hlw := (q3 w hwc).1
    rw [hoff, hw, if_neg (show ¬ eo Z le (Z + 1 + w) = -1 - i32 v from fun z => by
      have := (eo_walk hZ hv (fun _ => by rw [show Z + 1 + w - (Z + 1) = w by omega]; exact hlw)).mp z
      omega), jgd_true, obd_some, eo_cyc, if_pos (show Z + 1 + w ≠ 0 by omega), show Z + 1 + w - (Z + 1) = w by omega]
    obtain ⟨C2, x1, x2, x3, x4⟩ := w74_go (N := N) (t := t) (D := D) (w := w) (ls := le) hZ hfx hf hv hL hlw (by omega) (fun _ _ => rfl) rfl (Or.inl h1) (cOf Z f μ v) N 0 C1 hd1 u2 (by omega) (by omega)
    have x1 : c_DeadCycles_walk_74 N N D (-1 - i32 v) (i32 v) (i32 (le w + 1)) (0 : Int32) (0 : Int32) C1 = _ := x1
    have hd2 := cd_w2 hd1 x3
    have ew2 : ∀ k j, C2.2.2.2.1 k t j = C.2.2.2.1 k t j := fun k j => by rw [x4]; exact ew k j
    have ht : C2.2.2.2.1 900 t (le w) = j64 (si w + 4294967296 * ba w) := by rw [ew2]; exact wt w hwc
    refine ⟨csJ C2 900 t (le w) (j64 (si w + 4294967296 * (ba w + cOf Z f μ v))), ?_, ⟨fun i hi => x2 i hi, fun w' hw' => ?_, fun i hi hno => ?_⟩, (u3.trans x3).trans w2_J⟩
    · unfold c_DeadCycles_walk_64
      rw [x1, w112_of hd2 (by omega) (by omega) ht]
    · have hw' : w' < cy := hw'
      show (csJ C2 900 t (le w) (j64 (si w + 4294967296 * (ba w + cOf Z f μ v)))).2.2.2.1 900 t (le w') = tl si (up1 ba w (ba w + cOf Z f μ v)) w'
      unfold tl up1
      by_cases e : w' = w
      · subst e
        rw [if_pos rfl]
        simp [csJ, up3]
      · have hne : le w' ≠ le w := fun z => e (linj _ _ hw' hwc z)
        rw [if_neg e]
        have : (csJ C2 900 t (le w) (j64 (si w + 4294967296 * (ba w + cOf Z f μ v)))).2.2.2.1 900 t (le w') = C2.2.2.2.1 900 t (le w') := by simp [csJ, up3, hne]
        rw [this, ew2]; exact wt w' hw'
    · have hno : ∀ w, w < cy → le w ≠ i := hno
      have hne : i ≠ le w := fun z => hno w hwc z.symm
      have : (csJ C2 900 t (le w) (j64 (si w + 4294967296 * (ba w + cOf Z f μ v)))).2.2.2.1 900 t i = C2.2.2.2.1 900 t i := by simp [csJ, up3, hne]
      rw [this, ew2]; exact wz i hi hno
  · have h1 : μ (it f (cOf Z f μ v) v) = 0 := Classical.byContradiction h1
    obtain ⟨a, a1, a2, p1, p2, p3, p4, p5⟩ := own_end hf hv h1
    have hon : mk f v (v + 1) (cOf Z f μ v) μ (it f (cOf Z f μ v) v) = v + 1 := by rw [← a2]; exact mk_on a1
    generalize hP : per Z f (it f (cOf Z f μ v) v) = P at *
    obtain ⟨j, j1, j2⟩ := mnl_in (f := f) (it f (cOf Z f μ v) v) P p2
    rw [p5] at j2
    generalize hlow : mnl f (it f (cOf Z f μ v) v) P = low at *
    have hlZ : low < Z := by rw [j2]; exact it_lt hf hv _
    have hl0 : μ low = 0 := by rw [j2]; exact (c_no (show a + j < cOf Z f μ v by omega)).1
    have hnew : ∀ w, w < cy → le w ≠ low := fun w hw z => by
      have := (q3 w hw).2
      rw [z, hl0] at this
      omega
    have hnc := newCycle_of (N := N) (P := P) (C := C1) hN hZ hfx hf hlt p1 p2 p4 (by omega) hd1
    rw [hlow] at hnc
    rw [hon, if_pos ((eo_walk hZ hv (fun z => by omega)).mpr rfl), jgd_true, hnc, cbd2_some, if_neg (show ¬ μ (it f (cOf Z f μ v) v) ≠ 0 from fun z => z h1)]
    have wj : W2 o t C1 (csJ C1 900 t low (j64 P)) := w2_J
    have hd1' := cd_w2 hd1 wj
    obtain ⟨C2, x1, x2, x3, x4⟩ := w74_go (N := N) (t := t) (D := D) (w := cy) (ls := up1 le cy low) (le := up1 le cy low) hZ hfx hf hv ⟨q1, fun w hw => by
      show (if w = cy then low else le w) < Z
      rw [if_neg (by omega)]; exact (q3 w hw).1⟩ (by show (if cy = cy then low else le cy) < Z; rw [if_pos rfl]; exact hlZ) (Nat.le_refl _) (fun _ _ => rfl) rfl (Or.inr ⟨a, a1, a2⟩) (cOf Z f μ v) N 0 (csJ C1 900 t low (j64 P)) hd1' (fun i hi => by
      show C1.2.2.1 900 o i = eo Z (up1 le cy low) (mk f v (v + 1) (cOf Z f μ v) μ i)
      rw [u2 i hi]
      unfold eo
      by_cases z0 : mk f v (v + 1) (cOf Z f μ v) μ i = 0
      · rw [if_pos z0, if_pos z0]
      · rw [if_neg z0, if_neg z0]
        by_cases z1 : mk f v (v + 1) (cOf Z f μ v) μ i ≤ Z
        · rw [if_pos z1, if_pos z1]
        · rw [if_neg z1, if_neg z1]
          have : mk f v (v + 1) (cOf Z f μ v) μ i - (Z + 1) ≠ cy := by
            rw [mk_eq] at z1 ⊢
            by_cases z : anyb (fun a => decide (it f a v = i)) (cOf Z f μ v) = true
            · rw [if_pos z] at z1; omega
            · rw [if_neg z] at z1 ⊢
              have := q1 i hi
              omega
          show i32 (le _ + 1) = i32 ((if mk f v (v + 1) (cOf Z f μ v) μ i - (Z + 1) = cy then low else le _) + 1)
          rw [if_neg this]) (by omega) (by omega)
    have elow : up1 le cy low cy = low := if_pos rfl
    rw [elow] at x1
    have x1 : c_DeadCycles_walk_74 N N D (-1 - i32 v) (i32 v) (i32 (low + 1)) (0 : Int32) (0 : Int32) (csJ C1 900 t low (j64 P)) = _ := x1
    have hd2 := cd_w2 hd1' x3
    have ew2 : ∀ j, j ≠ low → C2.2.2.2.1 900 t j = C.2.2.2.1 900 t j := fun j hj => by
      rw [x4]
      show up3 C1.2.2.2.1 900 t low (j64 P) 900 t j = _
      unfold up3
      rw [if_neg (fun q => hj q.2.2)]; exact ew 900 j
    have ht : C2.2.2.2.1 900 t low = j64 (P + 4294967296 * 0) := by
      rw [x4]
      simp [csJ, up3]
    refine ⟨csJ C2 900 t low (j64 (P + 4294967296 * (0 + cOf Z f μ v))), ?_, ⟨fun i hi => x2 i hi, fun w' hw' => ?_, fun i hi hno => ?_⟩, ((u3.trans wj).trans x3).trans w2_J⟩
    · unfold c_DeadCycles_walk_64
      rw [x1, w112_of hd2 (by omega) (by omega) ht]
    · have hw' : w' < cy + 1 := hw'
      show (csJ C2 900 t low (j64 (P + 4294967296 * (0 + cOf Z f μ v)))).2.2.2.1 900 t (up1 le cy low w') = tl (up1 si cy P) (up1 ba cy (cOf Z f μ v)) w'
      unfold tl up1
      by_cases e : w' = cy
      · rw [if_pos e, if_pos e, if_pos e, Nat.zero_add]
        simp [csJ, up3]
      · have hne : le w' ≠ low := hnew w' (by omega)
        rw [if_neg e, if_neg e, if_neg e]
        have : (csJ C2 900 t low (j64 (P + 4294967296 * (0 + cOf Z f μ v)))).2.2.2.1 900 t (le w') = C2.2.2.2.1 900 t (le w') := by simp [csJ, up3, hne]
        rw [this, ew2 _ hne]; exact wt w' (by omega)
    · have hno : ∀ w, w < cy + 1 → up1 le cy low w ≠ i := hno
      have hne : i ≠ low := fun z => hno cy (by omega) (by show (if cy = cy then low else le cy) = i; rw [if_pos rfl]; exact z.symm)
      have : (csJ C2 900 t low (j64 (P + 4294967296 * (0 + cOf Z f μ v)))).2.2.2.1 900 t i = C2.2.2.2.1 900 t i := by simp [csJ, up3, hne]
      rw [this, ew2 _ hne]
      exact wz i hi (fun w hw z => hno w (by omega) (by show (if w = cy then low else le w) = i; rw [if_neg (by omega)]; exact z))
/-- the loop over all places -/
theorem look110_go {N : Nat} (hN : 200000 ≤ N) (hZ : Z = 65536) (hfx : f = nx F r l) (hf : ∀ i, i < Z → f i < Z) : ∀ (q g v : Nat) (C : CT), CD C D o t F r l → WQ Z C o t (rnf Z f v) → v + q = Z → q < g →
    ∃ C', c_DeadCycles_look_110 N g D (i32 v) C = (obd (c_DeadCycles_gatherFound N D C') fun C1 => some (true, C1)) ∧ WQ Z C' o t (rnf Z f Z) ∧ W2 o t C C'
  | 0, 0, _, _, _, _, _, h => absurd h (by omega)
  | 0, g + 1, v, C, hd, hw, hv, _ => by
    have : v = Z := by omega
    subst this
    refine ⟨C, ?_, hw, W2.refl⟩
    unfold c_DeadCycles_look_110
    rw [if_pos (by rw [show (65536 : Int32) = i32 65536 from rfl, i32_le (by omega) (by omega)]; omega), cd_cob hd, jgd_true]
  | q + 1, 0, _, _, _, _, _, h => absurd h (by omega)
  | q + 1, g + 1, v, C, hd, hw, hv, hq => by
    have hvZ : v < Z := by omega
    have hqi := qi_rnf hf v (by omega)
    have hl : Z < (rnf Z f v).1 v → (rnf Z f v).2.2.1 ((rnf Z f v).1 v - (Z + 1)) < Z := fun z => (hqi.2.2.1 _ (by
      rcases hqi.1 v hvZ with h | h
      · omega
      · omega)).1
    have pre : c_DeadCycles_look_110 N (g + 1) D (i32 v) C = if (rnf Z f v).1 v = 0 then (obd (c_DeadCycles_walk N D (i32 v) C) fun C3 => c_DeadCycles_look_110 N g D (i32 (v + 1)) C3) else c_DeadCycles_look_110 N g D (i32 (v + 1)) C := by
      show (if (65536 : Int32) ≤ i32 v then _ else _) = _
      rw [if_neg (by rw [show (65536 : Int32) = i32 65536 from rfl, i32_le (by omega) (by omega)]; omega), cd_cob hd, jgd_true, owner_of hd (by omega), obd_some, hw.1 v hvZ, jgd_true]
      unfold c_DeadCycles_look_129
      rw [show i32 v + 1 = i32 (v + 1) from i32_add v 1]
      by_cases h : (rnf Z f v).1 v = 0
      · rw [if_pos h, if_pos ((eo_zero hZ hl).mpr h)]
      · rw [if_neg h, if_neg (fun z => h ((eo_zero hZ hl).mp z))]
    rw [pre]
    by_cases h : (rnf Z f v).1 v = 0
    · obtain ⟨C1, u1, u2, u3⟩ := walk_of (N := N) hN hZ hfx hf hvZ hqi hd hw h
      obtain ⟨C2, w1, w2, w3⟩ := look110_go hN hZ hfx hf q g (v + 1) C1 (cd_w2 hd u3) u2 (by omega) (by omega)
      refine ⟨C2, ?_, w2, u3.trans w3⟩
      rw [if_pos h, u1, obd_some]
      exact w1
    · have e : rnf Z f (v + 1) = rnf Z f v := by
        show wlk Z f v (rnf Z f v) = _
        unfold wlk
        have : cOf Z f (rnf Z f v).1 v = 0 := by
          have := (fsb_yes (P := stp f (rnf Z f v).1 v) (Z + 1) 0 0 (Nat.le_refl _) (by omega) (stp_iff.mpr (Or.inl h))).2
          unfold cOf
          omega
        rw [if_pos this]
      obtain ⟨C2, w1, w2, w3⟩ := look110_go hN hZ hfx hf q g (v + 1) C hd (by rw [e]; exact hw) (by omega) (by omega)
      refine ⟨C2, ?_, w2, w3⟩
      rw [if_neg h]
      exact w1
end CYCCLS
