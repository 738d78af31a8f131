/-! dead cycles: the reference's run -/
section CYCREF
variable {G : GT} {E B bx m s Z : Nat} {ad : Nat → Nat} {S : ST} {A : AT} {C : CT} {T T' : MT} {f : Nat → Nat} {μ le si ba : Nat → Nat} {v cy : Nat}
/-- where a short leads, as a place from the least one on -/
def nxI (F : Int64) (r l : Int32) (i : Nat) : Int32 :=
  (Int64.toInt32 (if g_Shorts_isShort (g_Shorts_rounded (F * Int32.toInt64 (i32 i + (-32768 : Int32))) r) = true then g_Shorts_rounded (F * Int32.toInt64 (i32 i + (-32768 : Int32))) r else g_Shorts_limited (g_Shorts_rounded (F * Int32.toInt64 (i32 i + (-32768 : Int32))) r) l)) - (-32768 : Int32)
def nx (F : Int64) (r l : Int32) (i : Nat) : Nat := (nxI F r l i).toNatClampNeg
theorem lim_vb (x : Int64) (l : Int32) : vb 2 (g_Shorts_limited x l) := by
  by_cases h : l = 0
  · subst h; exact (limited_ref x (l := 0) (by decide)).2
  · have e : g_Shorts_limited x l = g_Shorts_limited x (i32 1) := by
      unfold g_Shorts_limited
      rw [if_neg h, if_neg (by decide)]
    rw [e]; exact (limited_ref x (l := 1) (by decide)).2
theorem short_i32 {y : Int64} (h : vb 2 y) : (Int64.toInt32 y - (-32768 : Int32)) = i32 (y.toInt + 32768).toNat ∧ (y.toInt + 32768).toNat < 65536 := by
  have b := i64_bound h.1 h.2
  refine ⟨tI_eq ?_ (by omega), by omega⟩
  have e : (Int64.toInt32 y).toInt = y.toInt := by
    rw [Int64.toInt_toInt32]
    exact Int.bmod_eq_of_le (by omega) (by omega)
  rw [tI_sub e (show (-32768 : Int32).toInt = -32768 from rfl) (by omega) (by omega)]
  omega
theorem nx_of (F : Int64) (r l : Int32) (i : Nat) : nxI F r l i = i32 (nx F r l i) ∧ nx F r l i < 65536 := by
  have key : ∀ y : Int64, vb 2 y → nxI F r l i = Int64.toInt32 y - (-32768 : Int32) → nxI F r l i = i32 (nx F r l i) ∧ nx F r l i < 65536 := fun y hy he => by
    obtain ⟨h1, h2⟩ := short_i32 hy
    unfold nx
    rw [he, h1, i32_nat (by omega)]
    exact ⟨rfl, h2⟩
  by_cases h : g_Shorts_isShort (g_Shorts_rounded (F * Int32.toInt64 (i32 i + (-32768 : Int32))) r) = true
  · exact key _ ((isShort_iff _).mp h) (by unfold nxI; rw [if_pos h])
  · exact key _ (lim_vb _ l) (by unfold nxI; rw [if_neg h])
/-- a mark, as both hold it -/
def em (Z x : Nat) : Int32 := if x = 0 then 0 else if x ≤ Z then -1 - i32 (x - 1) else i32 (x - Z)
theorem em_int (hZ : Z = 65536) {x : Nat} (hx : x ≤ 2 * Z) : (em Z x).toInt = if x = 0 then 0 else if x ≤ Z then -(x : Int) else (x : Int) - Z := by
  unfold em
  by_cases h0 : x = 0
  · rw [if_pos h0, if_pos h0]; rfl
  · rw [if_neg h0, if_neg h0]
    by_cases h1 : x ≤ Z
    · rw [if_pos h1, if_pos h1, tI_sub (show (-1 : Int32).toInt = -1 from rfl) (i32_toInt (n := x - 1) (by omega)) (by omega) (by omega)]
      omega
    · rw [if_neg h1, if_neg h1, i32_toInt (by omega)]
      omega
theorem em_inj (hZ : Z = 65536) {x y : Nat} (hx : x ≤ 2 * Z) (hy : y ≤ 2 * Z) (h : em Z x = em Z y) : x = y := by
  have e := congrArg Int32.toInt h
  rw [em_int hZ hx, em_int hZ hy] at e
  by_cases a0 : x = 0
  · rw [if_pos a0] at e
    by_cases b0 : y = 0
    · omega
    · rw [if_neg b0] at e
      split at e <;> omega
  · rw [if_neg a0] at e
    by_cases b0 : y = 0
    · rw [if_pos b0] at e
      split at e <;> omega
    · rw [if_neg b0] at e
      split at e <;> split at e <;> omega
theorem em_walk (hZ : Z = 65536) (hv : v < Z) : em Z (v + 1) = -1 - i32 v := by
  unfold em
  rw [if_neg (by omega), if_pos (by omega), Nat.add_sub_cancel]
theorem em_cyc {w : Nat} : em Z (Z + 1 + w) = i32 (w + 1) := by
  unfold em
  rw [if_neg (by omega), if_neg (by omega), show Z + 1 + w - Z = w + 1 by omega]
theorem em_zero : em Z 0 = 0 := if_pos rfl
def cF : List Nat := [55, 56, 57, 58, 59, 60]
def Fc (T T' : MT) : Prop := (∀ k, k ∉ cF → T'.1 k = T.1 k) ∧ T'.2 = T.2
theorem Fc.refl (T : MT) : Fc T T := ⟨fun _ _ => rfl, rfl⟩
theorem Fc.trans {T'' : MT} (h : Fc T T') (h' : Fc T' T'') : Fc T T'' := ⟨fun k q => (h'.1 k q).trans (h.1 k q), h'.2.trans h.2⟩
theorem fc_I {k j : Nat} {w : Int32} (h : k ∈ cF) : Fc T (tsI T k j w) := ⟨fun y hy => funext fun z => by
  have : y ≠ k := fun q => hy (q ▸ h)
  simp [tsI, up2, this], rfl⟩
theorem rt_Fc (hR : RT S T) (h : Fc T T') : RT S T' := by
  obtain ⟨a1, a2, a3, a4, a5, a6, a7, a8, a9, b1, b2, b3⟩ := hR
  have d1 : ∀ k, k ∈ rtN → k ∉ cF := by decide
  have d2 : ∀ k, k ∈ rtC → k ∉ cF := by decide
  have d3 : ∀ k, k ∈ rtM → k ∉ cF := by decide
  have d4 : ∀ k, k ∈ rtI → k ∉ cF := by decide
  refine ⟨fun k hk j => by rw [h.1 k (d1 k hk)]; exact a1 k hk j, fun k hk => by rw [h.1 k (d2 k hk)]; exact a2 k hk, fun k hk j => by rw [h.1 k (d3 k hk)]; exact a3 k hk j, fun k hk j => by rw [h.1 k (d4 k hk)]; exact a4 k hk j, ?_⟩
  rw [h.2]
  exact ⟨a5, a6, a7, a8, a9, b1, b2, b3⟩
/-- what the reference holds of a run -/
def TQ (Z : Nat) (f : Nat → Nat) (T : MT) (s : QS) : Prop := (∀ i, i < Z → T.1 56 i = i32 (f i)) ∧ (∀ i, i < Z → T.1 57 i = em Z (s.1 i)) ∧ T.1 55 0 = i32 s.2.1 ∧ ∀ w, w < s.2.1 → T.1 58 w = i32 (s.2.2.1 w) ∧ T.1 59 w = i32 (s.2.2.2.1 w) ∧ T.1 60 w = i32 (s.2.2.2.2 w)
theorem ts_ne {k j a b : Nat} {w : Int32} (h : a ≠ k) : (tsI T k j w).1 a b = T.1 a b := by simp [tsI, up2, h]
theorem ts_eq {k j : Nat} {w : Int32} : (tsI T k j w).1 k j = w := by simp [tsI, up2]
theorem ts_nj {k j b : Nat} {w : Int32} (h : b ≠ j) : (tsI T k j w).1 k b = T.1 k b := by simp [tsI, up2, h]
theorem tq_mark {st : Nat × (Nat → Nat) × (Nat → Nat) × (Nat → Nat)} {x y : Nat} {w : Int32} (h : TQ Z f T (μ, st)) (hw : w = em Z y) : TQ Z f (tsI T 57 x w) (up1 μ x y, st) := by
  obtain ⟨h1, h2, h3, h4⟩ := h
  refine ⟨fun i hi => by rw [ts_ne (by decide)]; exact h1 i hi, fun i hi => ?_, by rw [ts_ne (by decide)]; exact h3, fun i hi => by rw [ts_ne (by decide), ts_ne (by decide), ts_ne (by decide)]; exact h4 i hi⟩
  show _ = em Z (up1 μ x y i)
  unfold up1
  by_cases e : i = x
  · subst e
    rw [if_pos rfl, ts_eq, hw]
  · rw [if_neg e, ts_nj e]; exact h2 i hi
theorem f122_go {N : Nat} {k114 : Int32 → MT → Option MT} (hZ : Z = 65536) (hf : ∀ i, i < Z → f i < Z) (hv : v < Z) {st : Nat × (Nat → Nat) × (Nat → Nat) × (Nat → Nat)} : ∀ (q g j : Nat) (T : MT), TQ Z f T (mk f v (v + 1) j μ, st) → j + q = cOf Z f μ v → q < g →
    ∃ g' T', h_R_finds_122 N k114 g (i32 v) (i32 (it f j v)) T = h_R_finds_122 N k114 (g' + 1) (i32 v) (i32 (it f (cOf Z f μ v) v)) T' ∧ TQ Z f T' (mk f v (v + 1) (cOf Z f μ v) μ, st) ∧ Fc T T'
  | 0, 0, _, _, _, _, h => absurd h (by omega)
  | 0, g + 1, j, T, h, hj, _ => by
    have : j = cOf Z f μ v := by omega
    subst this
    exact ⟨g, T, rfl, h, Fc.refl _⟩
  | q + 1, 0, _, _, _, _, h => absurd h (by omega)
  | q + 1, g + 1, j, T, h, hj, hq => by
    have hlt := it_lt hf hv j
    obtain ⟨n1, n2⟩ := c_no (show j < cOf Z f μ v by omega)
    have e0 : T.1 57 (it f j v) = 0 := by
      rw [h.2.1 _ hlt]
      show em Z (mk f v (v + 1) j μ (it f j v)) = 0
      rw [mk_off (fun a ha => n2 a ha), n1, em_zero]
    have h1 : TQ Z f (tsI T 57 (it f j v) (-1 - i32 v)) (mk f v (v + 1) (j + 1) μ, st) := tq_mark h (em_walk hZ hv).symm
    obtain ⟨g', T', u1, u2, u3⟩ := f122_go (N := N) (k114 := k114) hZ hf hv q g (j + 1) _ h1 (by omega) (by omega)
    refine ⟨g', T', ?_, u2, (fc_I (by decide)).trans u3⟩
    rw [← u1]
    show (obd (jrg 65536 (i32 (it f j v))) fun n1 => _) = _
    rw [jrg_i32 (by omega) (by decide), obd_some, e0, if_pos rfl, obd_some, jlet_eq, obd_some, ts_ne (by decide), h.1 _ hlt]
    rfl
theorem f277_go {N w : Nat} {k114 : Int32 → MT → Option MT} (hZ : Z = 65536) (hf : ∀ i, i < Z → f i < Z) (hv : v < Z) (hw : w < cy) (hcy : cy ≤ Z) (hend : μ (it f (cOf Z f μ v) v) ≠ 0 ∧ μ (it f (cOf Z f μ v) v) ≠ v + 1 ∧ μ (it f (cOf Z f μ v) v) ≤ 2 * Z ∨ ∃ a, a < cOf Z f μ v ∧ it f a v = it f (cOf Z f μ v) v) {b0 : Nat} : ∀ (q g j : Nat) (T : MT), TQ Z f T (mk f v (Z + 1 + w) j (mk f v (v + 1) (cOf Z f μ v) μ), cy, le, si, up1 ba w (b0 + j)) → j + q = cOf Z f μ v → q < g →
    ∃ T', h_R_finds_277 N k114 g (i32 v) (i32 (it f j v)) (i32 (w + 1)) T = k114 (i32 (v + 1)) T' ∧ TQ Z f T' (mk f v (Z + 1 + w) (cOf Z f μ v) μ, cy, le, si, up1 ba w (b0 + cOf Z f μ v)) ∧ Fc T T'
  | 0, 0, _, _, _, _, h => absurd h (by omega)
  | 0, g + 1, j, T, h, hj, _ => by
    have : j = cOf Z f μ v := by omega
    subst this
    have hlt := it_lt hf hv (cOf Z f μ v)
    rw [mk_mk] at h
    have ne : ¬ T.1 57 (it f (cOf Z f μ v) v) = (-1 : Int32) - i32 v := by
      rw [h.2.1 _ hlt, ← em_walk hZ hv]
      intro q
      have hb : mk f v (Z + 1 + w) (cOf Z f μ v) μ (it f (cOf Z f μ v) v) ≤ 2 * Z ∧ mk f v (Z + 1 + w) (cOf Z f μ v) μ (it f (cOf Z f μ v) v) ≠ v + 1 := by
        rcases hend with ⟨h1, h2, h3⟩ | ⟨a, a1, a2⟩
        · have : mk f v (Z + 1 + w) (cOf Z f μ v) μ (it f (cOf Z f μ v) v) = μ (it f (cOf Z f μ v) v) := mk_off (fun a ha z => h1 (by rw [← z]; exact (c_no ha).1))
          rw [this]; exact ⟨h3, h2⟩
        · rw [← a2, mk_on a1]
          exact ⟨by omega, by omega⟩
      exact hb.2 (em_inj hZ hb.1 (by omega) q)
    refine ⟨T, ?_, h, Fc.refl _⟩
    show (obd (jrg 65536 (i32 (it f (cOf Z f μ v) v))) fun n1 => _) = _
    rw [jrg_i32 (by omega) (by decide), obd_some, if_neg ne, show i32 v + 1 = i32 (v + 1) from i32_add v 1]
  | q + 1, 0, _, _, _, _, h => absurd h (by omega)
  | q + 1, g + 1, j, T, h, hj, hq => by
    have hlt := it_lt hf hv j
    have hjc : j < cOf Z f μ v := by omega
    have e57 : T.1 57 (it f j v) = (-1 : Int32) - i32 v := by
      rw [h.2.1 _ hlt, ← em_walk hZ hv]
      show em Z (mk f v (Z + 1 + w) j (mk f v (v + 1) (cOf Z f μ v) μ) (it f j v)) = _
      rw [mk_off (fun a ha => (c_no hjc).2 a ha), mk_on hjc]
    have h1 : TQ Z f (tsI T 57 (it f j v) (i32 (w + 1))) (mk f v (Z + 1 + w) (j + 1) (mk f v (v + 1) (cOf Z f μ v) μ), cy, le, si, up1 ba w (b0 + j)) := tq_mark h em_cyc.symm
    have e60 : (tsI T 57 (it f j v) (i32 (w + 1))).1 60 w = i32 (b0 + j) := by
      rw [(h1.2.2.2 w hw).2.2]
      show i32 (up1 ba w (b0 + j) w) = _
      unfold up1
      rw [if_pos rfl]
    have h2 : TQ Z f (tsI (tsI T 57 (it f j v) (i32 (w + 1))) 60 w (i32 (b0 + (j + 1)))) (mk f v (Z + 1 + w) (j + 1) (mk f v (v + 1) (cOf Z f μ v) μ), cy, le, si, up1 ba w (b0 + (j + 1))) := by
      obtain ⟨p1, p2, p3, p4⟩ := h1
      refine ⟨fun i hi => by rw [ts_ne (by decide)]; exact p1 i hi, fun i hi => by rw [ts_ne (by decide)]; exact p2 i hi, by rw [ts_ne (by decide)]; exact p3, fun i hi => ?_⟩
      obtain ⟨p5, p6, p7⟩ := p4 i hi
      refine ⟨by rw [ts_ne (by decide)]; exact p5, by rw [ts_ne (by decide)]; exact p6, ?_⟩
      show _ = i32 (up1 ba w (b0 + (j + 1)) i)
      have p7 : (tsI T 57 (it f j v) (i32 (w + 1))).1 60 i = i32 (up1 ba w (b0 + j) i) := p7
      unfold up1 at p7 ⊢
      by_cases e : i = w
      · subst e
        rw [if_pos rfl, ts_eq]
      · rw [if_neg e, ts_nj e, p7, if_neg e]
    obtain ⟨T', u1, u2, u3⟩ := f277_go (N := N) (k114 := k114) hZ hf hv hw hcy hend q g (j + 1) _ h2 (by omega) (by omega)
    refine ⟨T', ?_, u2, ((fc_I (by decide)).trans (fc_I (by decide))).trans u3⟩
    rw [← u1]
    show (obd (jrg 65536 (i32 (it f j v))) fun n1 => _) = _
    rw [jrg_i32 (by omega) (by decide), obd_some, if_pos e57, obd_some, jlet_eq, show i32 (w + 1) - (1 : Int32) = i32 w from i32_sub (a := w + 1) (b := 1) (by omega), jrg_i32 (show w < 65536 by omega) (by decide), obd_some, obd_some, jlet_eq, e60, show i32 (b0 + j) + (1 : Int32) = i32 (b0 + (j + 1)) from i32_add _ 1, obd_some, ts_ne (by decide), ts_ne (by decide), h.1 _ hlt]
    rfl
theorem f194_go {N k P : Nat} {k114 : Int32 → MT → Option MT} {v2 : Int32} (hZ : Z = 65536) (hf : ∀ i, i < Z → f i < Z) (hk : k < Z) (hcy : cy < Z) (hP : it f P k = k) (hno : ∀ j, 1 ≤ j → j < P → it f j k ≠ k) (h56 : ∀ i, i < Z → T.1 56 i = i32 (f i)) (hPZ : P ≤ Z) : ∀ (q g t : Nat), t + q = P → 1 ≤ q → q < g →
    h_R_finds_194 N k114 g v2 (i32 k) (i32 (cy + 1)) (i32 t) (i32 (mnl f k t)) (i32 (it f t k)) true T = h_R_finds_275 N k114 v2 (i32 (cy + 1)) (tsI (tsI (tsI T 58 cy (i32 (mnl f k P))) 59 cy (i32 P)) 60 cy 0)
  | 0, _, _, _, h, _ => absurd h (by omega)
  | q + 1, 0, _, _, _, h => absurd h (by omega)
  | q + 1, g + 1, t, ht, _, hq => by
    have hlt := it_lt hf hk t
    have hlt1 := it_lt hf hk (t + 1)
    have hm : mnl f k t < Z := by
      by_cases z : t = 0
      · subst z; exact hk
      · obtain ⟨j, j1, j2⟩ := mnl_in (f := f) k t (by omega)
        rw [j2]; exact it_lt hf hk j
    have key : ∀ s0 : Int32, s0 = i32 (mnl f k (t + 1)) → h_R_finds_213 N k114 (h_R_finds_194 N k114 g) v2 (i32 k) (i32 (cy + 1)) (i32 t) (i32 (it f t k)) s0 T = h_R_finds_275 N k114 v2 (i32 (cy + 1)) (tsI (tsI (tsI T 58 cy (i32 (mnl f k P))) 59 cy (i32 P)) 60 cy 0) := fun s0 hs => by
      subst hs
      unfold h_R_finds_213 h_R_finds_238
      have e56 : T.1 56 (it f t k) = i32 (it f (t + 1) k) := h56 _ hlt
      rw [jrg_i32 (by omega) (by decide), obd_some, e56, show i32 t + 1 = i32 (t + 1) from i32_add t 1]
      by_cases hz : q = 0
      · have e : t + 1 = P := by omega
        rw [e, hP, if_pos rfl]
        obtain ⟨g', rfl⟩ : ∃ g', g = g' + 1 := ⟨g - 1, by omega⟩
        show (if false = true then _ else obd (jrg 65536 (i32 (cy + 1) - (1 : Int32))) fun n1 => _) = _
        rw [if_neg (by decide), show i32 (cy + 1) - (1 : Int32) = i32 cy from i32_sub (a := cy + 1) (b := 1) (by omega), jrg_i32 (show cy < 65536 by omega) (by decide), obd_some, jlet_eq, obd_some, jlet_eq, obd_some, jlet_eq]
      · have hne : it f (t + 1) k ≠ k := hno (t + 1) (by omega) (by omega)
        rw [if_neg (i32_ne (by omega) (by omega) hne)]
        exact f194_go hZ hf hk hcy hP hno h56 hPZ q g (t + 1) (by omega) (by omega) (by omega)
    show (if true = true then (if i32 (mnl f k t) ≤ i32 (it f t k) then _ else _) else _) = _
    rw [if_pos rfl]
    have em1 : mnl f k (t + 1) = min (mnl f k t) (it f t k) := rfl
    by_cases hle : mnl f k t ≤ it f t k
    · rw [if_pos ((i32_le (by omega) (by omega)).mpr hle)]
      exact key _ (by rw [em1, Nat.min_eq_left hle])
    · rw [if_neg (fun z => hle ((i32_le (by omega) (by omega)).mp z))]
      exact key _ (by rw [em1, Nat.min_eq_right (by omega)])
/-- one place more -/
theorem f114_step {N : Nat} {k114 : Int32 → MT → Option MT} (hN : 200000 ≤ N) (hZ : Z = 65536) (hf : ∀ i, i < Z → f i < Z) (hv : v < Z) {s : QS} (hq : QI Z v s) (hT : TQ Z f T s) : ∃ T', h_R_finds_122 N k114 N (i32 v) (i32 v) T = k114 (i32 (v + 1)) T' ∧ TQ Z f T' (wlk Z f v s) ∧ Fc T T' := by
  obtain ⟨μ, cy, le, si, ba⟩ := s
  have hcy : cy ≤ Z := qi_cy hq
  have hq' := qi_wlk hf hv hq
  obtain ⟨q1, q2, q3, q4, q5⟩ := hq
  have q1 : ∀ i, i < Z → μ i = 0 ∨ Z < μ i ∧ μ i ≤ Z + cy := q1
  obtain ⟨c1, c2⟩ := c_yes (μ := μ) hf hv
  have hlt := it_lt hf hv (cOf Z f μ v)
  obtain ⟨g', T1, u1, u2, u3⟩ := f122_go (N := N) (k114 := k114) (μ := μ) (st := (cy, le, si, ba)) hZ hf hv (cOf Z f μ v) N 0 T hT (by omega) (by omega)
  have u1 : h_R_finds_122 N k114 N (i32 v) (i32 v) T = _ := u1
  rw [u1]
  have pre : h_R_finds_122 N k114 (g' + 1) (i32 v) (i32 (it f (cOf Z f μ v) v)) T1 = if T1.1 57 (it f (cOf Z f μ v) v) = 0 then (h_R_finds_122 N k114 g' (i32 v) ((tsI T1 57 (it f (cOf Z f μ v) v) ((-1 : Int32) - i32 v)).1 56 (it f (cOf Z f μ v) v)) (tsI T1 57 (it f (cOf Z f μ v) v) ((-1 : Int32) - i32 v))) else if T1.1 57 (it f (cOf Z f μ v) v) = (-1 : Int32) - i32 v then
      h_R_finds_194 N k114 N (i32 v) (i32 (it f (cOf Z f μ v) v)) ((tsI T1 55 0 (T1.1 55 0 + 1)).1 55 0) 0 (i32 (it f (cOf Z f μ v) v)) (i32 (it f (cOf Z f μ v) v)) true (tsI T1 55 0 (T1.1 55 0 + 1)) else h_R_finds_275 N k114 (i32 v) (T1.1 57 (it f (cOf Z f μ v) v)) T1 := by
    show (obd (jrg 65536 (i32 (it f (cOf Z f μ v) v))) fun n1 => _) = _
    simp only [jrg_i32 (show it f (cOf Z f μ v) v < 65536 by omega) (show 65536 < 2 ^ 31 by decide), obd_some, jlet_eq]
  rw [pre]
  have e57 := u2.2.1 _ hlt
  have e57 : T1.1 57 (it f (cOf Z f μ v) v) = em Z (mk f v (v + 1) (cOf Z f μ v) μ (it f (cOf Z f μ v) v)) := e57
  unfold wlk
  show ∃ T', _ ∧ TQ Z f T' (if cOf Z f μ v = 0 then (μ, cy, le, si, ba) else if μ (it f (cOf Z f μ v) v) ≠ 0 then (mk f v (μ (it f (cOf Z f μ v) v)) (cOf Z f μ v) μ, cy, le, si, up1 ba (μ (it f (cOf Z f μ v) v) - (Z + 1)) (ba (μ (it f (cOf Z f μ v) v) - (Z + 1)) + cOf Z f μ v))
    else (mk f v (Z + 1 + cy) (cOf Z f μ v) μ, cy + 1, up1 le cy (mnl f (it f (cOf Z f μ v) v) (per Z f (it f (cOf Z f μ v) v))), up1 si cy (per Z f (it f (cOf Z f μ v) v)), up1 ba cy (cOf Z f μ v))) ∧ _
  by_cases h1 : μ (it f (cOf Z f μ v) v) ≠ 0
  · have hb := q1 _ hlt
    have hoff : mk f v (v + 1) (cOf Z f μ v) μ (it f (cOf Z f μ v) v) = μ (it f (cOf Z f μ v) v) := mk_off (fun a ha z => h1 (by rw [← z]; exact (c_no ha).1))
    obtain ⟨w, hw⟩ : ∃ w, μ (it f (cOf Z f μ v) v) = Z + 1 + w := ⟨μ (it f (cOf Z f μ v) v) - (Z + 1), by omega⟩
    have hwc : w < cy := by omega
    rw [hoff, hw, em_cyc] at e57
    have n0 : ¬ i32 (w + 1) = 0 := i32_ne (b := 0) (by omega) (by decide) (by omega)
    have nv : ¬ i32 (w + 1) = (-1 : Int32) - i32 v := fun z => by
      rw [← em_cyc (Z := Z), ← em_walk hZ hv] at z
      have := em_inj hZ (by omega) (by omega) z
      omega
    rw [e57, if_neg n0, if_neg nv]
    have hst : TQ Z f T1 (mk f v (Z + 1 + w) 0 (mk f v (v + 1) (cOf Z f μ v) μ), cy, le, si, up1 ba w (ba w + 0)) := by
      refine ⟨u2.1, u2.2.1, u2.2.2.1, fun i hi => ?_⟩
      obtain ⟨p5, p6, p7⟩ := u2.2.2.2 i hi
      refine ⟨p5, p6, ?_⟩
      show _ = i32 (up1 ba w (ba w + 0) i)
      unfold up1
      by_cases e : i = w
      · subst e; rw [if_pos rfl]; exact p7
      · rw [if_neg e]; exact p7
    obtain ⟨T2, w1, w2, w3⟩ := f277_go (N := N) (k114 := k114) (b0 := ba w) hZ hf hv hwc hcy (Or.inl ⟨h1, by omega, by omega⟩) (cOf Z f μ v) N 0 T1 hst (by omega) (by omega)
    have w1 : h_R_finds_277 N k114 N (i32 v) (i32 v) (i32 (w + 1)) T1 = _ := w1
    refine ⟨T2, w1, ?_, u3.trans w3⟩
    by_cases h0 : cOf Z f μ v = 0
    · rw [if_pos h0]
      rw [h0] at w2
      have e1 : up1 ba w (ba w + 0) = ba := funext fun i => by
        unfold up1
        by_cases e : i = w
        · subst e; rw [if_pos rfl]; rfl
        · rw [if_neg e]
      rw [e1] at w2
      exact w2
    · rw [if_neg h0, if_pos h1, hw, show Z + 1 + w - (Z + 1) = w by omega]
      exact w2
  · have h1 : μ (it f (cOf Z f μ v) v) = 0 := Classical.byContradiction h1
    obtain ⟨a, a1, a2, p1, p2, p3, p4, p5⟩ := own_end hf hv h1
    have hon : mk f v (v + 1) (cOf Z f μ v) μ (it f (cOf Z f μ v) v) = v + 1 := by rw [← a2]; exact mk_on a1
    rw [hon, em_walk hZ hv] at e57
    have n0 : ¬ (-1 : Int32) - i32 v = 0 := fun z => by
      rw [← em_walk hZ hv, ← em_zero (Z := Z)] at z
      have := em_inj hZ (by omega) (by omega) z
      omega
    have h0 : ¬ cOf Z f μ v = 0 := by omega
    have hcyZ : cy < Z := by
      have h := qi_cy hq'
      unfold wlk at h
      have h : (if cOf Z f μ v = 0 then (μ, cy, le, si, ba) else if μ (it f (cOf Z f μ v) v) ≠ 0 then (mk f v (μ (it f (cOf Z f μ v) v)) (cOf Z f μ v) μ, cy, le, si, up1 ba (μ (it f (cOf Z f μ v) v) - (Z + 1)) (ba (μ (it f (cOf Z f μ v) v) - (Z + 1)) + cOf Z f μ v))
        else (mk f v (Z + 1 + cy) (cOf Z f μ v) μ, cy + 1, up1 le cy (mnl f (it f (cOf Z f μ v) v) (per Z f (it f (cOf Z f μ v) v))), up1 si cy (per Z f (it f (cOf Z f μ v) v)), up1 ba cy (cOf Z f μ v))).2.1 ≤ Z := h
      rw [if_neg h0, if_neg (fun z => z h1)] at h
      exact h
    have e55 : T1.1 55 0 = i32 cy := u2.2.2.1
    rw [if_neg h0, if_neg (show ¬ μ (it f (cOf Z f μ v) v) ≠ 0 from fun z => z h1), e57, if_neg n0, if_pos rfl, e55, show i32 cy + 1 = i32 (cy + 1) from i32_add cy 1, ts_eq]
    generalize hP : per Z f (it f (cOf Z f μ v) v) = P at *
    have hb := f194_go (N := N) (k114 := k114) (v2 := i32 v) (k := it f (cOf Z f μ v) v) (P := P) (cy := cy) (T := tsI T1 55 0 (i32 (cy + 1))) hZ hf hlt hcyZ p1 p4 (fun i hi => by rw [ts_ne (by decide)]; exact u2.1 i hi) (by omega) P N 0 (by omega) p2 (by omega)
    have hb : h_R_finds_194 N k114 N (i32 v) (i32 (it f (cOf Z f μ v) v)) (i32 (cy + 1)) 0 (i32 (it f (cOf Z f μ v) v)) (i32 (it f (cOf Z f μ v) v)) true (tsI T1 55 0 (i32 (cy + 1))) = _ := hb
    rw [hb]
    have hst : TQ Z f (tsI (tsI (tsI (tsI T1 55 0 (i32 (cy + 1))) 58 cy (i32 (mnl f (it f (cOf Z f μ v) v) P))) 59 cy (i32 P)) 60 cy 0) (mk f v (Z + 1 + cy) 0 (mk f v (v + 1) (cOf Z f μ v) μ), cy + 1, up1 le cy (mnl f (it f (cOf Z f μ v) v) P), up1 si cy P, up1 ba cy (0 + 0)) := by
      refine ⟨fun i hi => ?_, fun i hi => ?_, ?_, fun i hi => ⟨?_, ?_, ?_⟩⟩
      · rw [ts_ne (by decide), ts_ne (by decide), ts_ne (by decide), ts_ne (by decide)]; exact u2.1 i hi
      · rw [ts_ne (by decide), ts_ne (by decide), ts_ne (by decide), ts_ne (by decide)]; exact u2.2.1 i hi
      · rw [ts_ne (by decide), ts_ne (by decide), ts_ne (by decide), ts_eq]
      · have hi : i < cy + 1 := hi
        show _ = i32 (up1 le cy (mnl f (it f (cOf Z f μ v) v) P) i)
        unfold up1
        rw [ts_ne (by decide), ts_ne (by decide)]
        by_cases e : i = cy
        · subst e; rw [if_pos rfl, ts_eq]
        · rw [if_neg e, ts_nj e, ts_ne (by decide)]; exact (u2.2.2.2 i (by show i < cy; omega)).1
      · have hi : i < cy + 1 := hi
        show _ = i32 (up1 si cy P i)
        unfold up1
        rw [ts_ne (by decide)]
        by_cases e : i = cy
        · subst e; rw [if_pos rfl, ts_eq]
        · rw [if_neg e, ts_nj e, ts_ne (by decide), ts_ne (by decide)]; exact (u2.2.2.2 i (by show i < cy; omega)).2.1
      · have hi : i < cy + 1 := hi
        show _ = i32 (up1 ba cy (0 + 0) i)
        unfold up1
        by_cases e : i = cy
        · subst e; rw [if_pos rfl, ts_eq]; rfl
        · rw [if_neg e, ts_nj e, ts_ne (by decide), ts_ne (by decide), ts_ne (by decide)]; exact (u2.2.2.2 i (by show i < cy; omega)).2.2
    obtain ⟨T2, w1, w2, w3⟩ := f277_go (N := N) (k114 := k114) (μ := μ) (w := cy) (cy := cy + 1) (b0 := 0) hZ hf hv (by omega) (by omega) (Or.inr ⟨a, a1, a2⟩) (cOf Z f μ v) N 0 _ hst (by omega) (by omega)
    have w1 : h_R_finds_277 N k114 N (i32 v) (i32 v) (i32 (cy + 1)) _ = _ := w1
    rw [Nat.zero_add] at w2
    exact ⟨T2, w1, w2, ((u3.trans (fc_I (by decide))).trans (((fc_I (by decide)).trans (fc_I (by decide))).trans (fc_I (by decide)))).trans w3⟩
theorem f114_go {N : Nat} (hN : 200000 ≤ N) (hZ : Z = 65536) (hf : ∀ i, i < Z → f i < Z) : ∀ (q g v : Nat) (T : MT), TQ Z f T (rnf Z f v) → v + q = Z → q < g → ∃ T', h_R_finds_114 N g (i32 v) T = some T' ∧ TQ Z f T' (rnf Z f Z) ∧ Fc T T'
  | 0, 0, _, _, _, _, h => absurd h (by omega)
  | 0, g + 1, v, T, h, hv, _ => by
    have : v = Z := by omega
    subst this
    refine ⟨T, ?_, h, Fc.refl _⟩
    unfold h_R_finds_114
    rw [if_pos (by rw [show (65536 : Int32) = i32 65536 from rfl, i32_le (by omega) (by omega)]; omega)]
  | q + 1, 0, _, _, _, _, h => absurd h (by omega)
  | q + 1, g + 1, v, T, h, hv, hq => by
    obtain ⟨T1, u1, u2, u3⟩ := f114_step (N := N) (k114 := h_R_finds_114 N g) hN hZ hf (show v < Z by omega) (qi_rnf hf v (by omega)) h
    obtain ⟨T2, w1, w2, w3⟩ := f114_go hN hZ hf q g (v + 1) T1 u2 (by omega) (by omega)
    refine ⟨T2, ?_, w2, u3.trans w3⟩
    unfold h_R_finds_114
    rw [if_neg (by rw [show (65536 : Int32) = i32 65536 from rfl, i32_le (by omega) (by omega)]; omega)]
    exact u1.trans w1
/-- the map of a section, on both sides -/
def nxS (S : ST) (s : Nat) : Nat → Nat := nx (S.2.1 7 (5 * s + 1)) (i32 (S.1 5 s)) (i32 (S.1 6 s))
theorem sub_neg_15 (x : Int32) : x - (-32768 : Int32) = x + 32768 := by rw [Int32.sub_eq_add_neg]; rfl
theorem f7_go {N : Nat} (hZ : Z = 65536) (J : JJ G E B bx m ad S A C (tOf S)) (hs : s < S.1 1 0) (h2 : S.1 3 s = 2) (h5 : S.1 5 s ≤ 1) : ∀ (q g v : Nat) (T : MT), RT S T → T.1 55 0 = 0 → (∀ i, i < v → T.1 56 i = i32 (nxS S s i) ∧ T.1 57 i = 0) → v + q = Z → q < g → ∃ T', h_R_finds_7 N g (i32 s) (i32 v) T = h_R_finds_114 N N 0 T' ∧ TQ Z (nxS S s) T' (rnf Z (nxS S s) 0) ∧ Fc T T'
  | 0, 0, _, _, _, _, _, _, h => absurd h (by omega)
  | 0, g + 1, v, T, hR, h55, h, hv, _ => by
    refine ⟨T, ?_, ⟨fun i hi => (h i (by omega)).1, fun i hi => ?_, h55, fun w hw => absurd hw (Nat.not_lt_zero _)⟩, Fc.refl _⟩
    · unfold h_R_finds_7
      rw [if_pos (by rw [show (65536 : Int32) = i32 65536 from rfl, i32_le (by omega) (by omega)]; omega)]
    · rw [(h i (by omega)).2]; exact em_zero.symm
  | q + 1, 0, _, _, _, _, _, _, h => absurd h (by omega)
  | q + 1, g + 1, v, T, hR, h55, h, hv, hq => by
    have h60 := (jj_n J).1
    have hws := jj_ws J hs
    have JT := jj_T J hR
    have ec : h_R_c (i32 s) (1 : Int32) T = some (FP.l2d (S.2.1 7 (5 * s + 1))) := by
      have := coef_dv JT hs (j := 1) (by decide)
      rw [h2] at this
      exact this
    have hvb := cf_vb J hs (k := 1) (by decide)
    rw [h2] at hvb
    have ed := d2l_l2d' hvb.1 hvb.2
    have j60 : jrg 60 (i32 s) = some s := jrg_i32 (by omega) (by decide)
    -- what is told of this place
    have key : ∀ T1, T1 = tsI (tsI T 56 v (i32 (nxS S s v))) 57 v 0 → ∃ T', h_R_finds_7 N g (i32 s) (i32 (v + 1)) T1 = h_R_finds_114 N N 0 T' ∧ TQ Z (nxS S s) T' (rnf Z (nxS S s) 0) ∧ Fc T T' := fun T1 e1 => by
      subst e1
      have f0 : Fc T (tsI (tsI T 56 v (i32 (nxS S s v))) 57 v 0) := (fc_I (by decide)).trans (fc_I (by decide))
      obtain ⟨T', w1, w2, w3⟩ := f7_go hZ J hs h2 h5 q g (v + 1) _ (rt_Fc hR f0) (by rw [ts_ne (by decide), ts_ne (by decide)]; exact h55) (fun i hi => by
        by_cases e : i = v
        · subst e
          rw [ts_ne (by decide), ts_eq, ts_eq]
          exact ⟨rfl, rfl⟩
        · rw [ts_ne (by decide), ts_nj e, ts_nj e, ts_ne (by decide)]
          exact h i (by omega)) (by omega) (by omega)
      exact ⟨T', w1, w2, f0.trans w3⟩
    have k98 : ∀ x : Int32, x = i32 (nxS S s v) → h_R_finds_98 N (h_R_finds_7 N g) (i32 s) (i32 v) x (i32 v) T = h_R_finds_7 N g (i32 s) (i32 (v + 1)) (tsI (tsI T 56 v (i32 (nxS S s v))) 57 v 0) := fun x hx => by
      subst hx
      unfold h_R_finds_98
      rw [jrg_i32 (show v < 65536 by omega) (by decide), obd_some, jlet_eq, obd_some, jlet_eq, show i32 v + 1 = i32 (v + 1) from i32_add v 1]
    have enx : i32 (nxS S s v) = nxI (S.2.1 7 (5 * s + 1)) (i32 (S.1 5 s)) (i32 (S.1 6 s)) v := ((nx_of _ _ _ v).1).symm
    have k56 : h_R_finds_56 N (h_R_finds_7 N g) (i32 s) (i32 v) (g_Shorts_rounded (S.2.1 7 (5 * s + 1) * Int32.toInt64 (i32 v + (-32768 : Int32))) (i32 (S.1 5 s))) T = h_R_finds_7 N g (i32 s) (i32 (v + 1)) (tsI (tsI T 56 v (i32 (nxS S s v))) 57 v 0) := by
      unfold h_R_finds_56
      by_cases hh : g_Shorts_isShort (g_Shorts_rounded (S.2.1 7 (5 * s + 1) * Int32.toInt64 (i32 v + (-32768 : Int32))) (i32 (S.1 5 s))) = true
      · have hv2 : g_R_isValue (2 : Int32) (g_Shorts_rounded (S.2.1 7 (5 * s + 1) * Int32.toInt64 (i32 v + (-32768 : Int32))) (i32 (S.1 5 s))) = true := (isValue_hold (so := 2) _ (by decide)).mpr ((isShort_iff _).mp hh)
        rw [if_pos hv2]
        refine k98 _ ?_
        rw [enx]
        unfold nxI
        rw [if_pos hh, sub_neg_15]
      · have hv2 : ¬ g_R_isValue (2 : Int32) (g_Shorts_rounded (S.2.1 7 (5 * s + 1) * Int32.toInt64 (i32 v + (-32768 : Int32))) (i32 (S.1 5 s))) = true := fun z => hh ((isShort_iff _).mpr ((isValue_hold (so := 2) _ (by decide)).mp z))
        rw [if_neg hv2, j60, obd_some, hR.1 6 (by decide)]
        refine k98 _ ?_
        obtain ⟨l1, l2⟩ := limited_ref (g_Shorts_rounded (S.2.1 7 (5 * s + 1) * Int32.toInt64 (i32 v + (-32768 : Int32))) (i32 (S.1 5 s))) (l := S.1 6 s) hws.2.1.2
        have b := i64_bound l2.1 l2.2
        have e2 : FP.d2i (FP.l2d (g_Shorts_limited (g_Shorts_rounded (S.2.1 7 (5 * s + 1) * Int32.toInt64 (i32 v + (-32768 : Int32))) (i32 (S.1 5 s))) (i32 (S.1 6 s)))) = (g_Shorts_limited (g_Shorts_rounded (S.2.1 7 (5 * s + 1) * Int32.toInt64 (i32 v + (-32768 : Int32))) (i32 (S.1 5 s))) (i32 (S.1 6 s))).toInt32 := FP.Core.d2i_l2d (by omega) (by omega)
        rw [l1, e2, enx]
        unfold nxI
        rw [if_neg hh, sub_neg_15]
    obtain ⟨T', w1, w2, w3⟩ := key _ rfl
    refine ⟨T', ?_, w2, w3⟩
    unfold h_R_finds_7
    rw [if_neg (by rw [show (65536 : Int32) = i32 65536 from rfl, i32_le (by omega) (by omega)]; omega), ec, obd_some, ed, jlet_eq, j60, obd_some, hR.1 5 (by decide), show i32 v - (32768 : Int32) = i32 v + (-32768 : Int32) from by rw [Int32.sub_eq_add_neg]]
    by_cases h0 : S.1 5 s = 0
    · rw [h0] at k56
      rw [h0, if_pos (by rfl), floor_shr, obd_some]
      have e : g_Shorts_rounded (S.2.1 7 (5 * s + 1) * Int32.toInt64 (i32 v + (-32768 : Int32))) (i32 0) = (S.2.1 7 (5 * s + 1) * Int32.toInt64 (i32 v + (-32768 : Int32)) + 8192) >>> (Int32.toInt64 (14 : Int32) &&& 63) := if_pos rfl
      rw [← e]
      exact k56.trans w1
    · have h1 : S.1 5 s = 1 := by omega
      rw [h1] at k56
      rw [h1, if_neg (by decide)]
      have e : g_Shorts_rounded (S.2.1 7 (5 * s + 1) * Int32.toInt64 (i32 v + (-32768 : Int32))) (i32 1) = S.2.1 7 (5 * s + 1) * Int32.toInt64 (i32 v + (-32768 : Int32)) / 16384 := if_neg (by decide)
      rw [← e]
      exact k56.trans w1
theorem finds_ref {N : Nat} (hN : 200000 ≤ N) (hZ : Z = 65536) (J : JJ G E B bx m ad S A C T) (hs : s < S.1 1 0) (h2 : S.1 3 s = 2) (h5 : S.1 5 s ≤ 1) : ∃ T', h_R_finds N (i32 s) T = some T' ∧ TQ Z (nxS S s) T' (rnf Z (nxS S s) Z) ∧ Fc T T' := by
  have hf : ∀ i, i < Z → nxS S s i < Z := fun i _ => by rw [hZ]; exact (nx_of _ _ _ i).2
  obtain ⟨T1, u1, u2, u3⟩ := f7_go (N := N) hZ (jj_T J (rt_tOf S)) hs h2 h5 Z N 0 (tsI T 55 0 0) (rt_Fc (jj_rt J) (fc_I (by decide))) ts_eq (fun i hi => absurd hi (Nat.not_lt_zero _)) (by omega) (by omega)
  obtain ⟨T2, w1, w2, w3⟩ := f114_go hN hZ hf Z N 0 T1 u2 (by omega) (by omega)
  refine ⟨T2, ?_, w2, ((fc_I (by decide)).trans u3).trans w3⟩
  unfold h_R_finds
  rw [jlet_eq]
  exact u1.trans w1
end CYCREF
