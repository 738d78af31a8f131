/-! what lies under a place of a chain; the stack of what waits -/
section TREE
variable {G : GT} {E B bx m s c p : Nat} {ad : Nat → Nat} {S : ST} {A : AT} {C : CT} {T : MT}
def ups (S : ST) : Nat → Nat → Nat → Nat → Prop
  | 0, _, _, _ => False
  | n + 1, d, c, p => ∃ h e, S.1 19 d = h + 1 ∧ S.1 8 h = e + 1 ∧ ((e = c ∧ S.1 9 h = p + 1) ∨ ups S n e c p)
/-- chain d lies under place p of chain c -/
def Und (S : ST) (d c p : Nat) : Prop := ∃ n, ups S n d c p
theorem hold_r (J : JJ G E B bx m ad S A C T) {d h : Nat} (hd : d < S.1 16 0) (h19 : S.1 19 d = h + 1) : h < S.1 1 0 ∧ S.1 10 h = d + 1 ∧ S.1 2 h = 15 ∧ ∃ c p, S.1 8 h = c + 1 ∧ S.1 9 h = p + 1 ∧ d < c ∧ c < S.1 16 0 ∧ p < S.1 17 c ∧ S.1 18 (10 * c + p) = h := by
  obtain ⟨h1, h2, -⟩ := (jj_wc J hd).2.2.1 h h19
  have hw := jj_ws J h1
  obtain ⟨k1, k2, k3, c, k4, k5⟩ := hw.2.2.2.2.2.1 d h2
  obtain ⟨m1, p, m2, m3, m4⟩ := hw.2.2.2.2.1 c k4
  exact ⟨h1, h2, k1, c, p, k4, m2, k5.1, m1, m3, m4⟩
theorem und_lt (J : JJ G E B bx m ad S A C T) : ∀ (n d c p : Nat), d < S.1 16 0 → ups S n d c p → d < c
  | 0, _, _, _, _, h => h.elim
  | n + 1, d, c, p, hd, ⟨h, e, h1, h2, h3⟩ => by
    obtain ⟨-, -, -, c', p', k1, k2, k3, k4, -⟩ := hold_r J hd h1
    have : c' = e := by omega
    subst this
    rcases h3 with ⟨rfl, -⟩ | h3
    · exact k3
    · exact Nat.lt_trans k3 (und_lt J n c' c p k4 h3)
theorem und_fun (J : JJ G E B bx m ad S A C T) : ∀ (n n' d c p p' : Nat), d < S.1 16 0 → ups S n d c p → ups S n' d c p' → p = p'
  | 0, _, _, _, _, _, _, h, _ => h.elim
  | _ + 1, 0, _, _, _, _, _, _, h => h.elim
  | n + 1, n' + 1, d, c, p, p', hd, ⟨h, e, h1, h2, h3⟩, ⟨g, f, g1, g2, g3⟩ => by
    obtain ⟨-, -, -, c', q, k1, k2, k3, k4, -⟩ := hold_r J hd h1
    have e1 : g = h := by omega
    subst e1
    have e2 : f = e := by omega
    have e3 : c' = e := by omega
    subst e2; subst e3
    rcases h3 with ⟨q1, q2⟩ | h3
    · rcases g3 with ⟨r1, r2⟩ | g3
      · omega
      · have := und_lt J n' c' c p' k4 g3
        omega
    · rcases g3 with ⟨r1, r2⟩ | g3
      · have := und_lt J n c' c p k4 h3
        omega
      · exact und_fun J n n' c' c p p' k4 h3 g3
theorem und_trans : ∀ (n d c p : Nat), ups S n d c p → ∀ {e q : Nat}, Und S c e q → Und S d e q
  | 0, _, _, _, h, _, _, _ => h.elim
  | n + 1, d, c, p, ⟨h, f, h1, h2, h3⟩, e, q, hu => by
    rcases h3 with ⟨rfl, -⟩ | h3
    · obtain ⟨k, hk⟩ := hu
      exact ⟨k + 1, h, f, h1, h2, Or.inr hk⟩
    · obtain ⟨k, hk⟩ := und_trans n f c p h3 hu
      exact ⟨k + 1, h, f, h1, h2, Or.inr hk⟩
theorem ups_eq {S' : ST} (h19 : S'.1 19 = S.1 19) (h8 : S'.1 8 = S.1 8) (h9 : S'.1 9 = S.1 9) : ∀ (n d c p : Nat), ups S' n d c p ↔ ups S n d c p
  | 0, _, _, _ => Iff.rfl
  | n + 1, d, c, p => by
    show (∃ h e, _) ↔ (∃ h e, _)
    simp only [h19, h8, h9, ups_eq h19 h8 h9 n]
theorem und_dy {S' : ST} (h : Dy S S') (d c p : Nat) : Und S' d c p ↔ Und S d c p :=
  exists_congr fun n => ups_eq (h.1 19 (by decide)) (h.1 8 (by decide)) (h.1 9 (by decide)) n d c p
/-- chain d may make something when a value goes on from place p of chain c -/
def Sub (S : ST) (c p d : Nat) : Prop := d = c ∨ ∃ r, p ≤ r ∧ Und S d c r
theorem sub_dy {S' : ST} (h : Dy S S') (c p d : Nat) : Sub S' c p d ↔ Sub S c p d :=
  or_congr Iff.rfl (exists_congr fun r => and_congr Iff.rfl (und_dy h d c r))
theorem sub_succ {d : Nat} (h : Sub S c (p + 1) d) : Sub S c p d := by
  rcases h with h | ⟨r, h1, h2⟩
  · exact Or.inl h
  · exact Or.inr ⟨r, by omega, h2⟩
/-- the chain within a MIX -/
theorem inner_und (J : JJ G E B bx m ad S A C T) (hc : c < S.1 16 0) (hp : p < S.1 17 c) {d : Nat} (h10 : S.1 10 (S.1 18 (10 * c + p)) = d + 1) : Und S d c p ∧ d < c ∧ S.1 17 d ≠ 0 ∧ cso S d = S.1 3 (S.1 18 (10 * c + p)) ∧ ∀ r, r < S.1 17 d → rate (S.1 2 (S.1 18 (10 * d + r))) = false := by
  obtain ⟨m1, m2, m3, -⟩ := (jj_wc J hc).2.1 p hp
  obtain ⟨k1, k2, k3, c', k4, k5⟩ := (jj_ws J m1).2.2.2.2.2.1 d h10
  obtain ⟨-, -, k6, k7⟩ := (jj_wc J k2).2.2.1 _ k3
  exact ⟨⟨1, _, c, k3, m2, Or.inl ⟨rfl, m3⟩⟩, by omega, k6, k5.2, k7⟩
theorem sub_inner (J : JJ G E B bx m ad S A C T) {d e : Nat} (hd : d < S.1 16 0) (he : e < S.1 16 0) (hu : Und S d c p) (h : Sub S d 0 e) : Sub S c p e ∧ ¬ Sub S c (p + 1) e := by
  have hue : Und S e c p := by
    rcases h with rfl | ⟨r, -, n, hn⟩
    · exact hu
    · exact und_trans n e d r hn hu
  refine ⟨Or.inr ⟨p, Nat.le_refl _, hue⟩, fun q => ?_⟩
  obtain ⟨n, hn⟩ := hue
  rcases q with rfl | ⟨r, hr, n', hn'⟩
  · exact absurd (und_lt J n _ _ p he hn) (by omega)
  · have := und_fun J n n' e c p r he hn hn'
    omega
/-- how often a value may come out that goes on from a place -/
def wid (S : ST) (c : Nat) : Nat → Nat → Nat
  | 0, _ => 1
  | q + 1, p => (if spread (S.1 2 (S.1 18 (10 * c + p))) = true then (S.2.2 4 (S.1 18 (10 * c + p))).toNatClampNeg else 1) * wid S c q (p + 1)
def spq (S : ST) (c : Nat) : Nat → Nat → Nat
  | 0, _ => 0
  | q + 1, p => (if spread (S.1 2 (S.1 18 (10 * c + p))) = true then 1 else 0) + spq S c q (p + 1)
theorem spq_cnt : ∀ (q p : Nat), cnt (fun p => spread (S.1 2 (S.1 18 (10 * c + p)))) (p + q) = cnt (fun p => spread (S.1 2 (S.1 18 (10 * c + p)))) p + spq S c q p
  | 0, p => rfl
  | q + 1, p => by
    rw [show p + (q + 1) = (p + 1) + q by omega, spq_cnt q (p + 1)]
    exact Nat.add_assoc _ (if spread (S.1 2 (S.1 18 (10 * c + p))) = true then 1 else 0) (spq S c q (p + 1))
theorem wid_dy {S' : ST} (h : Dy S S') : ∀ (q p : Nat), wid S' c q p = wid S c q p
  | 0, _ => rfl
  | q + 1, p => by
    unfold wid
    rw [wid_dy h q, h.1 2 (by decide), h.1 18 (by decide), h.2.2 4 (by decide)]
theorem spq_dy {S' : ST} (h : Dy S S') : ∀ (q p : Nat), spq S' c q p = spq S c q p
  | 0, _ => rfl
  | q + 1, p => by
    unfold spq
    rw [spq_dy h q, h.1 2 (by decide), h.1 18 (by decide)]
theorem spread_len (J : JJ G E B bx m ad S A C T) (hs : s < S.1 1 0) (hk : spread (S.1 2 s) = true) : S.2.2 4 s = i32 (S.2.2 4 s).toNatClampNeg ∧ 2 ≤ (S.2.2 4 s).toNatClampNeg ∧ (S.2.2 4 s).toNatClampNeg ≤ 8 := by
  have hk' : S.1 2 s = 13 ∨ S.1 2 s = 14 := by
    unfold spread at hk
    simp only [Bool.or_eq_true, beq_iff_eq] at hk
    exact hk
  have ln := (jj_ws J hs).1.2.2.2.2 (by omega)
  obtain ⟨l1, l2, l3⟩ := len_i32 (n := 8) (by omega) ln.2 (by decide)
  have e : ((S.2.2 4 s).toNatClampNeg : Int) = (S.2.2 4 s).toInt := by
    show (((S.2.2 4 s).toInt.toNat : Nat) : Int) = _
    omega
  exact ⟨l1, by omega, l3⟩
theorem wid_le (J : JJ G E B bx m ad S A C T) (hc : c < S.1 16 0) : ∀ (q p : Nat), p + q ≤ S.1 17 c → 1 ≤ wid S c q p ∧ wid S c q p ≤ 8 ^ spq S c q p
  | 0, _, _ => ⟨Nat.le_refl _, Nat.le_refl _⟩
  | q + 1, p, h => by
    obtain ⟨i1, i2⟩ := wid_le J hc q (p + 1) (by omega)
    obtain ⟨m1, -⟩ := mem_r J hc (show p < S.1 17 c by omega)
    unfold wid spq
    by_cases g : spread (S.1 2 (S.1 18 (10 * c + p))) = true
    · rw [if_pos g, if_pos g]
      obtain ⟨-, l2, l3⟩ := spread_len J m1 g
      refine ⟨Nat.mul_pos (by omega) i1, ?_⟩
      rw [Nat.pow_add, Nat.pow_one]
      exact Nat.mul_le_mul l3 i2
    · rw [if_neg g, if_neg g, Nat.one_mul, Nat.zero_add]
      exact ⟨i1, i2⟩
theorem flat_wid {d : Nat} (h : ∀ r, r < S.1 17 d → rate (S.1 2 (S.1 18 (10 * d + r))) = false) : ∀ (q p : Nat), p + q ≤ S.1 17 d → wid S d q p = 1 ∧ spq S d q p = 0
  | 0, _, _ => ⟨rfl, rfl⟩
  | q + 1, p, hp => by
    obtain ⟨i1, i2⟩ := flat_wid h q (p + 1) (by omega)
    have hr := h p (by omega)
    have g : ¬ spread (S.1 2 (S.1 18 (10 * d + p))) = true := fun z => by
      unfold rate at hr
      unfold spread at z
      simp only [Bool.or_eq_true, Bool.or_eq_false_iff, beq_iff_eq, beq_eq_false_iff_ne] at hr z
      omega
    unfold wid spq
    rw [if_neg g, if_neg g, i1, i2]
    exact ⟨rfl, rfl⟩
theorem tsI_ne {k k' j : Nat} {v : Int32} (h : k' ≠ k) : (tsI T k j v).1 k' = T.1 k' := funext fun _ => up2_k _ _ _ _ h
theorem tsI_eq {k j : Nat} {v : Int32} : (tsI T k j v).1 k j = v := up2_same _ _ _ _
theorem tsD_ne {k k' j : Nat} {v : UInt64} (h : k' ≠ k) : (tsD T k j v).2.2.1 k' = T.2.2.1 k' := funext fun _ => up2_k _ _ _ _ h
theorem tsD_eq {k j : Nat} {v : UInt64} : (tsD T k j v).2.2.1 k j = v := up2_same _ _ _ _
theorem tsI_j {k j j' : Nat} {v : Int32} (h : j' ≠ j) : (tsI T k j v).1 k j' = T.1 k j' := by simp [tsI, up2, h]
theorem tsD_j {k j j' : Nat} {v : UInt64} (h : j' ≠ j) : (tsD T k j v).2.2.1 k j' = T.2.2.1 k j' := by simp [tsD, up2, h]
/-- what waits below -/
def Stk (w : Nat) (T T' : MT) : Prop := ∀ j, j < w → T'.1 35 j = T.1 35 j ∧ T'.1 36 j = T.1 36 j ∧ T'.1 37 j = T.1 37 j ∧ T'.2.2.1 38 j = T.2.2.1 38 j
theorem Stk.refl (w : Nat) (T : MT) : Stk w T T := fun _ _ => ⟨rfl, rfl, rfl, rfl⟩
theorem Stk.trans {w : Nat} {T T' T'' : MT} (h : Stk w T T') (h' : Stk w T' T'') : Stk w T T'' := fun j hj => ⟨(h' j hj).1.trans (h j hj).1, (h' j hj).2.1.trans (h j hj).2.1, (h' j hj).2.2.1.trans (h j hj).2.2.1, (h' j hj).2.2.2.trans (h j hj).2.2.2⟩
theorem Stk.mono {w w' : Nat} {T T' : MT} (h : Stk w T T') (hw : w' ≤ w) : Stk w' T T' := fun j hj => h j (by omega)
theorem Fr.stk {T T' : MT} (h : Fr T T') (w : Nat) : Stk w T T' := fun j _ => ⟨congrFun (h.1 35 (by decide)) j, congrFun (h.1 36 (by decide)) j, congrFun (h.1 37 (by decide)) j, congrFun (h.2 38 (by decide)) j⟩
theorem waits_ref {w : Nat} {v : Int32} (h34 : T.1 34 0 = i32 w) (hw : w < 40) : ∃ T', h_R_waits v T = some T' ∧ Fg T T' ∧ T'.1 34 0 = i32 (w + 1) ∧ T'.1 35 w = T.1 39 0 ∧ T'.1 36 w = T.1 40 0 ∧ T'.1 37 w = v ∧ T'.2.2.1 38 w = T.2.2.1 41 0 ∧ Stk w T T' ∧ T'.1 39 = T.1 39 ∧ T'.1 40 = T.1 40 ∧ T'.2.2.1 41 = T.2.2.1 41 := by
  have j40 : jrg 40 (i32 w) = some w := jrg_i32 hw (by decide)
  refine ⟨tsI (tsD (tsI (tsI (tsI T 35 w (T.1 39 0)) 36 w (T.1 40 0)) 37 w v) 38 w (T.2.2.1 41 0)) 34 0 (i32 (w + 1)), ?_, ?_, tsI_eq, ?_, ?_, ?_, tsD_eq, fun j hj => ⟨?_, ?_, ?_, ?_⟩, ?_, ?_, ?_⟩
  · unfold h_R_waits
    simp only [jlet]
    have e1 : (tsI T 35 w (T.1 39 0)).1 34 0 = i32 w := by rw [tsI_ne (by decide)]; exact h34
    have e2 : (tsI (tsI T 35 w (T.1 39 0)) 36 w (T.1 40 0)).1 34 0 = i32 w := by rw [tsI_ne (by decide)]; exact e1
    have e3 : (tsI (tsI (tsI T 35 w (T.1 39 0)) 36 w (T.1 40 0)) 37 w v).1 34 0 = i32 w := by rw [tsI_ne (by decide)]; exact e2
    have e4 : (tsD (tsI (tsI (tsI T 35 w (T.1 39 0)) 36 w (T.1 40 0)) 37 w v) 38 w (T.2.2.1 41 0)).1 34 0 = i32 w := e3
    have e5 : (tsI T 35 w (T.1 39 0)).1 40 0 = T.1 40 0 := by rw [tsI_ne (by decide)]
    rw [h34, j40, obd_some, e1, j40, obd_some, e5, e2, j40, obd_some, e3, j40, obd_some]
    show some (tsI _ 34 0 (_ + 1)) = _
    rw [show (tsD (tsI (tsI (tsI T 35 w (T.1 39 0)) 36 w (T.1 40 0)) 37 w v) 38 w ((tsI (tsI (tsI T 35 w (T.1 39 0)) 36 w (T.1 40 0)) 37 w v).2.2.1 41 0)).1 34 0 = i32 w from e4, show i32 w + 1 = i32 (w + 1) from i32_add w 1]
    rfl
  · exact (((fg_I (by decide)).trans (fg_I (by decide))).trans (fg_I (by decide))).trans ((fg_D (by decide)).trans (fg_I (by decide)))
  · rw [tsI_ne (by decide)]
    show (tsI (tsI (tsI T 35 w (T.1 39 0)) 36 w (T.1 40 0)) 37 w v).1 35 w = _
    rw [tsI_ne (by decide), tsI_ne (by decide), tsI_eq]
  · rw [tsI_ne (by decide)]
    show (tsI (tsI (tsI T 35 w (T.1 39 0)) 36 w (T.1 40 0)) 37 w v).1 36 w = _
    rw [tsI_ne (by decide), tsI_eq]
  · rw [tsI_ne (by decide)]
    show (tsI (tsI (tsI T 35 w (T.1 39 0)) 36 w (T.1 40 0)) 37 w v).1 37 w = _
    rw [tsI_eq]
  · rw [tsI_ne (by decide)]
    show (tsI (tsI (tsI T 35 w (T.1 39 0)) 36 w (T.1 40 0)) 37 w v).1 35 j = _
    rw [tsI_ne (by decide), tsI_ne (by decide), tsI_j (by omega)]
  · rw [tsI_ne (by decide)]
    show (tsI (tsI (tsI T 35 w (T.1 39 0)) 36 w (T.1 40 0)) 37 w v).1 36 j = _
    rw [tsI_ne (by decide), tsI_j (by omega), tsI_ne (by decide)]
  · rw [tsI_ne (by decide)]
    show (tsI (tsI (tsI T 35 w (T.1 39 0)) 36 w (T.1 40 0)) 37 w v).1 37 j = _
    rw [tsI_j (by omega), tsI_ne (by decide), tsI_ne (by decide)]
  · show (tsD (tsI (tsI (tsI T 35 w (T.1 39 0)) 36 w (T.1 40 0)) 37 w v) 38 w (T.2.2.1 41 0)).2.2.1 38 j = _
    rw [tsD_j (by omega)]; rfl
  · rw [tsI_ne (by decide)]
    show (tsI (tsI (tsI T 35 w (T.1 39 0)) 36 w (T.1 40 0)) 37 w v).1 39 = _
    rw [tsI_ne (by decide), tsI_ne (by decide), tsI_ne (by decide)]
  · rw [tsI_ne (by decide)]
    show (tsI (tsI (tsI T 35 w (T.1 39 0)) 36 w (T.1 40 0)) 37 w v).1 40 = _
    rw [tsI_ne (by decide), tsI_ne (by decide), tsI_ne (by decide)]
  · show (tsD (tsI (tsI (tsI T 35 w (T.1 39 0)) 36 w (T.1 40 0)) 37 w v) 38 w (T.2.2.1 41 0)).2.2.1 41 = _
    rw [tsD_ne (by decide)]; rfl
/-- a spreader goes on -/
theorem on_spread {N w r : Nat} {z : UInt64} {kd : Nat} (h34 : T.1 34 0 = i32 (w + 1)) (hw : w < 40) (h35 : T.1 35 w = i32 c) (h36 : T.1 36 w = i32 p) (h37 : T.1 37 w = i32 r) (hr : 1 ≤ r) (hr8 : r < 100) (h38 : T.2.2.1 38 w = z) (hc : c < 20) (hp : p < 10) (h18 : T.1 18 (10 * c + p) = i32 s) (hs : s < 60) (h2 : T.1 2 s = i32 kd) (hkd : kd = 13 ∨ kd = 14) :
    ∃ T', h_R_goesOn N T = some (true, T') ∧ Fg T T' ∧ T'.1 39 0 = i32 c ∧ T'.1 40 0 = i32 (p + 1) ∧ T'.2.2.1 41 0 = (if kd = 14 then z else 0) ∧ T'.1 34 0 = i32 (if r = 1 then w else w + 1) ∧ T'.1 35 = T.1 35 ∧ T'.1 36 = T.1 36 ∧ T'.1 37 w = i32 (r - 1) ∧ (∀ j, j ≠ w → T'.1 37 j = T.1 37 j) ∧ T'.2.2.1 38 = T.2.2.1 38 := by
  have j40 : jrg 40 (i32 w) = some w := jrg_i32 hw (by decide)
  have jc : jrg 200 (i32 (10 * c + p)) = some (10 * c + p) := jrg_i32 (by omega) (by decide)
  have ec : (10 : Int32) * i32 c + i32 p = i32 (10 * c + p) := by rw [show (10 : Int32) = i32 10 from rfl, i32_mul, i32_add]
  have ew : i32 (w + 1) - (1 : Int32) = i32 w := i32_sub (a := w + 1) (b := 1) (by omega)
  have er : i32 r - (1 : Int32) = i32 (r - 1) := i32_sub (a := r) (b := 1) hr
  have j60 : jrg 60 (i32 s) = some s := jrg_i32 hs (by decide)
  generalize hT9 : tsI (tsI (tsI T 39 0 (i32 c)) 40 0 (i32 p)) 37 w (i32 (r - 1)) = T9
  have f9 : Fg T T9 := by rw [← hT9]; exact ((fg_I (by decide)).trans (fg_I (by decide))).trans (fg_I (by decide))
  have a39 : T9.1 39 0 = i32 c := by rw [← hT9, tsI_ne (by decide), tsI_ne (by decide), tsI_eq]
  have a40 : T9.1 40 0 = i32 p := by rw [← hT9, tsI_ne (by decide), tsI_eq]
  have a37 : T9.1 37 w = i32 (r - 1) := by rw [← hT9, tsI_eq]
  have b37 : ∀ j, j ≠ w → T9.1 37 j = T.1 37 j := fun j hj => by rw [← hT9, tsI_j hj, tsI_ne (by decide), tsI_ne (by decide)]
  have a34 : T9.1 34 0 = i32 (w + 1) := by rw [← hT9, tsI_ne (by decide), tsI_ne (by decide), tsI_ne (by decide)]; exact h34
  have a35 : T9.1 35 = T.1 35 := by rw [← hT9, tsI_ne (by decide), tsI_ne (by decide), tsI_ne (by decide)]
  have a36 : T9.1 36 = T.1 36 := by rw [← hT9, tsI_ne (by decide), tsI_ne (by decide), tsI_ne (by decide)]
  have a38 : T9.2.2.1 38 = T.2.2.1 38 := by rw [← hT9]; rfl
  have a2 : T9.1 2 s = i32 kd := by rw [f9.1 2 (by decide)]; exact h2
  have pre : h_R_goesOn N T = if i32 (r - 1) = 0 then h_R_goesOn_153 N (i32 w) (i32 s) (tsI T9 34 0 (i32 w)) else h_R_goesOn_153 N (i32 w) (i32 s) T9 := by
    have e36 : (tsI T 39 0 (i32 c)).1 36 w = i32 p := by rw [tsI_ne (by decide)]; exact h36
    have e39 : (tsI (tsI T 39 0 (i32 c)) 40 0 (i32 p)).1 39 0 = i32 c := by rw [tsI_ne (by decide), tsI_eq]
    have e40 : (tsI (tsI T 39 0 (i32 c)) 40 0 (i32 p)).1 40 0 = i32 p := tsI_eq
    have e37 : (tsI (tsI T 39 0 (i32 c)) 40 0 (i32 p)).1 37 w = i32 r := by rw [tsI_ne (by decide), tsI_ne (by decide)]; exact h37
    have e18 : (tsI (tsI T 39 0 (i32 c)) 40 0 (i32 p)).1 18 (10 * c + p) = i32 s := by rw [tsI_ne (by decide), tsI_ne (by decide)]; exact h18
    unfold h_R_goesOn
    rw [h34, if_neg (show ¬ i32 (w + 1) = 0 from i32_ne (b := 0) (by omega) (by decide) (by omega)), ew, j40, obd_some, h35]
    simp only [jlet, obd_some, e36, e39, e40, ec, jc, e37, e18, er]
    rw [if_pos (i32_ge0 (by omega)), hT9]
    simp only [a37, a34, ew]
  have f153 : ∀ U : MT, Fg T U → U.1 40 0 = i32 p → U.2.2.1 38 = T.2.2.1 38 → h_R_goesOn_153 N (i32 w) (i32 s) U = some (true, tsI (tsD U 41 0 (if kd = 14 then z else 0)) 40 0 (i32 (p + 1))) := by
    intro U hU h40 h38'
    unfold h_R_goesOn_153
    have e40 : ∀ y, (tsD U 41 0 y).1 40 0 = i32 p := fun y => h40
    rw [j60, obd_some, hU.1 2 (by decide), h2]
    rcases hkd with rfl | rfl
    · rw [if_neg (by decide : ¬ (i32 13 : Int32) = 14)]
      unfold h_R_goesOn_175
      simp only [jlet, e40]
      rw [show i32 p + 1 = i32 (p + 1) from i32_add p 1]
      rfl
    · rw [if_pos (by rfl : (i32 14 : Int32) = 14), j40, obd_some, h38', h38]
      unfold h_R_goesOn_175
      simp only [jlet, e40]
      rw [show i32 p + 1 = i32 (p + 1) from i32_add p 1]
      rfl
  have last : ∀ U : MT, Fg T U → U.1 39 0 = i32 c → U.1 40 0 = i32 p → U.1 34 0 = i32 (if r = 1 then w else w + 1) → U.1 35 = T.1 35 → U.1 36 = T.1 36 → U.1 37 w = i32 (r - 1) → (∀ j, j ≠ w → U.1 37 j = T.1 37 j) → U.2.2.1 38 = T.2.2.1 38 → h_R_goesOn N T = h_R_goesOn_153 N (i32 w) (i32 s) U →
      ∃ T', h_R_goesOn N T = some (true, T') ∧ Fg T T' ∧ T'.1 39 0 = i32 c ∧ T'.1 40 0 = i32 (p + 1) ∧ T'.2.2.1 41 0 = (if kd = 14 then z else 0) ∧ T'.1 34 0 = i32 (if r = 1 then w else w + 1) ∧ T'.1 35 = T.1 35 ∧ T'.1 36 = T.1 36 ∧ T'.1 37 w = i32 (r - 1) ∧ (∀ j, j ≠ w → T'.1 37 j = T.1 37 j) ∧ T'.2.2.1 38 = T.2.2.1 38 := by
    intro U hU u39 u40 u34 u35 u36 u37 v37 u38 hg
    refine ⟨_, hg.trans (f153 U hU u40 u38), hU.trans ((fg_D (by decide)).trans (fg_I (by decide))), ?_, tsI_eq, tsD_eq, ?_, ?_, ?_, ?_, fun j hj => ?_, ?_⟩
    · rw [tsI_ne (by decide)]; exact u39
    · rw [tsI_ne (by decide)]; exact u34
    · rw [tsI_ne (by decide)]; exact u35
    · rw [tsI_ne (by decide)]; exact u36
    · rw [tsI_ne (by decide)]; exact u37
    · rw [tsI_ne (by decide)]; exact v37 j hj
    · show (tsD U 41 0 _).2.2.1 38 = _
      rw [tsD_ne (by decide)]; exact u38
  by_cases g : r = 1
  · refine last (tsI T9 34 0 (i32 w)) (f9.trans (fg_I (by decide))) (by rw [tsI_ne (by decide)]; exact a39) (by rw [tsI_ne (by decide)]; exact a40) (by rw [if_pos g, tsI_eq]) (by rw [tsI_ne (by decide)]; exact a35) (by rw [tsI_ne (by decide)]; exact a36) (by rw [tsI_ne (by decide)]; exact a37) (fun j hj => by rw [tsI_ne (by decide)]; exact b37 j hj) a38 ?_
    rw [pre, if_pos (by rw [g]; rfl)]
  · refine last T9 f9 a39 a40 (by rw [if_neg g]; exact a34) a35 a36 a37 b37 a38 ?_
    rw [pre, if_neg (show ¬ i32 (r - 1) = 0 from i32_ne (b := 0) (by omega) (by decide) (by omega))]
/-- a MIX goes on -/
theorem on_mix {N w : Nat} (h34 : T.1 34 0 = i32 (w + 1)) (hw : w < 40) (h35 : T.1 35 w = i32 c) (h36 : T.1 36 w = i32 p) (h37 : T.1 37 w = -1) (hc : c < 20) (hp : p < 10) (h18 : T.1 18 (10 * c + p) = i32 s) :
    h_R_goesOn N T = (obd (h_R_begins (i32 s) (tsI (tsI (tsI T 39 0 (i32 c)) 40 0 (i32 p)) 34 0 (i32 w))) fun (T13 : MT) =>
      obd (h_R_c (i32 s) (0 : Int32) T13) fun x14 =>
      obd (h_R_term x14 (T13.2.2.1 38 w) false T13) fun (T16 : MT) =>
      obd (h_R_c (i32 s) (1 : Int32) T16) fun x17 =>
      obd (h_R_term x17 (T16.2.2.1 33 0) false T16) fun (T18 : MT) =>
      tbd2 (h_R_comes T18) fun x19 T20 =>
      obd (h_R_leaves N (tsD T20 41 0 x19)) fun (T22 : MT) =>
      some (true, T22)) := by
  have j40 : jrg 40 (i32 w) = some w := jrg_i32 hw (by decide)
  have jc : jrg 200 (i32 (10 * c + p)) = some (10 * c + p) := jrg_i32 (by omega) (by decide)
  have ec : (10 : Int32) * i32 c + i32 p = i32 (10 * c + p) := by rw [show (10 : Int32) = i32 10 from rfl, i32_mul, i32_add]
  have ew : i32 (w + 1) - (1 : Int32) = i32 w := i32_sub (a := w + 1) (b := 1) (by omega)
  have e36 : (tsI T 39 0 (i32 c)).1 36 w = i32 p := by rw [tsI_ne (by decide)]; exact h36
  have e39 : (tsI (tsI T 39 0 (i32 c)) 40 0 (i32 p)).1 39 0 = i32 c := by rw [tsI_ne (by decide), tsI_eq]
  have e40 : (tsI (tsI T 39 0 (i32 c)) 40 0 (i32 p)).1 40 0 = i32 p := tsI_eq
  have e37 : (tsI (tsI T 39 0 (i32 c)) 40 0 (i32 p)).1 37 w = -1 := by rw [tsI_ne (by decide), tsI_ne (by decide)]; exact h37
  have e18 : (tsI (tsI T 39 0 (i32 c)) 40 0 (i32 p)).1 18 (10 * c + p) = i32 s := by rw [tsI_ne (by decide), tsI_ne (by decide)]; exact h18
  have e34 : (tsI (tsI T 39 0 (i32 c)) 40 0 (i32 p)).1 34 0 = i32 (w + 1) := by rw [tsI_ne (by decide), tsI_ne (by decide)]; exact h34
  unfold h_R_goesOn
  rw [h34, if_neg (show ¬ i32 (w + 1) = 0 from i32_ne (b := 0) (by omega) (by decide) (by omega)), ew, j40, obd_some, h35]
  simp only [jlet, obd_some, e36, e39, e40, ec, jc, e37, e18, e34, ew]
  rw [if_neg (by decide : ¬ (0 : Int32) ≤ -1)]
end TREE
