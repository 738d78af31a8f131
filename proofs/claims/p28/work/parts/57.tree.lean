/-! a chain and those within it -/
theorem pig : ∀ (n m : Nat) (f : Nat → Nat), (∀ a, a < m → f a < n) → (∀ a b, a < m → b < m → f a = f b → a = b) → m ≤ n
  | 0, m, f, h1, _ => by
    by_cases h : m = 0
    · omega
    · exact absurd (h1 0 (by omega)) (Nat.not_lt_zero _)
  | n + 1, m, f, h1, h2 => by
    by_cases h : ∃ a, a < m ∧ f a = n
    · obtain ⟨a, ha, hf⟩ := h
      have := pig n (m - 1) (fun x => if x < a then f x else f (x + 1)) (fun x hx => by
        show (if x < a then f x else f (x + 1)) < n
        by_cases q : x < a
        · rw [if_pos q]
          have g1 := h1 x (by omega)
          have g2 : f x ≠ n := fun z => by have := h2 x a (by omega) ha (z.trans hf.symm); omega
          omega
        · rw [if_neg q]
          have g1 := h1 (x + 1) (by omega)
          have g2 : f (x + 1) ≠ n := fun z => by have := h2 (x + 1) a (by omega) ha (z.trans hf.symm); omega
          omega) (fun x y hx hy hxy => by
        have hxy : (if x < a then f x else f (x + 1)) = (if y < a then f y else f (y + 1)) := hxy
        by_cases q : x < a
        · rw [if_pos q] at hxy
          by_cases q' : y < a
          · rw [if_pos q'] at hxy; exact h2 x y (by omega) (by omega) hxy
          · rw [if_neg q'] at hxy; have := h2 x (y + 1) (by omega) (by omega) hxy; omega
        · rw [if_neg q] at hxy
          by_cases q' : y < a
          · rw [if_pos q'] at hxy; have := h2 (x + 1) y (by omega) (by omega) hxy; omega
          · rw [if_neg q'] at hxy; have := h2 (x + 1) (y + 1) (by omega) (by omega) hxy; omega)
      omega
    · have := pig n m f (fun a ha => by
        have g1 := h1 a ha
        have g2 : f a ≠ n := fun z => h ⟨a, ha, z⟩
        omega) h2
      omega
section TREE
variable {G : GT} {E B bx m s l c c0 : Nat} {ad : Nat → Nat} {S : ST} {A : AT} {C : CT} {T : MT}
def hin (S : ST) : Nat → Nat → Nat := fun d p => S.1 10 (S.1 18 (10 * d + p))
def tre (S : ST) (c : Nat) : TR := tro (S.1 17) (hin S) 21 0 (1, fun _ => c)
def TI (S : ST) (c0 : Nat) (t : TR) (i p : Nat) : Prop := (1 ≤ t.1 ∧ t.2 0 = c0) ∧ (∀ a, a < t.1 → t.2 a ≤ c0) ∧ (∀ a b, a < t.1 → b < t.1 → t.2 a = t.2 b → a = b) ∧
  ∀ b, 0 < b → b < t.1 → ∃ a x, (a < i ∨ a = i ∧ x < p) ∧ a < t.1 ∧ x < S.1 17 (t.2 a) ∧ S.1 10 (S.1 18 (10 * t.2 a + x)) = t.2 b + 1
theorem ti_bound {t : TR} {i p : Nat} (h : TI S c0 t i p) (h0 : c0 < S.1 16 0) (h20 : S.1 16 0 ≤ 20) : t.1 ≤ 20 := by
  have := pig (S.1 16 0) t.1 t.2 (fun a ha => by have := h.2.1 a ha; omega) h.2.2.1
  omega
theorem ti_mono {t : TR} {i p i' p' : Nat} (h : TI S c0 t i p) (hm : ∀ a x, a < t.1 → x < S.1 17 (t.2 a) → (a < i ∨ a = i ∧ x < p) → (a < i' ∨ a = i' ∧ x < p')) : TI S c0 t i' p' :=
  ⟨h.1, h.2.1, h.2.2.1, fun b h1 h2 => by
    obtain ⟨a, x, g1, g2, g3, g4⟩ := h.2.2.2 b h1 h2
    exact ⟨a, x, hm a x g2 g3 g1, g2, g3, g4⟩⟩
/-- what is known of a section that holds a chain -/
theorem mix_of (J : JJ G E B bx m ad S A C T) {d p e : Nat} (hd : d < S.1 16 0) (hp : p < S.1 17 d) (he : S.1 10 (S.1 18 (10 * d + p)) = e + 1) : e < d ∧ S.1 19 e = S.1 18 (10 * d + p) + 1 ∧ S.1 8 (S.1 18 (10 * d + p)) = d + 1 ∧ S.1 9 (S.1 18 (10 * d + p)) = p + 1 := by
  have w := (jj_wc J hd).2.1 p hp
  have ws := (jj_ws J w.1).2.2.2.2.2.1 e he
  obtain ⟨z1, z2, z3, c, z4, z5⟩ := ws
  have := w.2.1
  exact ⟨by omega, z3, w.2.1, w.2.2.1⟩
theorem ti_push (J : JJ G E B bx m ad S A C T) (h0 : c0 < S.1 16 0) {t : TR} {i p e : Nat} (h : TI S c0 t i p) (hi : i < t.1) (hp : p < S.1 17 (t.2 i)) (he : S.1 10 (S.1 18 (10 * t.2 i + p)) = e + 1) : TI S c0 (tph t e) i (p + 1) := by
  obtain ⟨⟨g1, g2⟩, g3, g4, g5⟩ := h
  have hd := g3 i hi
  obtain ⟨m1, m2, m3, m4⟩ := mix_of J (show t.2 i < S.1 16 0 by omega) hp he
  have hnew : ∀ b, b < t.1 → t.2 b ≠ e := fun b hb hq => by
    by_cases b0 : b = 0
    · subst b0; omega
    · obtain ⟨a, x, z1, z2, z3, z4⟩ := g5 b (by omega) hb
      rw [hq] at z4
      have ha := g3 a z2
      obtain ⟨n1, n2, n3, n4⟩ := mix_of J (show t.2 a < S.1 16 0 by omega) z3 z4
      have es : S.1 18 (10 * t.2 a + x) = S.1 18 (10 * t.2 i + p) := by omega
      rw [es] at n3 n4
      have ea := g4 a i z2 hi (by omega)
      omega
  refine ⟨⟨by show 1 ≤ t.1 + 1; omega, ?_⟩, fun a ha => ?_, fun a b ha hb hab => ?_, fun b b0 hb => ?_⟩
  · rw [tph_lt (by omega)]; exact g2
  · have ha : a < t.1 + 1 := ha
    by_cases q : a = t.1
    · subst q; rw [tph_at]; omega
    · rw [tph_lt (by omega)]; exact g3 a (by omega)
  · have ha : a < t.1 + 1 := ha
    have hb : b < t.1 + 1 := hb
    by_cases q : a = t.1
    · subst q
      rw [tph_at] at hab
      by_cases q' : b = t.1
      · omega
      · rw [tph_lt (by omega)] at hab; exact absurd hab.symm (hnew b (by omega))
    · rw [tph_lt (by omega)] at hab
      by_cases q' : b = t.1
      · subst q'; rw [tph_at] at hab; exact absurd hab (hnew a (by omega))
      · rw [tph_lt (by omega)] at hab; exact g4 a b (by omega) (by omega) hab
  · have hb : b < t.1 + 1 := hb
    by_cases q : b = t.1
    · subst q
      refine ⟨i, p, Or.inr ⟨rfl, Nat.lt_succ_self _⟩, by show i < t.1 + 1; omega, ?_, ?_⟩
      · rw [tph_lt hi]; exact hp
      · rw [tph_at, tph_lt hi]; exact he
    · obtain ⟨a, x, z1, z2, z3, z4⟩ := g5 b b0 (by omega)
      refine ⟨a, x, by omega, by show a < t.1 + 1; omega, ?_, ?_⟩
      · rw [tph_lt z2]; exact z3
      · rw [tph_lt z2, tph_lt (by omega)]; exact z4
def TH (A : AT) (C : CT) (t : TR) : Prop := ∀ a, a < t.1 → C.2.2.2.2.1 900 (A 3 3) a = some (A 1 (t.2 a))
def TM (T : MT) (t : TR) : Prop := T.1 42 0 = i32 t.1 ∧ ∀ a, a < t.1 → T.1 43 a = i32 (t.2 a)
theorem gathered_of (J : JJ G E B bx m ad S A C T) {n e : Nat} (hn : n < 20) (he : e < S.1 16 0) : c_B_gathered bx (some (A 1 e)) (i32 n) C = some (i32 (n + 1), csA C 900 (A 3 3) n (some (A 1 e))) := by
  have hb := jj_b J
  unfold c_B_gathered
  rw [jon_some, if_neg (i32_nonneg (by omega)), rb_tree hb, obd_some, obd_some, cal_of (n := 20) (by rw [hb.2.2.2.2.2.2.1.1]; decide) hb.2.2.2.2.2.2.1.2, obd_some, if_pos (by rw [i32_lt (by omega) (by omega)]; omega), obd_some, obd_some, cqA_of (n := 20) (by rw [hb.2.2.2.2.2.2.1.1]) (by decide) (rc_tag (jj_c J he)) hb.2.2.2.2.2.2.1.2 (by omega) (by decide), obd_some, show i32 n + 1 = i32 (n + 1) from i32_add n 1]
theorem gat34_go {N n' : Nat} (h0 : c0 < S.1 16 0) : ∀ (q n p i : Nat) (t : TR) (C : CT), JJ G E B bx m ad S A C T → TI S c0 t i p → TH A C t → i < t.1 → p + q = S.1 17 (t.2 i) → q < n →
    ∃ C1, c_B_gather_34 N (c_B_gather_9 N n') n bx (i32 t.1) (i32 i) (some (A 1 (t.2 i))) (i32 p) C = c_B_gather_9 N n' bx (i32 (tri (hin S) (t.2 i) q p t).1) (i32 (i + 1)) C1 ∧ JJ G E B bx m ad S A C1 T ∧ TH A C1 (tri (hin S) (t.2 i) q p t) ∧ TI S c0 (tri (hin S) (t.2 i) q p t) (i + 1) 0 ∧ i < (tri (hin S) (t.2 i) q p t).1
  | 0, 0, _, _, _, _, _, _, _, _, _, h => absurd h (by omega)
  | 0, n + 1, p, i, t, C, J, hT, hH, hi, hp, _ => by
    have hd := hT.2.1 i hi
    have hc : t.2 i < S.1 16 0 := by omega
    have h10 := (jj_wc J hc).1.1
    refine ⟨C, ?_, J, hH, ti_mono hT (fun a x _ _ h => by omega), hi⟩
    unfold c_B_gather_34
    rw [jon_some, rc_size (jj_c J hc), obd_some, if_pos (by rw [i32_le (by omega) (by omega)]; omega)]
    unfold c_B_gather_84
    rw [show i32 i + 1 = i32 (i + 1) from i32_add i 1]
    rfl
  | q + 1, 0, _, _, _, _, _, _, _, _, _, h => absurd h (by omega)
  | q + 1, n + 1, p, i, t, C, J, hT, hH, hi, hp, hn => by
    have hd := hT.2.1 i hi
    have hc : t.2 i < S.1 16 0 := by omega
    have h10 := (jj_wc J hc).1.1
    have h20 := (jj_n J).2.1
    have hm := places_lt J hc (p := p) (by omega)
    have hb := jj_b J
    have key : ∀ (t' : TR) (C' : CT), JJ G E B bx m ad S A C' T → TI S c0 t' i (p + 1) → TH A C' t' → t'.2 i = t.2 i → i < t'.1 → (if S.1 10 (S.1 18 (10 * t.2 i + p)) = 0 then t else tph t (S.1 10 (S.1 18 (10 * t.2 i + p)) - 1)) = t' →
        c_B_gather_34 N (c_B_gather_9 N n') (n + 1) bx (i32 t.1) (i32 i) (some (A 1 (t.2 i))) (i32 p) C = c_B_gather_34 N (c_B_gather_9 N n') n bx (i32 t'.1) (i32 i) (some (A 1 (t.2 i))) (i32 (p + 1)) C' →
        ∃ C1, c_B_gather_34 N (c_B_gather_9 N n') (n + 1) bx (i32 t.1) (i32 i) (some (A 1 (t.2 i))) (i32 p) C = c_B_gather_9 N n' bx (i32 (tri (hin S) (t.2 i) (q + 1) p t).1) (i32 (i + 1)) C1 ∧ JJ G E B bx m ad S A C1 T ∧ TH A C1 (tri (hin S) (t.2 i) (q + 1) p t) ∧ TI S c0 (tri (hin S) (t.2 i) (q + 1) p t) (i + 1) 0 ∧ i < (tri (hin S) (t.2 i) (q + 1) p t).1 := by
      intro t' C' J' hT' hH' e1 hi' e2 e3
      have e4 : tri (hin S) (t.2 i) (q + 1) p t = tri (hin S) (t.2 i) q (p + 1) t' := by rw [← e2]; rfl
      obtain ⟨C1, u1, u2, u3, u4, u5⟩ := gat34_go (N := N) (n' := n') h0 q n (p + 1) i t' C' J' hT' hH' hi' (by rw [e1]; omega) (by omega)
      rw [e1] at u1 u3 u4 u5
      rw [e4]
      exact ⟨C1, e3.trans u1, u2, u3, u4, u5⟩
    have pre : c_B_gather_34 N (c_B_gather_9 N n') (n + 1) bx (i32 t.1) (i32 i) (some (A 1 (t.2 i))) (i32 p) C = cbd2 (c_B_gathered bx (oA A 1 (S.1 10 (S.1 18 (10 * t.2 i + p)))) (i32 t.1) C) fun x6 C7 => c_B_gather_34 N (c_B_gather_9 N n') n bx x6 (i32 i) (some (A 1 (t.2 i))) (i32 (p + 1)) C7 := by
      show (jon (some (A 1 (t.2 i))) _ _) = _
      unfold c_B_gather_77
      rw [jon_some, rc_size (jj_c J hc), obd_some, if_neg (by rw [i32_le (by omega) (by omega)]; omega), cob_of (rc_tag (jj_c J hc)), jgd_true, member_of J hc (by omega), if_pos (by omega), obd_some, jon_some, rs_inner (jj_s J hm), obd_some, cob_of (rb_tag hb), jgd_true, show i32 p + 1 = i32 (p + 1) from i32_add p 1]
    by_cases hz : S.1 10 (S.1 18 (10 * t.2 i + p)) = 0
    · refine key t C J (ti_mono hT (fun a x _ _ h => by omega)) hH rfl hi (if_pos hz) ?_
      rw [pre, hz]
      rfl
    · obtain ⟨e, he⟩ : ∃ e, S.1 10 (S.1 18 (10 * t.2 i + p)) = e + 1 := ⟨S.1 10 (S.1 18 (10 * t.2 i + p)) - 1, by omega⟩
      have hT' := ti_push J h0 hT hi (by omega) he
      have hb' := ti_bound hT' h0 h20
      have hb' : t.1 + 1 ≤ 20 := hb'
      have hel : e < S.1 16 0 := by
        have := (mix_of J hc (by omega) he).1
        omega
      refine key (tph t e) (csA C 900 (A 3 3) t.1 (some (A 1 e))) (jj_tree J) hT' (fun a ha => ?_) (tph_lt hi) (by show i < t.1 + 1; omega) (by rw [if_neg hz, he]; rfl) ?_
      · have ha : a < t.1 + 1 := ha
        by_cases qa : a = t.1
        · subst qa; rw [tph_at]; simp [csA, up3]
        · rw [tph_lt (by omega), ← hH a (by omega)]; simp [csA, up3, qa]
      · rw [pre, he, show oA A 1 (e + 1) = some (A 1 e) from rfl, gathered_of J (by omega) hel, cbd2_some]
        rfl
theorem gat9_go {N : Nat} (hN : 100 ≤ N) (h0 : c0 < S.1 16 0) : ∀ (q n i : Nat) (t : TR) (C : CT), JJ G E B bx m ad S A C T → TI S c0 t i 0 → TH A C t → 21 ≤ i + q → i ≤ 21 → q < n →
    ∃ C1, c_B_gather_9 N n bx (i32 t.1) (i32 i) C = some (i32 (tro (S.1 17) (hin S) q i t).1, C1) ∧ JJ G E B bx m ad S A C1 T ∧ TH A C1 (tro (S.1 17) (hin S) q i t) ∧ TI S c0 (tro (S.1 17) (hin S) q i t) 21 0
  | q, 0, _, _, _, _, _, _, _, _, h => absurd h (by omega)
  | q, n + 1, i, t, C, J, hT, hH, hq, hq', hn => by
    have h20 := (jj_n J).2.1
    have hb := ti_bound hT h0 h20
    by_cases hi : i < t.1
    · obtain ⟨q, rfl⟩ : ∃ z, q = z + 1 := ⟨q - 1, by omega⟩
      have hbb := jj_b J
      have hc : t.2 i < S.1 16 0 := by have := hT.2.1 i hi; omega
      have h10 := (jj_wc J hc).1.1
      obtain ⟨C1, u1, u2, u3, u4, u5⟩ := gat34_go (N := N) (n' := n) h0 (S.1 17 (t.2 i)) N 0 i t C J hT hH hi (by omega) (by omega)
      obtain ⟨C2, v1, v2, v3, v4⟩ := gat9_go hN h0 q n (i + 1) _ C1 u2 u4 u3 (by omega) (by omega) (by omega)
      have e : tro (S.1 17) (hin S) (q + 1) i t = tro (S.1 17) (hin S) q (i + 1) (tri (hin S) (t.2 i) (S.1 17 (t.2 i)) 0 t) := if_pos hi
      rw [e]
      refine ⟨C2, ?_, v2, v3, v4⟩
      unfold c_B_gather_9
      rw [if_neg (by rw [i32_le (by omega) (by omega)]; omega), rb_tree hbb, obd_some, obd_some, cal_of (n := 20) (by rw [hbb.2.2.2.2.2.2.1.1]; decide) hbb.2.2.2.2.2.2.1.2, obd_some, if_neg (by rw [i32_le (by omega) (by omega)]; omega), obd_some, obd_some, caA_of (ci := 1) (n := 20) hbb.2.2.2.2.2.2.1.1 (by decide) hbb.2.2.2.2.2.2.1.2 (by omega) (by decide), obd_some, hH i hi]
      exact u1.trans v1
    · have e : tro (S.1 17) (hin S) q i t = t := by
        cases q with
        | zero => rfl
        | succ q => exact if_neg hi
      rw [e]
      refine ⟨C, ?_, J, hH, ti_mono hT (fun a x ha _ h => by omega)⟩
      unfold c_B_gather_9
      rw [if_pos (by rw [i32_le (by omega) (by omega)]; omega)]
theorem gather_of {N : Nat} (hN : 100 ≤ N) (J : JJ G E B bx m ad S A C T) (h0 : c < S.1 16 0) : ∃ C1, c_B_gather N bx (some (A 1 c)) C = some (i32 (tre S c).1, C1) ∧ JJ G E B bx m ad S A C1 T ∧ TH A C1 (tre S c) ∧ TI S c (tre S c) 21 0 := by
  have hb := jj_b J
  obtain ⟨C1, u1, u2, u3, u4⟩ := gat9_go (N := N) (c0 := c) hN h0 21 N 0 (1, fun _ => c) (csA C 900 (A 3 3) 0 (some (A 1 c))) (jj_tree J) ⟨⟨Nat.le_refl 1, rfl⟩, fun _ _ => Nat.le_refl _, fun a b ha hb _ => by
    have ha : a < 1 := ha
    have hb : b < 1 := hb
    omega, fun b b0 hb => by
    have hb : b < 1 := hb
    omega⟩ (fun a ha => by
    have ha : a < 1 := ha
    have : a = 0 := by omega
    subst this
    simp [csA, up3]) (by decide) (by decide) (by omega)
  refine ⟨C1, ?_, u2, u3, u4⟩
  unfold c_B_gather
  rw [cob_of (rb_tag hb), jgd_true, show (0 : Int32) = i32 0 from rfl, gathered_of J (by decide) h0, cbd2_some]
  exact u1
theorem tre24_go {N n' : Nat} (J : JJ G E B bx m ad S A C (tOf S)) (h0 : c0 < S.1 16 0) : ∀ (q n p i : Nat) (t : TR) (T : MT), RT S T → TI S c0 t i p → TM T t → i < t.1 → p + q = S.1 17 (t.2 i) → q < n →
    ∃ T1, h_R_trees_24 N (h_R_trees_14 N n') n (i32 i) (i32 p) T = h_R_trees_14 N n' (i32 (i + 1)) T1 ∧ RT S T1 ∧ TM T1 (tri (hin S) (t.2 i) q p t) ∧ TI S c0 (tri (hin S) (t.2 i) q p t) (i + 1) 0 ∧ Fi [42, 43] T T1
  | 0, 0, _, _, _, _, _, _, _, _, _, h => absurd h (by omega)
  | 0, n + 1, p, i, t, T, hR, hT, hM, hi, hp, _ => by
    have hd := hT.2.1 i hi
    have hc : t.2 i < S.1 16 0 := by omega
    have h10 := (jj_wc J hc).1.1
    have h20 := (jj_n J).2.1
    have hb := ti_bound hT h0 h20
    refine ⟨T, ?_, hR, hM, ti_mono hT (fun a x _ _ h => by omega), Fi.refl _ _⟩
    unfold h_R_trees_24
    rw [jrg_i32 (by omega) (by decide), obd_some, hM.2 i hi, jrg_i32 (by omega) (by decide), obd_some, hR.1 17 (by decide), if_pos (by rw [i32_le (by omega) (by omega)]; omega), show i32 i + 1 = i32 (i + 1) from i32_add i 1]
  | q + 1, 0, _, _, _, _, _, _, _, _, _, h => absurd h (by omega)
  | q + 1, n + 1, p, i, t, T, hR, hT, hM, hi, hp, hn => by
    have hd := hT.2.1 i hi
    have hc : t.2 i < S.1 16 0 := by omega
    have h10 := (jj_wc J hc).1.1
    have h20 := (jj_n J).2.1
    have h60 := (jj_n J).1
    have hb := ti_bound hT h0 h20
    have hm := places_lt J hc (p := p) (by omega)
    have hinn := inner_le J hm
    have key : ∀ (t' : TR) (T' : MT), RT S T' → TI S c0 t' i (p + 1) → TM T' t' → Fi [42, 43] T T' → t'.2 i = t.2 i → i < t'.1 → (if S.1 10 (S.1 18 (10 * t.2 i + p)) = 0 then t else tph t (S.1 10 (S.1 18 (10 * t.2 i + p)) - 1)) = t' →
        h_R_trees_24 N (h_R_trees_14 N n') (n + 1) (i32 i) (i32 p) T = h_R_trees_24 N (h_R_trees_14 N n') n (i32 i) (i32 (p + 1)) T' →
        ∃ T1, h_R_trees_24 N (h_R_trees_14 N n') (n + 1) (i32 i) (i32 p) T = h_R_trees_14 N n' (i32 (i + 1)) T1 ∧ RT S T1 ∧ TM T1 (tri (hin S) (t.2 i) (q + 1) p t) ∧ TI S c0 (tri (hin S) (t.2 i) (q + 1) p t) (i + 1) 0 ∧ Fi [42, 43] T T1 := by
      intro t' T' hR' hT' hM' hF e1 hi' e2 e3
      have e4 : tri (hin S) (t.2 i) (q + 1) p t = tri (hin S) (t.2 i) q (p + 1) t' := by rw [← e2]; rfl
      obtain ⟨T1, u1, u2, u3, u4, u5⟩ := tre24_go (N := N) (n' := n') J h0 q n (p + 1) i t' T' hR' hT' hM' hi' (by rw [e1]; omega) (by omega)
      rw [e1] at u3 u4
      rw [e4]
      exact ⟨T1, e3.trans u1, u2, u3, u4, hF.trans u5⟩
    have pre : h_R_trees_24 N (h_R_trees_14 N n') (n + 1) (i32 i) (i32 p) T = if im (S.1 10 (S.1 18 (10 * t.2 i + p))) = -1 then h_R_trees_24 N (h_R_trees_14 N n') n (i32 i) (i32 (p + 1)) T else
        obd (jrg 20 (i32 t.1)) fun n7 => h_R_trees_24 N (h_R_trees_14 N n') n (i32 i) (i32 (p + 1)) (tsI (tsI T 43 n7 (im (S.1 10 (S.1 18 (10 * t.2 i + p))))) 42 0 (i32 t.1 + 1)) := by
      show (obd (jrg 20 (i32 i)) fun n1 => _) = _
      unfold h_R_trees_97
      simp only [jrg_i32 (show i < 20 by omega) (show 20 < 2 ^ 31 by decide), obd_some, hM.2 i hi, jrg_i32 (show t.2 i < 20 by omega) (show 20 < 2 ^ 31 by decide), hR.1 17 (by decide)]
      rw [if_neg (by rw [i32_le (by omega) (by omega)]; omega), show (10 : Int32) * i32 (t.2 i) + i32 p = i32 (10 * t.2 i + p) from by rw [show (10 : Int32) = i32 10 from rfl, i32_mul, i32_add]]
      simp only [jrg_i32 (show 10 * t.2 i + p < 200 by omega) (show 200 < 2 ^ 31 by decide), obd_some, hR.1 18 (by decide), jrg_i32 (show S.1 18 (10 * t.2 i + p) < 60 by omega) (show 60 < 2 ^ 31 by decide), hR.2.2.1 10 (by decide), hM.1, show i32 p + 1 = i32 (p + 1) from i32_add p 1, jlet]
      have e42 : ∀ n7, (tsI T 43 n7 (im (S.1 10 (S.1 18 (10 * t.2 i + p))))).1 42 0 = i32 t.1 := fun n7 => hM.1
      simp only [e42]
    by_cases hz : S.1 10 (S.1 18 (10 * t.2 i + p)) = 0
    · refine key t T hR (ti_mono hT (fun a x _ _ h => by omega)) hM (Fi.refl _ _) rfl hi (if_pos hz) ?_
      rw [pre, if_pos ((im_neg (by omega)).mpr hz)]
    · obtain ⟨e, he⟩ : ∃ e, S.1 10 (S.1 18 (10 * t.2 i + p)) = e + 1 := ⟨S.1 10 (S.1 18 (10 * t.2 i + p)) - 1, by omega⟩
      have hT' := ti_push J h0 hT hi (by omega) he
      have hb' := ti_bound hT' h0 h20
      have hb' : t.1 + 1 ≤ 20 := hb'
      refine key (tph t e) (tsI (tsI T 43 t.1 (i32 e)) 42 0 (i32 (t.1 + 1))) (rt_scI (rt_scI hR (by decide)) (by decide)) hT' ⟨?_, fun a ha => ?_⟩ ⟨fun k hk => funext fun j => ?_, rfl⟩ (tph_lt hi) (by show i < t.1 + 1; omega) (by rw [if_neg hz, he]; rfl) ?_
      · simp [tsI, up2, tph]
      · have ha : a < t.1 + 1 := ha
        by_cases qa : a = t.1
        · subst qa; rw [tph_at]; simp [tsI, up2]
        · rw [tph_lt (by omega), ← hM.2 a (by omega)]; simp [tsI, up2, qa]
      · have h1 : k ≠ 42 := fun z => hk (by rw [z]; decide)
        have h2 : k ≠ 43 := fun z => hk (by rw [z]; decide)
        simp [tsI, up2, h1, h2]
      · rw [pre, if_neg (fun z => hz ((im_neg (by omega)).mp z)), jrg_i32 (by omega) (by decide), obd_some, he, im_succ, show i32 t.1 + 1 = i32 (t.1 + 1) from i32_add _ 1]
theorem tre14_go {N : Nat} (hN : 100 ≤ N) (J : JJ G E B bx m ad S A C (tOf S)) (h0 : c0 < S.1 16 0) : ∀ (q n i : Nat) (t : TR) (T : MT), RT S T → TI S c0 t i 0 → TM T t → 21 ≤ i + q → i ≤ 21 → q < n →
    ∃ T1, h_R_trees_14 N n (i32 i) T = some T1 ∧ RT S T1 ∧ TM T1 (tro (S.1 17) (hin S) q i t) ∧ Fi [42, 43] T T1
  | q, 0, _, _, _, _, _, _, _, _, h => absurd h (by omega)
  | q, n + 1, i, t, T, hR, hT, hM, hq, hq', hn => by
    have h20 := (jj_n J).2.1
    have hb := ti_bound hT h0 h20
    by_cases hi : i < t.1
    · obtain ⟨q, rfl⟩ : ∃ z, q = z + 1 := ⟨q - 1, by omega⟩
      have hc : t.2 i < S.1 16 0 := by have := hT.2.1 i hi; omega
      have h10 := (jj_wc J hc).1.1
      obtain ⟨T1, u1, u2, u3, u4, u5⟩ := tre24_go (N := N) (n' := n) J h0 (S.1 17 (t.2 i)) N 0 i t T hR hT hM hi (by omega) (by omega)
      obtain ⟨T2, v1, v2, v3, v4⟩ := tre14_go hN J h0 q n (i + 1) _ T1 u2 u4 u3 (by omega) (by omega) (by omega)
      have e : tro (S.1 17) (hin S) (q + 1) i t = tro (S.1 17) (hin S) q (i + 1) (tri (hin S) (t.2 i) (S.1 17 (t.2 i)) 0 t) := if_pos hi
      rw [e]
      refine ⟨T2, ?_, v2, v3, u5.trans v4⟩
      unfold h_R_trees_14
      rw [hM.1, if_neg (by rw [i32_le (by omega) (by omega)]; omega)]
      exact u1.trans v1
    · have e : tro (S.1 17) (hin S) q i t = t := by
        cases q with
        | zero => rfl
        | succ q => exact if_neg hi
      rw [e]
      refine ⟨T, ?_, hR, hM, Fi.refl _ _⟩
      unfold h_R_trees_14
      rw [hM.1, if_pos (by rw [i32_le (by omega) (by omega)]; omega)]
theorem trees_of {N : Nat} (hN : 100 ≤ N) (J : JJ G E B bx m ad S A C T) (h0 : c < S.1 16 0) : ∃ T1, h_R_trees N (i32 c) T = some T1 ∧ RT S T1 ∧ TM T1 (tre S c) ∧ Fi [42, 43] T T1 := by
  have hR := jj_rt J
  obtain ⟨T1, u1, u2, u3, u4⟩ := tre14_go (N := N) (c0 := c) hN (jj_T J (rt_tOf S)) h0 21 N 0 (1, fun _ => c) (tsI (tsI T 42 0 1) 43 0 (i32 c)) (rt_scI (rt_scI hR (by decide)) (by decide)) ⟨⟨Nat.le_refl 1, rfl⟩, fun _ _ => Nat.le_refl _, fun a b ha hb _ => by
    have ha : a < 1 := ha
    have hb : b < 1 := hb
    omega, fun b b0 hb => by
    have hb : b < 1 := hb
    omega⟩ ⟨by simp [tsI, up2]; rfl, fun a ha => by
    have ha : a < 1 := ha
    have : a = 0 := by omega
    subst this
    simp [tsI, up2]⟩ (by decide) (by decide) (by omega)
  have f0 : Fi [42, 43] T (tsI (tsI T 42 0 1) 43 0 (i32 c)) := ⟨fun k hk => funext fun j => by
    have h1 : k ≠ 42 := fun z => hk (by rw [z]; decide)
    have h2 : k ≠ 43 := fun z => hk (by rw [z]; decide)
    simp [tsI, up2, h1, h2], rfl⟩
  refine ⟨T1, ?_, u2, u3, f0.trans u4⟩
  unfold h_R_trees
  rw [show (0 : Int32) = i32 0 from rfl, jrg_i32 (by decide) (by decide)]
  exact u1
end TREE
