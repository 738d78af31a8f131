/-! what is kept, held against what is there now -/
section SHAPE
variable {G : GT} {E B bx m k c : Nat} {ad : Nat → Nat} {S : ST} {A : AT} {C : CT} {T : MT}
theorem tro_cong2 {mn mn' : Nat → Nat} {inn inn' : Nat → Nat → Nat} : ∀ (n i : Nat) (t : TR), (∀ a, a < (tro mn inn n i t).1 → a < (tro mn' inn' n i t).1 → (tro mn inn n i t).2 a = (tro mn' inn' n i t).2 a → mn' ((tro mn inn n i t).2 a) = mn ((tro mn inn n i t).2 a) ∧ ∀ p, p < mn ((tro mn inn n i t).2 a) → inn' ((tro mn inn n i t).2 a) p = inn ((tro mn inn n i t).2 a) p) → tro mn' inn' n i t = tro mn inn n i t
  | 0, _, t, _ => rfl
  | n + 1, i, t, h => by
    by_cases hi : i < t.1
    · have e : tro mn inn (n + 1) i t = tro mn inn n (i + 1) (tri inn (t.2 i) (mn (t.2 i)) 0 t) := if_pos hi
      have e' : tro mn' inn' (n + 1) i t = tro mn' inn' n (i + 1) (tri inn' (t.2 i) (mn' (t.2 i)) 0 t) := if_pos hi
      rw [e, e'] at h
      have x := tri_ext (inn := inn) (d := t.2 i) (mn (t.2 i)) 0 t
      have y := tro_ext (mn := mn) (inn := inn) n (i + 1) (tri inn (t.2 i) (mn (t.2 i)) 0 t)
      have x' := tri_ext (inn := inn') (d := t.2 i) (mn' (t.2 i)) 0 t
      have y' := tro_ext (mn := mn') (inn := inn') n (i + 1) (tri inn' (t.2 i) (mn' (t.2 i)) 0 t)
      have v1 : (tro mn inn n (i + 1) (tri inn (t.2 i) (mn (t.2 i)) 0 t)).2 i = t.2 i := (y.2 i (by omega)).trans (x.2 i hi)
      have v2 : (tro mn' inn' n (i + 1) (tri inn' (t.2 i) (mn' (t.2 i)) 0 t)).2 i = t.2 i := (y'.2 i (by omega)).trans (x'.2 i hi)
      have hh := h i (by omega) (by omega) (v1.trans v2.symm)
      rw [v1] at hh
      have et : tri inn' (t.2 i) (mn' (t.2 i)) 0 t = tri inn (t.2 i) (mn (t.2 i)) 0 t := by
        rw [hh.1, tri_cong _ _ _ (fun x _ h2 => hh.2 x (by omega))]
      rw [et] at h
      rw [e, e', et]
      exact tro_cong2 n (i + 1) _ h
    · have e : tro mn inn (n + 1) i t = t := if_neg hi
      have e' : tro mn' inn' (n + 1) i t = t := if_neg hi
      rw [e, e']
/-! how many chains there are: as many as there are sections that hold one -/
theorem tri_cnt {inn : Nat → Nat → Nat} {d : Nat} : ∀ (q p : Nat) (t : TR), (tri inn d q p t).1 = t.1 + cnt (fun x => decide (inn d (p + x) ≠ 0)) q
  | 0, _, t => rfl
  | q + 1, p, t => by
    have sh : ∀ (f : Nat → Bool) (n : Nat), cnt f (n + 1) = cnt f 1 + cnt (fun x => f (x + 1)) n := by
      intro f n
      induction n with
      | zero => rfl
      | succ n ih =>
        show cnt f (n + 1) + (if f (n + 1) then 1 else 0) = cnt f 1 + (cnt (fun x => f (x + 1)) n + (if f (n + 1) then 1 else 0))
        rw [ih]; omega
    have e : cnt (fun x => decide (inn d (p + x) ≠ 0)) (q + 1) = (if inn d p = 0 then 0 else 1) + cnt (fun x => decide (inn d (p + 1 + x) ≠ 0)) q := by
      rw [sh]
      have e1 : cnt (fun x => decide (inn d (p + x) ≠ 0)) 1 = (if inn d p = 0 then 0 else 1 : Nat) := by
        show 0 + (if decide (inn d (p + 0) ≠ 0) = true then 1 else 0) = _
        rw [Nat.add_zero]
        by_cases h : inn d p = 0
        · rw [if_pos h, if_neg (by simp [h])]
        · rw [if_neg h, if_pos (by simp [h])]
      rw [e1]
      congr 1
      exact cnt_congr fun i _ => by rw [show p + (i + 1) = p + 1 + i by omega]
    rw [e]
    show (tri inn d q (p + 1) (if inn d p = 0 then t else tph t (inn d p - 1))).1 = _
    rw [tri_cnt q (p + 1)]
    by_cases h : inn d p = 0
    · rw [if_pos h, if_pos h]; omega
    · rw [if_neg h, if_neg h]
      show t.1 + 1 + _ = _
      omega
def wn (mn : Nat → Nat) (inn : Nat → Nat → Nat) (d : Nat) : Nat := cnt (fun x => decide (inn d x ≠ 0)) (mn d)
theorem sm_shift (f : Nat → Nat) : ∀ n, sm f (n + 1) = f 0 + sm (fun x => f (x + 1)) n
  | 0 => by show 0 + f 0 = f 0 + 0; omega
  | n + 1 => by
    show sm f (n + 1) + f (n + 1) = f 0 + (sm (fun x => f (x + 1)) n + f (n + 1))
    rw [sm_shift f n]; omega
theorem tro_cnt {mn : Nat → Nat} {inn : Nat → Nat → Nat} : ∀ (n i : Nat) (t : TR), (tro mn inn n i t).1 ≤ i + n → (tro mn inn n i t).1 = t.1 + sm (fun x => wn mn inn ((tro mn inn n i t).2 (i + x))) ((tro mn inn n i t).1 - i)
  | 0, i, t, h => by
    have h : t.1 ≤ i + 0 := h
    show t.1 = t.1 + sm _ (t.1 - i)
    rw [show t.1 - i = 0 by omega]; rfl
  | n + 1, i, t, h => by
    by_cases hi : i < t.1
    · have e : tro mn inn (n + 1) i t = tro mn inn n (i + 1) (tri inn (t.2 i) (mn (t.2 i)) 0 t) := if_pos hi
      rw [e] at h ⊢
      have x := tri_ext (inn := inn) (d := t.2 i) (mn (t.2 i)) 0 t
      have y := tro_ext (mn := mn) (inn := inn) n (i + 1) (tri inn (t.2 i) (mn (t.2 i)) 0 t)
      have ih := tro_cnt (mn := mn) (inn := inn) n (i + 1) (tri inn (t.2 i) (mn (t.2 i)) 0 t) (by omega)
      have v1 : (tro mn inn n (i + 1) (tri inn (t.2 i) (mn (t.2 i)) 0 t)).2 i = t.2 i := (y.2 i (by omega)).trans (x.2 i hi)
      have c1 : (tri inn (t.2 i) (mn (t.2 i)) 0 t).1 = t.1 + wn mn inn (t.2 i) := by
        rw [tri_cnt]
        unfold wn
        congr 1
        exact cnt_congr fun z _ => by rw [Nat.zero_add]
      generalize tro mn inn n (i + 1) (tri inn (t.2 i) (mn (t.2 i)) 0 t) = R at *
      rw [c1] at ih y
      obtain ⟨w, hw⟩ : ∃ w, R.1 - i = w + 1 := ⟨R.1 - i - 1, by omega⟩
      rw [hw, sm_shift]
      show R.1 = t.1 + (wn mn inn (R.2 (i + 0)) + sm (fun x => wn mn inn (R.2 (i + (x + 1)))) w)
      rw [Nat.add_zero, v1]
      have e2 : R.1 - (i + 1) = w := by omega
      rw [e2] at ih
      have e3 : sm (fun x => wn mn inn (R.2 (i + (x + 1)))) w = sm (fun x => wn mn inn (R.2 (i + 1 + x))) w := sm_congr fun z _ => by
        show wn mn inn (R.2 (i + (z + 1))) = wn mn inn (R.2 (i + 1 + z))
        rw [show i + (z + 1) = i + 1 + z by omega]
      rw [e3]; omega
    · have e : tro mn inn (n + 1) i t = t := if_neg hi
      rw [e, show t.1 - i = 0 by omega]; rfl
theorem cnt_imp {f g : Nat → Bool} : ∀ {n : Nat}, (∀ i, i < n → f i = true → g i = true) → cnt f n ≤ cnt g n ∧ (cnt f n = cnt g n → ∀ i, i < n → f i = g i)
  | 0, _ => ⟨Nat.le_refl _, fun _ i hi => absurd hi (Nat.not_lt_zero _)⟩
  | n + 1, h => by
    obtain ⟨h1, h2⟩ := cnt_imp (n := n) (fun i hi => h i (by omega))
    have hn := h n (by omega)
    have e1 : cnt f (n + 1) = cnt f n + (if f n then 1 else 0) := rfl
    have e2 : cnt g (n + 1) = cnt g n + (if g n then 1 else 0) := rfl
    rw [e1, e2]
    cases hf : f n with
    | false =>
      cases hg : g n with
      | false =>
        refine ⟨by simp; exact h1, fun e i hi => ?_⟩
        by_cases z : i = n
        · subst z; rw [hf, hg]
        · exact h2 (by simpa using e) i (by omega)
      | true =>
        refine ⟨by simp; omega, fun e => ?_⟩
        simp at e
        omega
    | true =>
      rw [hn hf]
      refine ⟨by simp; exact h1, fun e i hi => ?_⟩
      by_cases z : i = n
      · subst z; rw [hf, hn hf]
      · exact h2 (by simpa using e) i (by omega)
theorem sm_le_eq {f g : Nat → Nat} : ∀ {n : Nat}, (∀ i, i < n → f i ≤ g i) → sm f n ≤ sm g n ∧ (sm f n = sm g n → ∀ i, i < n → f i = g i)
  | 0, _ => ⟨Nat.le_refl _, fun _ i hi => absurd hi (Nat.not_lt_zero _)⟩
  | n + 1, h => by
    obtain ⟨h1, h2⟩ := sm_le_eq (n := n) (fun i hi => h i (by omega))
    have hn := h n (by omega)
    refine ⟨by show sm f n + f n ≤ sm g n + g n; omega, fun e i hi => ?_⟩
    have e : sm f n + f n = sm g n + g n := e
    by_cases z : i = n
    · subst z; omega
    · exact h2 (by omega) i (by omega)
/-- the shape of then is that of now -/
def FT (S : ST) (k : Nat) (t : TR) : Prop := S.1 72 k = t.1 ∧ ∀ i, i < t.1 → kch S k i = t.2 i ∧ S.1 51 (20 * k + t.2 i) = S.1 17 (t.2 i) ∧ S.1 52 (20 * k + t.2 i) = S.1 20 (t.2 i)
/-- what the reference asks of a chain -/
def F32 (S : ST) (k d : Nat) : Prop := i32 (S.1 51 (20 * k + d)) = i32 (S.1 17 d) ∧ i32 (S.1 52 (20 * k + d)) = i32 (S.1 20 d) ∧ ∀ p, p < S.1 17 d → im (S.1 53 (60 * k + S.1 18 (10 * d + p))) = im (S.1 10 (S.1 18 (10 * d + p)))
theorem im_inj {a b : Nat} (ha : a < 2 ^ 31) (hb : b < 2 ^ 31) (h : im a = im b) : a = b := by
  unfold im at h
  have : i32 a = i32 b := by
    have e := congrArg (fun x => x + 1) h
    simp only [Int32.sub_add_cancel] at e
    exact e
  exact (i32_inj ha hb).mp this
theorem rk_of (J : JJ G E B bx m ad S A C T) (hk : k < S.1 44 0) : RKb S A C k := J.2.2.2.2.1 k hk
theorem fit_iff (J : JJ G E B bx m ad S A C T) (hk : k < S.1 44 0) {t : TR} (htt : t = tre S (S.1 45 k)) (h20 : t.1 ≤ 20) : FT S k t ↔ ∀ i, i < t.1 → F32 S k (t.2 i) := by
  obtain ⟨-, ⟨g2, g3, g4, g5, g6, gT⟩, -⟩ := rk_of J hk
  obtain ⟨q1, q2, q3, q4⟩ := gT
  have n20 := (jj_n J).2.1
  have n60 := (jj_n J).1
  have h17 : ∀ d, d < S.1 16 0 → S.1 17 d ≤ 10 ∧ S.1 20 d ≤ 3 := fun d hd => ⟨(jj_wc J hd).1.1, (jj_wc J hd).1.2.1⟩
  constructor
  · rintro ⟨f1, f2⟩ i hi
    have hf := f2 i hi
    have hd : t.2 i < S.1 16 0 := by rw [← hf.1]; exact (g6 i (by omega)).1
    refine ⟨by rw [hf.2.1], by rw [hf.2.2], ?_⟩
    -- the tree of then and that of now have as many chains
    have c1 := tro_cnt (mn := fun c => S.1 51 (20 * k + c)) (inn := fun c p => S.1 53 (60 * k + S.1 18 (10 * c + p))) 21 0 (1, fun _ => S.1 45 k) (by rw [q2]; omega)
    have c2 := tro_cnt (mn := S.1 17) (inn := hin S) 21 0 (1, fun _ => S.1 45 k) (by
      have : tro (S.1 17) (hin S) 21 0 (1, fun _ => S.1 45 k) = t := htt.symm
      rw [this]; omega)
    have et : tro (S.1 17) (hin S) 21 0 (1, fun _ => S.1 45 k) = t := htt.symm
    rw [et] at c2
    rw [q2] at c1
    have e1 : sm (fun x => wn (fun c => S.1 51 (20 * k + c)) (fun c p => S.1 53 (60 * k + S.1 18 (10 * c + p))) ((tro (fun c => S.1 51 (20 * k + c)) (fun c p => S.1 53 (60 * k + S.1 18 (10 * c + p))) 21 0 (1, fun _ => S.1 45 k)).2 (0 + x))) (S.1 72 k - 0) = sm (fun x => wn (S.1 17) (fun c p => S.1 53 (60 * k + S.1 18 (10 * c + p))) (t.2 x)) t.1 := by
      rw [Nat.sub_zero, f1]
      refine sm_congr fun x hx => ?_
      show wn _ _ ((tro (fun c => S.1 51 (20 * k + c)) (fun c p => S.1 53 (60 * k + S.1 18 (10 * c + p))) 21 0 (1, fun _ => S.1 45 k)).2 (0 + x)) = _
      rw [Nat.zero_add, q3 x (by omega)]
      have ex : S.1 73 (20 * k + x) = t.2 x := (f2 x hx).1
      rw [ex]
      show cnt _ (S.1 51 (20 * k + t.2 x)) = cnt _ (S.1 17 (t.2 x))
      rw [(f2 x hx).2.1]
    have e2 : sm (fun x => wn (S.1 17) (hin S) (t.2 (0 + x))) (t.1 - 0) = sm (fun x => wn (S.1 17) (hin S) (t.2 x)) t.1 := by
      rw [Nat.sub_zero]
      exact sm_congr fun x _ => by rw [Nat.zero_add]
    rw [e1] at c1
    rw [e2] at c2
    have himp : ∀ x, x < t.1 → ∀ p, p < S.1 17 (t.2 x) → S.1 53 (60 * k + S.1 18 (10 * t.2 x + p)) = 0 ∨ S.1 53 (60 * k + S.1 18 (10 * t.2 x + p)) = S.1 10 (S.1 18 (10 * t.2 x + p)) := fun x hx p hp => by
      have ex : S.1 73 (20 * k + x) = t.2 x := (f2 x hx).1
      have := q1 x (by omega) p (by rw [ex, (f2 x hx).2.1]; exact hp)
      rw [ex] at this
      exact this
    have hle : ∀ x, x < t.1 → (wn (S.1 17) (fun c p => S.1 53 (60 * k + S.1 18 (10 * c + p))) (t.2 x) ≤ wn (S.1 17) (hin S) (t.2 x)) ∧ (wn (S.1 17) (fun c p => S.1 53 (60 * k + S.1 18 (10 * c + p))) (t.2 x) = wn (S.1 17) (hin S) (t.2 x) → ∀ p, p < S.1 17 (t.2 x) → decide (S.1 53 (60 * k + S.1 18 (10 * t.2 x + p)) ≠ 0) = decide (hin S (t.2 x) p ≠ 0)) := fun x hx => cnt_imp fun p hp z => by
      have z := of_decide_eq_true z
      rcases himp x hx p hp with h | h
      · exact absurd h z
      · refine decide_eq_true ?_
        show S.1 10 (S.1 18 (10 * t.2 x + p)) ≠ 0
        rw [← h]; exact z
    have heq := (sm_le_eq (f := fun x => wn (S.1 17) (fun c p => S.1 53 (60 * k + S.1 18 (10 * c + p))) (t.2 x)) (g := fun x => wn (S.1 17) (hin S) (t.2 x)) (fun x hx => (hle x hx).1)).2 (by
      have c1 : S.1 72 k = 1 + _ := c1
      have c2 : t.1 = 1 + _ := c2
      omega)
    intro p hp
    have hz := (hle i hi).2 (heq i hi) p hp
    rcases himp i hi p hp with h | h
    · have e0 : decide (hin S (t.2 i) p ≠ 0) = false := by rw [← hz, h]; rfl
      have : S.1 10 (S.1 18 (10 * t.2 i + p)) = 0 := Classical.byContradiction fun z => absurd e0 (by rw [decide_eq_true (show hin S (t.2 i) p ≠ 0 from z)]; decide)
      rw [h, this]
    · rw [h]
  · intro hF
    have et : tro (S.1 17) (hin S) 21 0 (1, fun _ => S.1 45 k) = t := htt.symm
    have key : ∀ a, a < S.1 72 k → a < t.1 → S.1 73 (20 * k + a) = t.2 a → S.1 17 (t.2 a) = S.1 51 (20 * k + t.2 a) ∧ S.1 20 (t.2 a) = S.1 52 (20 * k + t.2 a) ∧ ∀ p, p < S.1 51 (20 * k + t.2 a) → S.1 10 (S.1 18 (10 * t.2 a + p)) = S.1 53 (60 * k + S.1 18 (10 * t.2 a + p)) := by
      intro a ha ha' he
      obtain ⟨u1, u2, u3⟩ := g6 a ha
      have q := q1 a ha
      unfold kch at u1 u2 u3
      rw [he] at u1 u2 u3 q
      obtain ⟨v1, v2⟩ := h17 _ u1
      obtain ⟨w1, w2, w3⟩ := hF a ha'
      have e1 := (i32_inj (by omega) (by omega)).mp w1
      refine ⟨e1.symm, ((i32_inj (by omega) (by omega)).mp w2).symm, fun p hp => ?_⟩
      have hs := places_lt J u1 (p := p) (by omega)
      have hi := inner_le J hs
      have hb : S.1 53 (60 * k + S.1 18 (10 * t.2 a + p)) < 2 ^ 31 := by
        rcases q p hp with h | h
        · rw [h]; decide
        · rw [h]; omega
      exact (im_inj hb (by omega) (w3 p (by omega))).symm
    have eq : tro (S.1 17) (hin S) 21 0 (1, fun _ => S.1 45 k) = tro (fun c => S.1 51 (20 * k + c)) (fun c p => S.1 53 (60 * k + S.1 18 (10 * c + p))) 21 0 (1, fun _ => S.1 45 k) := tro_cong2 _ _ _ fun a ha hb hab => by
      rw [et] at hb hab
      rw [q2] at ha
      have he := (q3 a ha).symm.trans hab
      obtain ⟨k1, k2, k3⟩ := key a ha hb he
      rw [hab]
      exact ⟨k1, k3⟩
    rw [et] at eq
    have e1 : t.1 = S.1 72 k := by rw [← q2, ← eq]
    have e2 : ∀ i, i < t.1 → S.1 73 (20 * k + i) = t.2 i := fun i hi => by rw [← q3 i (by omega), ← eq]
    refine ⟨e1.symm, fun i hi => ⟨e2 i hi, ?_, ?_⟩⟩
    · exact (key i (by omega) hi (e2 i hi)).1.symm
    · exact (key i (by omega) hi (e2 i hi)).2.1.symm
/-! the class asks -/
theorem i32_div3 : ∀ n, n ≤ 20 → i32 (3 * n) / (3 : Int32) = i32 n := by decide
theorem kept_of (J : JJ G E B bx m ad S A C T) (v : Int32) : (∃ k, k < S.1 44 0 ∧ v = i32 k ∧ g_R_in v 0 (T.1 44 0 - 1) = true ∧ c_B_keptAt bx v C = some (some (A 48 k))) ∨ (g_R_in v 0 (T.1 44 0 - 1) = false ∧ c_B_keptAt bx v C = some none) := by
  have hb := jj_b J
  have hn := (jj_n J).2.2
  rw [jj_C J 44 (by decide)]
  cases hq : g_R_in v 0 (i32 (S.1 44 0) - 1) with
  | true =>
    obtain ⟨k, h1, rfl⟩ := (in_i32 (by omega)).mp hq
    refine Or.inl ⟨k, h1, rfl, rfl, ?_⟩
    unfold c_B_keptAt
    rw [if_neg (i32_nonneg (by omega)), rb_keptCount hb, obd_some, if_neg (by rw [i32_le (by omega) (by omega)]; omega), rb_kepts hb, obd_some, obd_some, cal_of (n := 8) (by rw [hb.2.2.2.2.2.1.1]; decide) hb.2.2.2.2.2.1.2.1, obd_some, if_pos (by rw [i32_lt (by omega) (by omega)]; omega), obd_some, obd_some,
      caA_of (ci := 3) (n := 8) hb.2.2.2.2.2.1.1 (by decide) hb.2.2.2.2.2.1.2.1 (by omega) (by decide), obd_some, hb.2.2.2.2.2.1.2.2 k (by omega), if_pos h1]
  | false =>
    refine Or.inr ⟨rfl, ?_⟩
    unfold c_B_keptAt
    rcases i32_or v with h | ⟨n, hn', rfl⟩
    · rw [if_pos h]; rfl
    · have : ¬ n < S.1 44 0 := fun q => by
        have := (in_i32 (n := S.1 44 0) (by omega)).mpr ⟨n, q, rfl⟩
        rw [hq] at this; cases this
      rw [if_neg (i32_nonneg hn'), rb_keptCount hb, obd_some, if_pos (by rw [i32_le (by omega) hn']; omega)]; rfl
theorem isSh_of (J : JJ G E B bx m ad S A C T) (hk : k < S.1 44 0) {i d : Nat} (hi : i < S.1 72 k) (hd : d < S.1 16 0) : ∃ r, c_Kept_isShaped (A 48 k) (i32 i) (some (A 1 d)) C = some r ∧ (r = true ↔ kch S k i = d ∧ S.1 51 (20 * k + kch S k i) = S.1 17 d ∧ S.1 52 (20 * k + kch S k i) = S.1 20 d) := by
  obtain ⟨⟨t48, f48, f49, f50⟩, ⟨g2, g3, g4, g5, g6, gT⟩, ⟨s1, s2, s3⟩, -⟩ := rk_of J hk
  have hr := jj_c J hd
  have n20 := (jj_n J).2.1
  have w := (jj_wc J hd).1
  obtain ⟨u1, u2, u3⟩ := g6 i hi
  have w' := (jj_wc J u1).1
  obtain ⟨v1, v2, v3⟩ := s3 i hi
  have e49 : cgA C (A 48 k) 3 1 = some (some (A 49 k)) := (if_pos t48).trans (congrArg some f49)
  have e3 : i32 i * (3 : Int32) = i32 (3 * i) := by rw [show (3 : Int32) = i32 3 from rfl, i32_mul, Nat.mul_comm]
  have ca : ∀ j, j < 3 * S.1 72 k → caI C (A 49 k) (i32 j) = some (C.2.2.1 900 (A 49 k) j) := fun j hj => caI_of (n := 3 * S.1 72 k) s1 s2 hj (by omega)
  unfold c_Kept_isShaped
  rw [e3, if_neg (i32_nonneg (by omega)), e49, obd_some, obd_some, cal_of (n := 3 * S.1 72 k) (by rw [s1]; decide) s2, obd_some, show i32 (3 * i) + (2 : Int32) = i32 (3 * i + 2) from i32_add _ 2, show i32 (3 * i) + (1 : Int32) = i32 (3 * i + 1) from i32_add _ 1, if_neg (by rw [i32_le (by omega) (by omega)]; omega), obd_some, obd_some, ca _ (by omega), obd_some, obd_some, rc_number hr, obd_some, v1]
  by_cases h1 : kch S k i = d
  · rw [if_pos (by rw [h1]), obd_some, obd_some, ca _ (by omega), obd_some, rc_size hr, obd_some, v2]
    by_cases h2 : S.1 51 (20 * k + kch S k i) = S.1 17 d
    · rw [if_pos (by rw [h2]), obd_some, obd_some, ca _ (by omega), obd_some, rc_loopCount hr, obd_some, v3]
      by_cases h3 : S.1 52 (20 * k + kch S k i) = S.1 20 d
      · rw [if_pos (by rw [h3])]
        exact ⟨true, rfl, fun _ => ⟨h1, h2, h3⟩, fun _ => rfl⟩
      · rw [if_neg (i32_ne (by omega) (by omega) h3)]
        exact ⟨false, rfl, fun z => (by cases z), fun z => absurd z.2.2 h3⟩
    · rw [if_neg (i32_ne (by omega) (by omega) h2)]
      exact ⟨false, rfl, fun z => (by cases z), fun z => absurd z.2.1 h2⟩
  · rw [if_neg (i32_ne (by omega) (by omega) h1)]
    exact ⟨false, rfl, fun z => (by cases z), fun z => absurd z.1 h1⟩
theorem chainCount_of (J : JJ G E B bx m ad S A C T) (hk : k < S.1 44 0) : c_Kept_chainCount (A 48 k) C = some (i32 (S.1 72 k)) := by
  obtain ⟨⟨t48, f48, f49, f50⟩, ⟨g2, g3, g4, g5, g6, gT⟩, ⟨s1, s2, s3⟩, -⟩ := rk_of J hk
  have e49 : cgA C (A 48 k) 3 1 = some (some (A 49 k)) := (if_pos t48).trans (congrArg some f49)
  unfold c_Kept_chainCount
  rw [e49, obd_some, obd_some, cal_of (n := 3 * S.1 72 k) (by rw [s1]; decide) s2, obd_some, i32_div3 _ g4]
theorem gak21_go {N : Nat} (J : JJ G E B bx m ad S A C T) (hk : k < S.1 44 0) {t : TR} (h20 : t.1 ≤ 20) (hH : TH A C t) (ht : ∀ a, a < t.1 → t.2 a < S.1 16 0) (h72 : S.1 72 k = t.1) : ∀ (q g i : Nat), i + q = t.1 → q < g →
    ∃ r, c_B_gatherAsKept_21 N g bx (A 48 k) (i32 t.1) (i32 i) C = some (r, C) ∧ (r = true ↔ ∀ x, i ≤ x → x < t.1 → kch S k x = t.2 x ∧ S.1 51 (20 * k + kch S k x) = S.1 17 (t.2 x) ∧ S.1 52 (20 * k + kch S k x) = S.1 20 (t.2 x))
  | 0, 0, _, _, h => absurd h (by omega)
  | 0, g + 1, i, hi, _ => by
    refine ⟨true, ?_, fun _ x h1 h2 => absurd h2 (by omega), fun _ => rfl⟩
    unfold c_B_gatherAsKept_21
    rw [if_pos (by rw [i32_le (by omega) (by omega)]; omega)]
  | q + 1, 0, _, _, h => absurd h (by omega)
  | q + 1, g + 1, i, hi, hq => by
    have hb := jj_b J
    have hd := ht i (by omega)
    have t48 := (rk_of J hk).1.1
    have hca : caA C (A 3 3) 1 (i32 i) = some (some (A 1 (t.2 i))) := by
      rw [caA_of (ci := 1) (n := 20) hb.2.2.2.2.2.2.1.1 (by decide) hb.2.2.2.2.2.2.1.2 (by omega) (by decide), hH i (by omega)]
    obtain ⟨r, r1, r2⟩ := isSh_of J hk (i := i) (by omega) hd
    obtain ⟨r', r3, r4⟩ := gak21_go (N := N) J hk h20 hH ht h72 q g (i + 1) (by omega) (by omega)
    have pre : c_B_gatherAsKept_21 N (g + 1) bx (A 48 k) (i32 t.1) (i32 i) C = if r = true then some (r', C) else some (false, C) := by
      rw [← r3, show i32 (i + 1) = i32 i + 1 from (i32_add i 1).symm]
      show (if i32 t.1 ≤ i32 i then _ else _) = _
      rw [if_neg (by rw [i32_le (by omega) (by omega)]; omega), rb_tree hb, obd_some, obd_some, cal_of (n := 20) (by rw [hb.2.2.2.2.2.2.1.1]; decide) hb.2.2.2.2.2.2.1.2, obd_some, if_neg (by rw [i32_le (by omega) (by omega)]; omega), obd_some, obd_some, hca, obd_some, jon_some, obd_some, obd_some, hca, obd_some, cob_of (ci := 3) t48, jgd_true, r1, obd_some]
    rw [pre]
    cases r with
    | true =>
      refine ⟨r', rfl, ?_⟩
      rw [r4]
      have z := r2.mp rfl
      exact ⟨fun h x h1 h2 => by
        by_cases e : x = i
        · subst e; exact z
        · exact h x (by omega) h2, fun h x h1 h2 => h x (by omega) h2⟩
    | false =>
      refine ⟨false, rfl, fun z => (by cases z), fun z => ?_⟩
      exact r2.mpr (z i (Nat.le_refl _) (by omega))
theorem gak_of {N : Nat} (hN : 100 ≤ N) (J : JJ G E B bx m ad S A C T) (hk : k < S.1 44 0) {t : TR} (h20 : t.1 ≤ 20) (hH : TH A C t) (ht : ∀ a, a < t.1 → t.2 a < S.1 16 0) : ∃ r, (if i32 t.1 = i32 (S.1 72 k) then c_B_gatherAsKept_21 N N bx (A 48 k) (i32 t.1) (0 : Int32) C else some (false, C)) = some (r, C) ∧ (r = true ↔ FT S k t) := by
  obtain ⟨-, ⟨g2, g3, g4, g5, g6, gT⟩, -, -⟩ := rk_of J hk
  by_cases h : S.1 72 k = t.1
  · rw [if_pos (by rw [h])]
    obtain ⟨r, r1, r2⟩ := gak21_go (N := N) J hk h20 hH ht h t.1 N 0 (by omega) (by omega)
    refine ⟨r, r1, ?_⟩
    rw [r2]
    exact ⟨fun z => ⟨h, fun i hi => by
      obtain ⟨z1, z2, z3⟩ := z i (Nat.zero_le _) hi
      rw [z1] at z2 z3
      exact ⟨z1, z2, z3⟩⟩, fun z x _ hx => by
      obtain ⟨z1, z2, z3⟩ := z.2 x hx
      rw [z1]
      exact ⟨rfl, z2, z3⟩⟩
  · rw [if_neg (i32_ne (by omega) (by omega) (fun z => h z.symm))]
    exact ⟨false, rfl, fun z => (by cases z), fun z => absurd z.1 h⟩
/-! the reference asks -/
theorem fits44_go {N d : Nat} (hR : RT S T) (hd : d < 20) (hk : k < 8) (h10 : S.1 17 d ≤ 10) (hm : ∀ p, p < S.1 17 d → S.1 18 (10 * d + p) < 60) : ∀ (q g p : Nat), p + q = S.1 17 d → q < g →
    ∃ r, h_R_fits_44 N g (i32 k) (i32 d) (i32 p) T = some r ∧ (r = true ↔ ∀ x, p ≤ x → x < S.1 17 d → im (S.1 53 (60 * k + S.1 18 (10 * d + x))) = im (S.1 10 (S.1 18 (10 * d + x))))
  | 0, 0, _, _, h => absurd h (by omega)
  | 0, g + 1, p, hp, _ => by
    refine ⟨true, ?_, fun _ x h1 h2 => absurd h2 (by omega), fun _ => rfl⟩
    unfold h_R_fits_44
    rw [jrg_i32 hd (by decide), obd_some, hR.1 17 (by decide), if_pos (by rw [i32_le (by omega) (by omega)]; omega)]
  | q + 1, 0, _, _, h => absurd h (by omega)
  | q + 1, g + 1, p, hp, hq => by
    have hs := hm p (by omega)
    obtain ⟨r', r3, r4⟩ := fits44_go (N := N) hR hd hk h10 hm q g (p + 1) (by omega) (by omega)
    have pre : h_R_fits_44 N (g + 1) (i32 k) (i32 d) (i32 p) T = if im (S.1 53 (60 * k + S.1 18 (10 * d + p))) = im (S.1 10 (S.1 18 (10 * d + p))) then some r' else some false := by
      rw [← r3, show i32 (p + 1) = i32 p + 1 from (i32_add p 1).symm]
      show (obd (jrg 20 (i32 d)) fun n1 => _) = _
      rw [jrg_i32 hd (by decide), obd_some, hR.1 17 (by decide), if_neg (by rw [i32_le (by omega) (by omega)]; omega), show (10 : Int32) * i32 d + i32 p = i32 (10 * d + p) from by rw [show (10 : Int32) = i32 10 from rfl, i32_mul, i32_add], jrg_i32 (show 10 * d + p < 200 by omega) (by decide), obd_some, hR.1 18 (by decide),
        show (60 : Int32) * i32 k + i32 (S.1 18 (10 * d + p)) = i32 (60 * k + S.1 18 (10 * d + p)) from by rw [show (60 : Int32) = i32 60 from rfl, i32_mul, i32_add], jrg_i32 (show 60 * k + S.1 18 (10 * d + p) < 480 by omega) (by decide), obd_some, jrg_i32 hs (by decide), obd_some, hR.2.2.1 53 (by decide), hR.2.2.1 10 (by decide)]
    rw [pre]
    by_cases h : im (S.1 53 (60 * k + S.1 18 (10 * d + p))) = im (S.1 10 (S.1 18 (10 * d + p)))
    · rw [if_pos h]
      refine ⟨r', rfl, ?_⟩
      rw [r4]
      exact ⟨fun z x h1 h2 => by
        by_cases e : x = p
        · subst e; exact h
        · exact z x (by omega) h2, fun z x h1 h2 => z x (by omega) h2⟩
    · rw [if_neg h]
      exact ⟨false, rfl, fun z => (by cases z), fun z => absurd (z p (Nat.le_refl _) (by omega)) h⟩
theorem fits_both {N d : Nat} (hN : 100 ≤ N) (hR : RT S T) (hd : d < 20) (hk : k < 8) (h10 : S.1 17 d ≤ 10) (hm : ∀ p, p < S.1 17 d → S.1 18 (10 * d + p) < 60) : ∃ r, h_R_fits N (i32 k) (i32 d) T = some r ∧ (r = true ↔ F32 S k d) := by
  have e : (20 : Int32) * i32 k + i32 d = i32 (20 * k + d) := by rw [show (20 : Int32) = i32 20 from rfl, i32_mul, i32_add]
  unfold h_R_fits
  rw [e, jrg_i32 (show 20 * k + d < 160 by omega) (by decide), obd_some, jrg_i32 hd (by decide), obd_some, hR.1 51 (by decide), hR.1 17 (by decide)]
  by_cases h1 : i32 (S.1 51 (20 * k + d)) = i32 (S.1 17 d)
  · rw [if_pos h1, obd_some, obd_some, hR.1 52 (by decide), hR.1 20 (by decide)]
    by_cases h2 : i32 (S.1 52 (20 * k + d)) = i32 (S.1 20 d)
    · rw [if_pos h2]
      obtain ⟨r, r1, r2⟩ := fits44_go (N := N) hR hd hk h10 hm (S.1 17 d) N 0 (by omega) (by omega)
      refine ⟨r, r1, ?_⟩
      rw [r2]
      exact ⟨fun z => ⟨h1, h2, fun p hp => z p (Nat.zero_le _) hp⟩, fun z x _ hx => z.2.2 x hx⟩
    · rw [if_neg h2]
      exact ⟨false, rfl, fun z => (by cases z), fun z => absurd z.2.1 h2⟩
  · rw [if_neg h1]
    exact ⟨false, rfl, fun z => (by cases z), fun z => absurd z.1 h1⟩
theorem isK28_go {N : Nat} (hN : 100 ≤ N) (hR : RT S T) {t : TR} (hM : TM T t) (hts : TS S t) (hk : k < 8) : ∀ (q g i : Nat), i + q = t.1 → q < g →
    ∃ r, h_R_isKept_28 N g (i32 k) (i32 i) T = some (r, T) ∧ (r = true ↔ ∀ x, i ≤ x → x < t.1 → F32 S k (t.2 x))
  | 0, 0, _, _, h => absurd h (by omega)
  | 0, g + 1, i, hi, _ => by
    have := hts.1
    refine ⟨true, ?_, fun _ x h1 h2 => absurd h2 (by omega), fun _ => rfl⟩
    unfold h_R_isKept_28
    rw [hM.1, if_pos (by rw [i32_le (by omega) (by omega)]; omega)]
  | q + 1, 0, _, _, h => absurd h (by omega)
  | q + 1, g + 1, i, hi, hq => by
    have := hts.1
    obtain ⟨s1, s2, s3, s4⟩ := hts.2 i (by omega)
    obtain ⟨r, r1, r2⟩ := fits_both (N := N) (d := t.2 i) hN hR s1 hk s2 s4
    obtain ⟨r', r3, r4⟩ := isK28_go hN hR hM hts hk q g (i + 1) (by omega) (by omega)
    have pre : h_R_isKept_28 N (g + 1) (i32 k) (i32 i) T = if r = true then some (r', T) else some (false, T) := by
      rw [← r3, show i32 (i + 1) = i32 i + 1 from (i32_add i 1).symm]
      show (if T.1 42 0 ≤ i32 i then _ else _) = _
      rw [hM.1, if_neg (by rw [i32_le (by omega) (by omega)]; omega), jrg_i32 (by omega) (by decide), obd_some, hM.2 i (by omega), r1, obd_some]
    rw [pre]
    cases r with
    | true =>
      refine ⟨r', rfl, ?_⟩
      rw [r4]
      have z := r2.mp rfl
      exact ⟨fun h x h1 h2 => by
        by_cases e : x = i
        · subst e; exact z
        · exact h x (by omega) h2, fun h x h1 h2 => h x (by omega) h2⟩
    | false =>
      refine ⟨false, rfl, fun z => (by cases z), fun z => ?_⟩
      exact r2.mpr (z i (Nat.le_refl _) (by omega))
/-- both ask alike -/
theorem kept_both {N : Nat} (hN : 100 ≤ N) (J : JJ G E B bx m ad S A C T) (hk : k < S.1 44 0) : ∃ t C1 T1 r, t = tre S (S.1 45 k) ∧ c_B_gatherAsKept N bx (some (A 48 k)) C = some (r, C1) ∧ h_R_isKept N (i32 k) T = some (r, T1) ∧ JJ G E B bx m ad S A C1 T1 ∧ TH A C1 t ∧ TM T1 t ∧ TS S t ∧ (∀ a, a < t.1 → t.2 a < S.1 16 0) ∧ (r = true ↔ FT S k t) := by
  have hc : S.1 45 k < S.1 16 0 := (rk_of J hk).2.1.1
  have n8 := (jj_n J).2.2
  obtain ⟨C1, u1, u2, u3, u4⟩ := gather_of hN J hc
  obtain ⟨T1, v1, v2, v3, v4⟩ := trees_of hN J hc
  have hts := ts_of J u4 hc
  have htd : ∀ a, a < (tre S (S.1 45 k)).1 → (tre S (S.1 45 k)).2 a < S.1 16 0 := fun a ha => by have := u4.2.1 a ha; omega
  have J1 := jj_T u2 v2
  obtain ⟨r, r1, r2⟩ := gak_of hN J1 hk hts.1 u3 htd
  have h20 := hts.1
  obtain ⟨r', r3, r4⟩ := isK28_go (N := N) (k := k) hN v2 v3 hts (by omega) (tre S (S.1 45 k)).1 N 0 (by omega) (by omega)
  have er : r = r' := by
    have e : r = true ↔ r' = true := by
      rw [r2, r4, fit_iff J1 hk rfl hts.1]
      exact ⟨fun h x _ hx => h x hx, fun h x hx => h x (Nat.zero_le _) hx⟩
    cases r <;> cases r' <;> simp_all
  have rk := rk_of J hk
  have rk1 := rk_of J1 hk
  have eroot : cgA C (A 48 k) 3 0 = some (some (A 1 (S.1 45 k))) := (if_pos rk.1.1).trans (congrArg some rk.1.2.1)
  have ekept : c_B_gatherAsKept N bx (some (A 48 k)) C = some (r, C1) := by
    unfold c_B_gatherAsKept
    rw [obd_some, eroot, obd_some, cob_of (rb_tag (jj_b J)), jgd_true, u1, cbd2_some, cob_of (ci := 3) rk1.1.1, jgd_true, chainCount_of J1 hk, obd_some]
    exact r1
  refine ⟨_, C1, T1, r, rfl, ekept, ?_, J1, u3, v3, hts, htd, r2⟩
  have hg : g_R_in (i32 k) 0 (T.1 44 0 - 1) = true := by rw [jj_C J 44 (by decide)]; exact (in_i32 (by omega)).mpr ⟨k, hk, rfl⟩
  unfold h_R_isKept
  rw [if_pos hg, jrg_i32 (by omega) (by decide), obd_some, jj_N J 45 (by decide), v1, obd_some, er]
  exact r3
end SHAPE
