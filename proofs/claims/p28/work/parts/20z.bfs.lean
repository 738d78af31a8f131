/-! a tree gone through row by row -/
abbrev TR : Type := Nat × (Nat → Nat)
def tph (t : TR) (e : Nat) : TR := (t.1 + 1, fun a => if a = t.1 then e else t.2 a)
def tri (inn : Nat → Nat → Nat) (d : Nat) : Nat → Nat → TR → TR
  | 0, _, t => t
  | q + 1, p, t => tri inn d q (p + 1) (if inn d p = 0 then t else tph t (inn d p - 1))
def tro (mn : Nat → Nat) (inn : Nat → Nat → Nat) : Nat → Nat → TR → TR
  | 0, _, t => t
  | n + 1, i, t => if i < t.1 then tro mn inn n (i + 1) (tri inn (t.2 i) (mn (t.2 i)) 0 t) else t
theorem tph_lt {t : TR} {e a : Nat} (h : a < t.1) : (tph t e).2 a = t.2 a := if_neg (by omega)
theorem tph_at {t : TR} {e : Nat} : (tph t e).2 t.1 = e := if_pos rfl
theorem tri_ext {inn : Nat → Nat → Nat} {d : Nat} : ∀ (q p : Nat) (t : TR), t.1 ≤ (tri inn d q p t).1 ∧ ∀ a, a < t.1 → (tri inn d q p t).2 a = t.2 a
  | 0, _, t => ⟨Nat.le_refl _, fun _ _ => rfl⟩
  | q + 1, p, t => by
    show t.1 ≤ (tri inn d q (p + 1) (if inn d p = 0 then t else tph t (inn d p - 1))).1 ∧ ∀ a, a < t.1 → (tri inn d q (p + 1) (if inn d p = 0 then t else tph t (inn d p - 1))).2 a = t.2 a
    by_cases h : inn d p = 0
    · rw [if_pos h]; exact tri_ext q (p + 1) t
    · rw [if_neg h]
      have ih := tri_ext (inn := inn) (d := d) q (p + 1) (tph t (inn d p - 1))
      have h1 : t.1 + 1 ≤ _ := ih.1
      exact ⟨by omega, fun a ha => (ih.2 a (by show a < t.1 + 1; omega)).trans (tph_lt ha)⟩
theorem tro_ext {mn : Nat → Nat} {inn : Nat → Nat → Nat} : ∀ (n i : Nat) (t : TR), t.1 ≤ (tro mn inn n i t).1 ∧ ∀ a, a < t.1 → (tro mn inn n i t).2 a = t.2 a
  | 0, _, t => ⟨Nat.le_refl _, fun _ _ => rfl⟩
  | n + 1, i, t => by
    show t.1 ≤ (if i < t.1 then tro mn inn n (i + 1) (tri inn (t.2 i) (mn (t.2 i)) 0 t) else t).1 ∧ ∀ a, a < t.1 → (if i < t.1 then tro mn inn n (i + 1) (tri inn (t.2 i) (mn (t.2 i)) 0 t) else t).2 a = t.2 a
    by_cases h : i < t.1
    · rw [if_pos h]
      have e := tri_ext (inn := inn) (d := t.2 i) (mn (t.2 i)) 0 t
      have ih := tro_ext (mn := mn) (inn := inn) n (i + 1) (tri inn (t.2 i) (mn (t.2 i)) 0 t)
      exact ⟨by omega, fun a ha => (ih.2 a (by omega)).trans (e.2 a ha)⟩
    · rw [if_neg h]; exact ⟨Nat.le_refl _, fun _ _ => rfl⟩
theorem tri_cong {inn inn' : Nat → Nat → Nat} {d : Nat} : ∀ (q p : Nat) (t : TR), (∀ x, p ≤ x → x < p + q → inn' d x = inn d x) → tri inn' d q p t = tri inn d q p t
  | 0, _, t, _ => rfl
  | q + 1, p, t, h => by
    show tri inn' d q (p + 1) (if inn' d p = 0 then t else tph t (inn' d p - 1)) = tri inn d q (p + 1) (if inn d p = 0 then t else tph t (inn d p - 1))
    rw [h p (by omega) (by omega), tri_cong q (p + 1) _ (fun x h1 h2 => h x (by omega) (by omega))]
theorem tro_cong {mn mn' : Nat → Nat} {inn inn' : Nat → Nat → Nat} : ∀ (n i : Nat) (t : TR), (∀ a, a < (tro mn inn n i t).1 → mn' ((tro mn inn n i t).2 a) = mn ((tro mn inn n i t).2 a) ∧ ∀ p, p < mn ((tro mn inn n i t).2 a) → inn' ((tro mn inn n i t).2 a) p = inn ((tro mn inn n i t).2 a) p) → tro mn' inn' n i t = tro mn inn n i t
  | 0, _, t, _ => rfl
  | n + 1, i, t, h => by
    by_cases hi : i < t.1
    · have e : tro mn inn (n + 1) i t = tro mn inn n (i + 1) (tri inn (t.2 i) (mn (t.2 i)) 0 t) := if_pos hi
      have e' : tro mn' inn' (n + 1) i t = tro mn' inn' n (i + 1) (tri inn' (t.2 i) (mn' (t.2 i)) 0 t) := if_pos hi
      rw [e] at h
      have x := tri_ext (inn := inn) (d := t.2 i) (mn (t.2 i)) 0 t
      have y := tro_ext (mn := mn) (inn := inn) n (i + 1) (tri inn (t.2 i) (mn (t.2 i)) 0 t)
      have hh := h i (by omega)
      rw [y.2 i (by omega), x.2 i hi] at hh
      rw [e, e', hh.1, tri_cong _ _ _ (fun x _ h2 => hh.2 x (by omega)), tro_cong n (i + 1) _ h]
    · have e : tro mn inn (n + 1) i t = t := if_neg hi
      have e' : tro mn' inn' (n + 1) i t = t := if_neg hi
      rw [e, e']
/-- what was kept of a section, of a loop is what it may be -/
def KWs (S : ST) (k s : Nat) : Prop := (S.1 3 s < 2 → S.2.1 48 (60 * k + s) = 0) ∧ (S.1 47 (60 * k + s) = 0 ∨ S.1 47 (60 * k + s) < rln S s) ∧ (ringy (S.1 2 s) = false → S.1 47 (60 * k + s) = 0) ∧
  (∀ j, j < 64 → vb (vso S s) (S.2.1 46 (64 * (60 * k + s) + j))) ∧ (∀ j, j < 64 → rln S s ≤ j → S.2.1 46 (64 * (60 * k + s) + j) = 0) ∧ (S.1 2 s = 12 → 0 ≤ S.2.1 46 (64 * (60 * k + s)) ∧ S.2.1 46 (64 * (60 * k + s)) < (S.2.2 4 s).toInt64)
def KWl (S : ST) (k c l : Nat) : Prop := S.1 50 (60 * k + l) < S.1 23 l ∧ ∀ j, j < 64 → vb (cso S c) (S.2.1 49 (64 * (60 * k + l) + j))
def KW (S : ST) (k : Nat) : Prop := ∀ i, i < S.1 72 k → (∀ p, p < S.1 51 (20 * k + S.1 73 (20 * k + i)) → KWs S k (S.1 18 (10 * S.1 73 (20 * k + i) + p))) ∧
  ∀ q, q < S.1 52 (20 * k + S.1 73 (20 * k + i)) → 1 ≤ S.1 51 (20 * k + S.1 73 (20 * k + i)) ∧ KWl S k (S.1 73 (20 * k + i)) (3 * S.1 73 (20 * k + i) + q)
/-- what was kept as k hangs together: a chain that a section had within it then is still within it; the tree is that of then -/
def KT (S : ST) (k : Nat) : Prop :=
  (∀ i, i < S.1 72 k → ∀ p, p < S.1 51 (20 * k + S.1 73 (20 * k + i)) → S.1 53 (60 * k + S.1 18 (10 * S.1 73 (20 * k + i) + p)) = 0 ∨ S.1 53 (60 * k + S.1 18 (10 * S.1 73 (20 * k + i) + p)) = S.1 10 (S.1 18 (10 * S.1 73 (20 * k + i) + p))) ∧
  (tro (fun c => S.1 51 (20 * k + c)) (fun c p => S.1 53 (60 * k + S.1 18 (10 * c + p))) 21 0 (1, fun _ => S.1 45 k)).1 = S.1 72 k ∧
  (∀ i, i < S.1 72 k → (tro (fun c => S.1 51 (20 * k + c)) (fun c p => S.1 53 (60 * k + S.1 18 (10 * c + p))) 21 0 (1, fun _ => S.1 45 k)).2 i = S.1 73 (20 * k + i)) ∧ KW S k
