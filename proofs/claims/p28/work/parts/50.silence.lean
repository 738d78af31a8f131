/-! rows are silenced -/
section SILENCE
variable {G : GT} {E B bx m : Nat} {ad : Nat → Nat} {S : ST} {A : AT} {C : CT} {T : MT} {c s : Nat}
def fiC (C : CT) (a p n : Nat) (v : Int64) : CT := (C.1, C.2.1, C.2.2.1, fun x y z => if x = 900 ∧ y = a ∧ p ≤ z ∧ z < n then v else C.2.2.2.1 x y z, C.2.2.2.2)
theorem fiC_nil {a p : Nat} {v : Int64} : fiC C a p p v = C := by
  have : (fun x y z => if x = 900 ∧ y = a ∧ p ≤ z ∧ z < p then v else C.2.2.2.1 x y z) = C.2.2.2.1 := funext fun x => funext fun y => funext fun z => if_neg (by omega)
  unfold fiC
  rw [this]
theorem fiC_step {a p n : Nat} {v : Int64} (h : p < n) : fiC (csJ C 900 a p v) a (p + 1) n v = fiC C a p n v := by
  have : (fun x y z => if x = 900 ∧ y = a ∧ p + 1 ≤ z ∧ z < n then v else (csJ C 900 a p v).2.2.2.1 x y z) = (fun x y z => if x = 900 ∧ y = a ∧ p ≤ z ∧ z < n then v else C.2.2.2.1 x y z) := funext fun x => funext fun y => funext fun z => by
    simp only [csJ, up3]
    by_cases h1 : x = 900 ∧ y = a
    · by_cases h2 : z = p
      · subst h2
        rw [if_neg (by omega), if_pos ⟨h1.1, h1.2, rfl⟩, if_pos ⟨h1.1, h1.2, by omega, h⟩]
      · by_cases h3 : p ≤ z ∧ z < n
        · rw [if_pos ⟨h1.1, h1.2, by omega, h3.2⟩, if_pos ⟨h1.1, h1.2, h3⟩]
        · rw [if_neg (by omega), if_neg (fun q => h2 q.2.2), if_neg (by omega)]
    · rw [if_neg (fun q => h1 ⟨q.1, q.2.1⟩), if_neg (fun q => h1 ⟨q.1, q.2.1⟩), if_neg (fun q => h1 ⟨q.1, q.2.1⟩)]
  show (C.1, C.2.1, C.2.2.1, (fun x y z => if x = 900 ∧ y = a ∧ p + 1 ≤ z ∧ z < n then v else (csJ C 900 a p v).2.2.2.1 x y z), C.2.2.2.2) = fiC C a p n v
  rw [this]; rfl
theorem fill_go {N a len : Nat} {v : Int64} (hl : len < 2 ^ 31) : ∀ (q n p : Nat) (C : CT), C.1 a = 21 → C.2.1 a = len → p + q = len → q < n → c_JArrays_fill_6 N n a v (i32 p) (i32 len) C = some (fiC C a p len v)
  | 0, 0, _, _, _, _, _, h => absurd h (by omega)
  | 0, n + 1, p, C, _, _, hp, _ => by
    have : p = len := by omega
    subst this
    unfold c_JArrays_fill_6
    rw [if_pos (Int32.le_refl _), fiC_nil]
  | q + 1, 0, _, _, _, _, _, h => absurd h (by omega)
  | q + 1, n + 1, p, C, ht, hn, hp, hq => by
    unfold c_JArrays_fill_6
    rw [if_neg (by rw [i32_le (by omega) (by omega)]; omega), cqJ_of ht hn (by omega) hl, obd_some, show i32 p + 1 = i32 (p + 1) from i32_add p 1, fill_go (N := N) hl q n (p + 1) _ (show (csJ C 900 a p v).1 a = 21 from ht) (show (csJ C 900 a p v).2.1 a = len from hn) (by omega) (by omega), fiC_step (by omega)]
theorem fill_of {N a len : Nat} {v : Int64} (hN : len < N) (hl : len < 2 ^ 31) (ht : C.1 a = 21) (hn : C.2.1 a = len) : c_JArrays_fill N (some a) v C = some (fiC C a 0 len v) := by
  unfold c_JArrays_fill
  rw [obd_some, cal_of (by rw [ht]; decide) hn, obd_some]
  exact fill_go hl len N 0 C ht hn (by omega) hN
theorem ag_fiC {C C' : CT} {a b p n : Nat} {v : Int64} (h : Ag C C' a) (hn : a ≠ b) : Ag C (fiC C' b p n v) a := by
  obtain ⟨h1, h2, h3, h4, h5, h6⟩ := h
  exact ⟨h1, h2, h3, fun x => (funext fun y => by simp [fiC, hn]).trans (h4 x), h5, h6⟩
theorem cw_fiC {a p n : Nat} {v : Int64} (hw : CW B C) (ht : C.1 a ≠ 0) : CW B (fiC C a p n v) := by
  refine ⟨hw.1, hw.2.1, fun x hx y z => ?_⟩
  have h1 := hw.2.1 a ht
  have h2 := hw.2.2 x hx y z
  refine ⟨h2.1, ?_, h2.2.2.1, h2.2.2.2⟩
  have hx' : (ck C).1 ≤ x := hx
  have : x ≠ a := by omega
  simp [fiC, this, h2.2.1]
/-- a row is cleared -/
theorem rowClear_of {N row a len : Nat} (hN : len < N) (hl : len < 2 ^ 31) (hr : C.1 row = 7) (hc : C.2.2.2.2.1 96 row 0 = some a) (ht : C.1 a = 21) (hn : C.2.1 a = len) : c_Row_clear N row C = some (fiC C a 0 len 0) := by
  unfold c_Row_clear
  have e : cgA C row 6 0 = some (some a) := (if_pos hr).trans (congrArg some hc)
  rw [e, obd_some, fill_of hN hl ht hn, obd_some]
/-- a cleared ring holds nothing, whatever its eldest -/
theorem ring_clear {a n e base r : Nat} {f : Nat → Int64} (h : ring C a n e f base r) : ring (fiC C a 0 n 0) a n e (fun _ => 0) base 0 := by
  obtain ⟨h1, h2, h3, h4, h5⟩ := h
  refine ⟨h1, h2, h3, Or.inl rfl, fun k hk => ?_⟩
  have : (e + k) % n < n := Nat.mod_lt _ (by omega)
  simp [fiC, this]
end SILENCE
