/-! THE LAW'S OWN ARRAYS, beside the class's heap -/
abbrev LV : Type := (Nat → Nat → Int32) × (Nat → Nat → Int64)
def llg (q : Nat) : Bool := q == 5 || q == 6 || q == 7 || q == 8 || q == 10 || q == 13
def lln (q : Nat) : Nat := if q = 0 then 60 else if q = 8 then 16 else if q = 13 then 8 else if q = 14 then 40 else 4
theorem lln_le (n : Nat) : lln n ≤ 60 := by
  unfold lln
  split <;> try omega
  split <;> try omega
  split <;> try omega
  split <;> omega
def lty (q : Nat) : FieldType := if llg q = true then .long else .int
def lcell (V : LV) (q : Nat) : JCell := .inr (lty q, lln q, fun j => if llg q = true then .long (V.2 q j) else .int (V.1 q j))
def lmem (la : Nat → Nat) (V : LV) (h0 : Nat → Option JCell) : Nat → Nat → Option JCell
  | 0 => h0
  | n + 1 => fun a => if a = la n then some (lcell V n) else lmem la V h0 n a
def vI (V : LV) (q j : Nat) (x : Int32) : LV := (up2 V.1 q j x, V.2)
def vJ (V : LV) (q j : Nat) (x : Int64) : LV := (V.1, up2 V.2 q j x)
def lin (la : Nat → Nat) (n : Nat) : Prop := ∀ i j, i < n → j < n → la i = la j → i = j
section LAWMEM
variable {la la' : Nat → Nat} {V V' : LV} {h0 : Nat → Option JCell} {B bx n q j : Nat} {C : CT}
theorem lm_at (hi : lin la n) (hq : q < n) : lmem la V h0 n (la q) = some (lcell V q) := by
  induction n with
  | zero => exact absurd hq (Nat.not_lt_zero _)
  | succ n ih =>
    show (if la q = la n then some (lcell V n) else lmem la V h0 n (la q)) = _
    by_cases e : la q = la n
    · have := hi q n hq (by omega) e
      rw [if_pos e, this]
    · rw [if_neg e]
      exact ih (fun i j h1 h2 => hi i j (by omega) (by omega)) (by have : q ≠ n := fun z => e (by rw [z]); omega)
theorem lm_off {a : Nat} (h : ∀ i, i < n → a ≠ la i) : lmem la V h0 n a = h0 a := by
  induction n with
  | zero => rfl
  | succ n ih =>
    show (if a = la n then some (lcell V n) else lmem la V h0 n a) = _
    rw [if_neg (h n (by omega))]
    exact ih fun i hi => h i (by omega)
theorem lm_cong (h : ∀ i, i < n → la' i = la i) (hc : ∀ i, i < n → lcell V' i = lcell V i) : lmem la' V' h0 n = lmem la V h0 n := by
  induction n with
  | zero => rfl
  | succ n ih =>
    funext a
    show (if a = la' n then some (lcell V' n) else lmem la' V' h0 n a) = (if a = la n then some (lcell V n) else lmem la V h0 n a)
    rw [h n (by omega), hc n (by omega), ih (fun i hi => h i (by omega)) (fun i hi => hc i (by omega))]
theorem lm_put (hi : lin la n) (hq : q < n) (hc : ∀ i, i < n → i ≠ q → lcell V' i = lcell V i) : jup (lmem la V h0 n) (la q) (lcell V' q) = lmem la V' h0 n := by
  funext a
  unfold jup
  by_cases e : a = la q
  · rw [if_pos e, e, lm_at hi hq]
  · rw [if_neg e]
    by_cases h : ∃ i, i < n ∧ a = la i
    · obtain ⟨i, h1, rfl⟩ := h
      rw [lm_at hi h1, lm_at hi h1, hc i h1 (fun z => e (by rw [z]))]
    · rw [lm_off (fun i hi z => h ⟨i, hi, z⟩), lm_off (fun i hi z => h ⟨i, hi, z⟩)]
theorem ovC_lm (h0t : C.1 (la q) = 0) (hi : lin la n) (hq : q < n) : ovC C (lmem la V h0 n) (la q) = some (lcell V q) := by
  unfold ovC
  rw [if_pos h0t, lm_at hi hq]
theorem ovC_jup {a : Nat} {x : JCell} {h : Nat → Option JCell} (h0t : C.1 a = 0) : jup (ovC C h) a x = ovC C (jup h a x) := by
  funext b
  show (if b = a then some x else ovC C h b) = (if C.1 b = 0 then (if b = a then some x else h b) else some (ccell C b))
  by_cases e : b = a
  · subst e; rw [if_pos rfl, if_pos h0t, if_pos rfl]
  · rw [if_neg e, if_neg e]; rfl
theorem jrg_some {m : Nat} {v : Int32} {k : Nat} (h : jrg m v = some k) : ¬ (v < 0 ∨ m ≤ v.toNatClampNeg) ∧ v.toNatClampNeg = k := by
  unfold jrg at h
  by_cases q : ¬ (v < 0 ∨ m ≤ v.toNatClampNeg)
  · rw [if_pos q] at h; cases h; exact ⟨q, rfl⟩
  · rw [if_neg q] at h; cases h
theorem l_rdI {v : Int32} (h0t : C.1 (la q) = 0) (hi : lin la n) (hq : q < n) (hl : llg q = false) (hj : jrg (lln q) v = some j) : jaI (ovC C (lmem la V h0 n)) (la q) v = some (V.1 q j) := by
  obtain ⟨h1, h2⟩ := jrg_some hj
  unfold jaI jaV
  rw [ovC_lm h0t hi hq]
  unfold lcell lty
  rw [hl]
  show (if (FieldType.int = FieldType.int ∧ ¬ (v < 0 ∨ lln q ≤ v.toNatClampNeg)) then _ else _ : Option Value).bind jvI = _
  rw [if_pos ⟨rfl, h1⟩, h2]
  rfl
theorem l_rdJ {v : Int32} (h0t : C.1 (la q) = 0) (hi : lin la n) (hq : q < n) (hl : llg q = true) (hj : jrg (lln q) v = some j) : jaJ (ovC C (lmem la V h0 n)) (la q) v = some (V.2 q j) := by
  obtain ⟨h1, h2⟩ := jrg_some hj
  unfold jaJ jaV
  rw [ovC_lm h0t hi hq]
  unfold lcell lty
  rw [hl]
  show (if (FieldType.long = FieldType.long ∧ ¬ (v < 0 ∨ lln q ≤ v.toNatClampNeg)) then _ else _ : Option Value).bind jvJ = _
  rw [if_pos ⟨rfl, h1⟩, h2]
  rfl
theorem l_ptI {v x : Int32} {c : Nat × Nat} (h0t : C.1 (la q) = 0) (hB : B ≤ la q) (hi : lin la n) (hq : q < n) (hl : llg q = false) (hj : jrg (lln q) v = some j) : jpA B .int (la q) v (.int x) (ovC C (lmem la V h0 n), c) = some (ovC C (lmem la (vI V q j x) h0 n), c) := by
  obtain ⟨h1, h2⟩ := jrg_some hj
  unfold jpA
  dsimp only
  rw [ovC_lm h0t hi hq]
  unfold lcell lty
  rw [hl]
  show (if (FieldType.int = FieldType.int ∧ B ≤ la q ∧ ¬ (v < 0 ∨ lln q ≤ v.toNatClampNeg)) then _ else _ : Option JMem) = _
  rw [if_pos ⟨rfl, hB, h1⟩, h2, ovC_jup h0t]
  have e : (Sum.inr (FieldType.int, lln q, updV (fun j => if false = true then Value.long (V.2 q j) else Value.int (V.1 q j)) j (Value.int x)) : JCell) = lcell (vI V q j x) q := by
    unfold lcell lty
    rw [hl]
    refine congrArg Sum.inr (Prod.ext rfl (Prod.ext rfl (funext fun y => ?_)))
    by_cases e : y = j <;> simp [updV, vI, up2, e]
  show some (ovC C (jup (lmem la V h0 n) (la q) _), c) = _
  rw [show (if false = true then FieldType.long else FieldType.int) = FieldType.int from rfl, e, lm_put hi hq (fun i _ hn => ?_)]
  unfold lcell vI
  refine congrArg Sum.inr (Prod.ext rfl (Prod.ext rfl (funext fun y => ?_)))
  show (if llg i = true then _ else Value.int (up2 V.1 q j x i y)) = _
  rw [up2_k _ _ _ _ hn]
theorem l_ptJ {v : Int32} {x : Int64} {c : Nat × Nat} (h0t : C.1 (la q) = 0) (hB : B ≤ la q) (hi : lin la n) (hq : q < n) (hl : llg q = true) (hj : jrg (lln q) v = some j) : jpA B .long (la q) v (.long x) (ovC C (lmem la V h0 n), c) = some (ovC C (lmem la (vJ V q j x) h0 n), c) := by
  obtain ⟨h1, h2⟩ := jrg_some hj
  unfold jpA
  dsimp only
  rw [ovC_lm h0t hi hq]
  unfold lcell lty
  rw [hl]
  show (if (FieldType.long = FieldType.long ∧ B ≤ la q ∧ ¬ (v < 0 ∨ lln q ≤ v.toNatClampNeg)) then _ else _ : Option JMem) = _
  rw [if_pos ⟨rfl, hB, h1⟩, h2, ovC_jup h0t]
  have e : (Sum.inr (FieldType.long, lln q, updV (fun j => if true = true then Value.long (V.2 q j) else Value.int (V.1 q j)) j (Value.long x)) : JCell) = lcell (vJ V q j x) q := by
    unfold lcell lty
    rw [hl]
    refine congrArg Sum.inr (Prod.ext rfl (Prod.ext rfl (funext fun y => ?_)))
    by_cases e : y = j <;> simp [updV, vJ, up2, e]
  show some (ovC C (jup (lmem la V h0 n) (la q) _), c) = _
  rw [show (if true = true then FieldType.long else FieldType.int) = FieldType.long from rfl, e, lm_put hi hq (fun i _ hn => ?_)]
  unfold lcell vJ
  refine congrArg Sum.inr (Prod.ext rfl (Prod.ext rfl (funext fun y => ?_)))
  show (if llg i = true then Value.long (up2 V.2 q j x i y) else _) = _
  rw [up2_k _ _ _ _ hn]
/-- one array more -/
def cAl (C : CT) (n : Nat) : CT := (C.1, C.2.1, C.2.2.1, C.2.2.2.1, C.2.2.2.2.1, C.2.2.2.2.2.1, ((ck C).1 + 1, (ck C).2 + n))
def vz (V : LV) (n : Nat) : LV := (fun q j => if q = n then 0 else V.1 q j, fun q j => if q = n then 0 else V.2 q j)
theorem l_new {ty : FieldType} (hw : CW B C) (hla : ∀ i, i < n → la i < (ck C).1) (ht : lty n = ty) (hb : lln n * componentBytes ty ≤ 536870912) :
    jnA ty (i32 (lln n)) (ovC C (lmem la V h0 n), ck C) = some ((ck C).1, (ovC (cAl C (lln n)) (lmem (up1 la n (ck C).1) (vz V n) h0 (n + 1)), ck (cAl C (lln n)))) := by
  have hl : lln n ≤ 60 := by unfold lln; split <;> try omega
                             split <;> try omega
                             split <;> try omega
                             split <;> omega
  have hz : C.1 (ck C).1 = 0 := by
    by_cases e : C.1 (ck C).1 = 0
    · exact e
    · exact absurd (hw.2.1 _ e).2 (Nat.lt_irrefl _)
  unfold jnA
  rw [i32_nat (by omega), if_pos ⟨i32_nonneg (by omega), hb⟩]
  refine congrArg some (Prod.ext rfl (Prod.ext ?_ rfl))
  show jup (ovC C (lmem la V h0 n)) (ck C).1 _ = ovC (cAl C (lln n)) _
  rw [ovC_jup hz]
  show ovC C (jup (lmem la V h0 n) (ck C).1 _) = ovC C (lmem (up1 la n (ck C).1) (vz V n) h0 (n + 1))
  congr 1
  funext a
  show (if a = (ck C).1 then _ else lmem la V h0 n a) = (if a = up1 la n (ck C).1 n then some (lcell (vz V n) n) else lmem (up1 la n (ck C).1) (vz V n) h0 n a)
  have eu : up1 la n (ck C).1 n = (ck C).1 := if_pos rfl
  rw [eu]
  by_cases e : a = (ck C).1
  · rw [if_pos e, if_pos e]
    refine congrArg some ?_
    unfold lcell
    refine congrArg Sum.inr (Prod.ext ht.symm (Prod.ext rfl (funext fun y => ?_)))
    show defaultValue ty = (if llg n = true then Value.long (if n = n then 0 else V.2 n y) else Value.int (if n = n then 0 else V.1 n y))
    rw [if_pos rfl, if_pos rfl, ← ht]
    unfold lty
    cases llg n <;> rfl
  · rw [if_neg e, if_neg e]
    refine (congrFun (lm_cong (fun i hi => if_neg (by omega)) (fun i hi => ?_)) a).symm
    unfold lcell
    refine congrArg Sum.inr (Prod.ext rfl (Prod.ext rfl (funext fun y => ?_)))
    have hn : i ≠ n := by omega
    show (if llg i = true then Value.long (if i = n then 0 else V.2 i y) else Value.int (if i = n then 0 else V.1 i y)) = _
    rw [if_neg hn, if_neg hn]
end LAWMEM
/-! the coupling and the law's arrays -/
def lix (k : Nat) : Nat := if k ≤ 15 then k - 1 else 0
def lad (la : Nat → Nat) (D : Nat) : Nat → Nat := fun k => if k = 0 then D else la (lix k)
/-- the state of the law's run: n arrays made -/
def LX (G : GT) (B bx : Nat) (la : Nat → Nat) (n : Nat) (S : ST) (C : CT) : Prop := (∃ D, D ≤ n ∧ JE G 4000000 B bx (la 0) (lad la D) S C) ∧ lin la n ∧ (∀ q, q < n → B ≤ la q) ∧ (1 ≤ n ∧ n ≤ 15) ∧ ∀ q, n ≤ q → la q = la 0
section LAWX
variable {G : GT} {B bx n q : Nat} {la : Nat → Nat} {S S' : ST} {C C' : CT} {V : LV} {h0 : Nat → Option JCell}
theorem lx_tag (h : LX G B bx la n S C) (q : Nat) : C.1 (la q) = 0 ∧ la q < (ck C).1 := by
  obtain ⟨⟨D, -, A, J⟩, -, -, ⟨h1, h15⟩, hz⟩ := h
  obtain ⟨⟨l1, l2⟩, l3, l4⟩ := J.1.2.1
  by_cases h0 : q = 0
  · subst h0; exact ⟨l1, l3⟩
  · by_cases hq : n ≤ q
    · rw [hz q hq]; exact ⟨l1, l3⟩
    · have hm : q + 1 ∈ marrs := by
        exact (by decide : ∀ q, q < 15 → q ≠ 0 → q + 1 ∈ marrs) q (by omega) h0
      have e : lad la D (q + 1) = la q := by
        unfold lad lix
        rw [if_neg (by omega), if_pos (by omega), Nat.add_sub_cancel]
      have a := l2 _ hm
      have b := l4 _ hm
      rw [e] at a b
      exact ⟨a, b⟩
theorem lx_cw (h : LX G B bx la n S C) : CW B C := by
  obtain ⟨⟨D, -, J⟩, -⟩ := h
  exact je_cw J
theorem lx_ob (h : LX G B bx la n S C) : cob C bx 0 = true := by
  obtain ⟨⟨D, -, J⟩, -⟩ := h
  exact je_ob J
/-- a call that keeps the coupling -/
theorem lx_step {P : ST → CT → Prop} (h : LX G B bx la n S C) (f : ∀ D, JE G 4000000 B bx (la 0) (lad la D) S C → ∃ S' C', P S' C' ∧ JE G 4000000 B bx (la 0) (lad la D) S' C') : ∃ S' C', P S' C' ∧ LX G B bx la n S' C' := by
  obtain ⟨⟨D, hD, J⟩, h2⟩ := h
  obtain ⟨S', C', p, J'⟩ := f D J
  exact ⟨S', C', p, ⟨D, hD, J'⟩, h2⟩
theorem lx_ask {P : Prop} (h : LX G B bx la n S C) (f : ∀ D, JE G 4000000 B bx (la 0) (lad la D) S C → P) : P := by
  obtain ⟨⟨D, hD, J⟩, h2⟩ := h
  exact f D J
theorem je_al {E : Nat} {m : Nat} {ad ad' : Nat → Nat} {k : Nat} (hk : k ≤ 60) (J : JE G E B bx m ad S C) (had : ad' 0 = ad 0 + 1) (hl : lsp m ad' (cAl C k)) : JE G E B bx m ad' S (cAl C k) := by
  obtain ⟨A, ⟨⟨w1, w2, w3⟩, hRC, hRT, hWF, hRK, hRD⟩⟩ := J
  refine ⟨A, ⟨⟨?_, fun a ha => ⟨(w1.2.1 a ha).1, ?_⟩, fun a ha => w1.2.2 a ?_⟩, hl, fun z hz => ?_⟩, hRC, hRT, hWF, hRK, hRD⟩
  · have := w1.1
    show B ≤ (ck C).1 + 1
    omega
  · have := (w1.2.1 a ha).2
    show a < (ck C).1 + 1
    omega
  · have : (ck C).1 + 1 ≤ a := ha
    omega
  · have := w3 z hz
    rw [had]
    show (ck C).1 + 1 + _ + _ + _ + _ + _ ≤ _ ∧ (ck C).2 + k + _ + _ + _ + _ + _ ≤ _
    omega
theorem lx_new (h : LX G B bx la n S C) (hn : n < 15) : LX G B bx (up1 la n (ck C).1) (n + 1) S (cAl C (lln n)) := by
  have ht := lx_tag h
  have hw := lx_cw h
  obtain ⟨⟨D, hD, J⟩, hi, hB, ⟨h1, h15⟩, hz⟩ := h
  have hl : lln n ≤ 60 := by unfold lln; split <;> try omega
                             split <;> try omega
                             split <;> try omega
                             split <;> omega
  have hzk : C.1 (ck C).1 = 0 := by
    by_cases e : C.1 (ck C).1 = 0
    · exact e
    · exact absurd (hw.2.1 _ e).2 (Nat.lt_irrefl _)
  have e0 : up1 la n (ck C).1 0 = la 0 := if_neg (by omega)
  have tg : ∀ q, C.1 (up1 la n (ck C).1 q) = 0 ∧ up1 la n (ck C).1 q < (ck C).1 + 1 := fun q => by
    unfold up1
    by_cases e : q = n
    · rw [if_pos e]; exact ⟨hzk, by omega⟩
    · rw [if_neg e]; exact ⟨(ht q).1, by have := (ht q).2; omega⟩
  refine ⟨⟨D + 1, by omega, ?_⟩, fun i j hi' hj' e => ?_, fun q hq => ?_, ⟨by omega, by omega⟩, fun q hq => ?_⟩
  · rw [e0]
    refine je_al hl J rfl ⟨⟨(ht 0).1, fun k hk => ?_⟩, ?_, fun k hk => ?_⟩
    · have : k ≠ 0 := fun z => by subst z; revert hk; decide
      show C.1 (lad (up1 la n (ck C).1) (D + 1) k) = 0
      unfold lad
      rw [if_neg this]
      exact (tg _).1
    · have := (ht 0).2
      show la 0 < (ck C).1 + 1
      omega
    · have : k ≠ 0 := fun z => by subst z; revert hk; decide
      show lad (up1 la n (ck C).1) (D + 1) k < (ck C).1 + 1
      unfold lad
      rw [if_neg this]
      exact (tg _).2
  · unfold up1 at e
    by_cases e1 : i = n
    · by_cases e2 : j = n
      · omega
      · rw [if_pos e1, if_neg e2] at e
        have := (ht j).2; omega
    · by_cases e2 : j = n
      · rw [if_neg e1, if_pos e2] at e
        have := (ht i).2; omega
      · rw [if_neg e1, if_neg e2] at e
        exact hi i j (by omega) (by omega) e
  · unfold up1
    by_cases e : q = n
    · rw [if_pos e]; exact hw.1
    · rw [if_neg e]; exact hB q (by omega)
  · rw [e0]
    unfold up1
    rw [if_neg (by omega)]
    exact hz q (by omega)
theorem lx_rdI {v : Int32} {j : Nat} (h : LX G B bx la n S C) (hq : q < n) (hl : llg q = false) (hj : jrg (lln q) v = some j) : jaI (ovC C (lmem la V h0 n)) (la q) v = some (V.1 q j) := l_rdI (lx_tag h q).1 h.2.1 hq hl hj
theorem lx_rdJ {v : Int32} {j : Nat} (h : LX G B bx la n S C) (hq : q < n) (hl : llg q = true) (hj : jrg (lln q) v = some j) : jaJ (ovC C (lmem la V h0 n)) (la q) v = some (V.2 q j) := l_rdJ (lx_tag h q).1 h.2.1 hq hl hj
theorem lx_ptI {v x : Int32} {j : Nat} {c : Nat × Nat} (h : LX G B bx la n S C) (hq : q < n) (hl : llg q = false) (hj : jrg (lln q) v = some j) : jpA B .int (la q) v (.int x) (ovC C (lmem la V h0 n), c) = some (ovC C (lmem la (vI V q j x) h0 n), c) := l_ptI (lx_tag h q).1 (h.2.2.1 q hq) h.2.1 hq hl hj
theorem lx_ptJ {v : Int32} {x : Int64} {j : Nat} {c : Nat × Nat} (h : LX G B bx la n S C) (hq : q < n) (hl : llg q = true) (hj : jrg (lln q) v = some j) : jpA B .long (la q) v (.long x) (ovC C (lmem la V h0 n), c) = some (ovC C (lmem la (vJ V q j x) h0 n), c) := l_ptJ (lx_tag h q).1 (h.2.2.1 q hq) h.2.1 hq hl hj
theorem lx_newI (h : LX G B bx la n S C) (hn : n < 15) (hl : llg n = false) : jnA .int (i32 (lln n)) (ovC C (lmem la V h0 n), ck C) = some ((ck C).1, (ovC (cAl C (lln n)) (lmem (up1 la n (ck C).1) (vz V n) h0 (n + 1)), ck (cAl C (lln n)))) := by
  refine l_new (lx_cw h) (fun i _ => (lx_tag h i).2) (by unfold lty; rw [hl]; rfl) ?_
  have := lln_le n
  show lln n * 4 ≤ _
  omega
theorem lx_newJ (h : LX G B bx la n S C) (hn : n < 15) (hl : llg n = true) : jnA .long (i32 (lln n)) (ovC C (lmem la V h0 n), ck C) = some ((ck C).1, (ovC (cAl C (lln n)) (lmem (up1 la n (ck C).1) (vz V n) h0 (n + 1)), ck (cAl C (lln n)))) := by
  refine l_new (lx_cw h) (fun i _ => (lx_tag h i).2) (by unfold lty; rw [hl]; rfl) ?_
  have := lln_le n
  show lln n * 8 ≤ _
  omega
/-- the static rows lie below -/
theorem lx_CS {SA : Nat → Nat} (h : LX G B bx la n S C) (hs : CS B SA h0) : CS B SA (lmem la V h0 n) := fun k hk => by
  obtain ⟨h1, m, f, h2, h3⟩ := hs k hk
  refine ⟨h1, m, f, ?_, h3⟩
  rw [lm_off (fun i hi e => by have := h.2.2.1 i hi; omega)]
  exact h2
end LAWX
