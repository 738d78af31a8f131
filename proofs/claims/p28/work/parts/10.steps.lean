/-! the small machine's steps as backward rules (printed by wip/whole/steps.py) -/
def jG (k pc : Nat) (i : Instr) (r : List Nat) (v : Value) (pc' : Nat) : Prop := jF k pc = some (i, r, v) ∧ pc + jlen i = pc'
def jR (B : Nat) (SA : Nat → Nat) (d k pc : Nat) (L : JLoc) (st : List Value) (μ : JMem) (o : Option Value) (μ' : JMem) : Prop := ∃ n, jex B SA n d k pc L st μ = some (o, μ')
/-! words of the typed functions -/
def rv : Option Nat → Value | some a => .ref a | none => .null
def jb : Bool → Int32 | true => 1 | false => 0
def obd {α β : Type} (o : Option α) (f : α → Option β) : Option β := o.bind f
def jbd2 {α β : Type} (o : Option (α × JMem)) (f : α → JMem → Option β) : Option β := o.bind fun q => f q.1 q.2
def jlet {α β : Type} (x : α) (f : α → β) : β := f x
def jgd {α : Type} (b : Bool) (x : Option α) : Option α := match b with | true => x | false => none
def jon {β : Type} (o : Option Nat) (x : β) (f : Nat → β) : β := match o with | none => x | some a => f a
def jdivI (x y : Int32) : Option Int32 := if y = 0 then none else some (x / y)
def jremI (x y : Int32) : Option Int32 := if y = 0 then none else some (x - x / y * y)
def jdivL (x y : Int64) : Option Int64 := if y = 0 then none else some (x / y)
def jremL (x y : Int64) : Option Int64 := if y = 0 then none else some (x - x / y * y)
def jnD (x : UInt64) : Option UInt64 := if x &&& 0x7fffffffffffffff ≤ 0x7ff0000000000000 then some x else none
def jnF (x : UInt32) : Option UInt32 := if x &&& 0x7fffffff ≤ 0x7f800000 then some x else none
def jl2d (b : Int64) : Option UInt64 := if vn_snl2d b = false then some b.toUInt64 else none
def ji2f (b : Int32) : Option UInt32 := if vn_sni2f b = false then some b.toUInt32 else none
def jvI : Value → Option Int32 | .int x => some x | _ => none
def jvJ : Value → Option Int64 | .long x => some x | _ => none
def jvD : Value → Option UInt64 | .double x => some x | _ => none
def jvZ : Value → Option Bool | .int x => if x = 1 then some true else if x = 0 then some false else none | _ => none
def jvA : Value → Option (Option Nat) | .ref a => some (some a) | .null => some none | _ => none
def jgF (h : Nat → Option JCell) (a ci k : Nat) : Option Value := match h a with | some (.inl (c, f)) => if c = ci then some (f k) else none | _ => none
def jgI (h : Nat → Option JCell) (a ci k : Nat) : Option Int32 := (jgF h a ci k).bind jvI
def jgJ (h : Nat → Option JCell) (a ci k : Nat) : Option Int64 := (jgF h a ci k).bind jvJ
def jgD (h : Nat → Option JCell) (a ci k : Nat) : Option UInt64 := (jgF h a ci k).bind jvD
def jgZ (h : Nat → Option JCell) (a ci k : Nat) : Option Bool := (jgF h a ci k).bind jvZ
def jgA (h : Nat → Option JCell) (a ci k : Nat) : Option (Option Nat) := (jgF h a ci k).bind jvA
def jaV (h : Nat → Option JCell) (ty : FieldType) (a : Nat) (j : Int32) : Option Value := match h a with | some (.inr (t, n, f)) => if t = ty ∧ ¬ (j < 0 ∨ n ≤ j.toNatClampNeg) then some (f j.toNatClampNeg) else none | _ => none
def jaI (h : Nat → Option JCell) (a : Nat) (j : Int32) : Option Int32 := (jaV h .int a j).bind jvI
def jaJ (h : Nat → Option JCell) (a : Nat) (j : Int32) : Option Int64 := (jaV h .long a j).bind jvJ
def jaD (h : Nat → Option JCell) (a : Nat) (j : Int32) : Option UInt64 := (jaV h .double a j).bind jvD
def jaR (h : Nat → Option JCell) (a : Nat) (j : Int32) : Option Value := match h a with | some (.inr (.object _, n, f)) => if ¬ (j < 0 ∨ n ≤ j.toNatClampNeg) then some (f j.toNatClampNeg) else none | _ => none
def jaA (h : Nat → Option JCell) (a : Nat) (j : Int32) : Option (Option Nat) := (jaR h a j).bind jvA
def jal (h : Nat → Option JCell) (a : Nat) : Option Int32 := match h a with | some (.inr (_, n, _)) => some (Int32.ofNat n) | _ => none
def jpF (B ci k a : Nat) (v : Value) (μ : JMem) : Option JMem := match μ.1 a with | some (.inl (c, f)) => if c = ci ∧ B ≤ a then some (jup μ.1 a (.inl (c, updV f k v)), μ.2) else none | _ => none
def jpA (B : Nat) (ty : FieldType) (a : Nat) (j : Int32) (v : Value) (μ : JMem) : Option JMem := match μ.1 a with | some (.inr (t, n, f)) => if t = ty ∧ B ≤ a ∧ ¬ (j < 0 ∨ n ≤ j.toNatClampNeg) then some (jup μ.1 a (.inr (t, n, updV f j.toNatClampNeg v)), μ.2) else none | _ => none
def jpO (B a : Nat) (j : Int32) (b : Nat) (μ : JMem) : Option JMem := match μ.1 b with | some (.inl (c, _)) => jpA B (.object (jclsN c)) a j (.ref b) μ | _ => none
def jnO (ci : Nat) (μ : JMem) : JMem := (jup μ.1 μ.2.1 (.inl (ci, fun k => defaultValue (jfty ci k))), μ.2.1 + 1, μ.2.2 + jnfl ci)
def jnew {β : Type} (ci : Nat) (μ : JMem) (f : Nat → JMem → β) : β := f μ.2.1 (jnO ci μ)
def jnA (ty : FieldType) (n : Int32) (μ : JMem) : Option (Nat × JMem) := if ¬ n < 0 ∧ n.toNatClampNeg * componentBytes ty ≤ 536870912 then some (μ.2.1, (jup μ.1 μ.2.1 (.inr (ty, n.toNatClampNeg, fun _ => defaultValue ty)), μ.2.1 + 1, μ.2.2 + n.toNatClampNeg)) else none
def jnR (ci : Nat) (n : Int32) (μ : JMem) : Option (Nat × JMem) := if ¬ n < 0 ∧ n.toNatClampNeg * 4 ≤ 536870912 then some (μ.2.1, (jup μ.1 μ.2.1 (.inr (.object (jclsN ci), n.toNatClampNeg, fun _ => .null)), μ.2.1 + 1, μ.2.2 + n.toNatClampNeg)) else none
theorem obd_some {α β : Type} (x : α) (f : α → Option β) : obd (some x) f = f x := rfl
theorem obd_none {α β : Type} (f : α → Option β) : obd none f = none := rfl
theorem jbd2_some {α β : Type} (x : α) (μ : JMem) (f : α → JMem → Option β) : jbd2 (some (x, μ)) f = f x μ := rfl
theorem jon_some {β : Type} (a : Nat) (x : β) (f : Nat → β) : jon (some a) x f = f a := rfl
theorem jon_none {β : Type} (x : β) (f : Nat → β) : jon none x f = x := rfl
theorem jgd_true {α : Type} (x : Option α) : jgd true x = x := rfl
theorem obd_of {α β : Type} {o : Option α} {f : α → Option β} {r : β} (h : obd o f = some r) : ∃ x, o = some x ∧ f x = some r := by
  cases o with
  | none => cases h
  | some x => exact ⟨x, rfl, h⟩
theorem jbd2_of {α β : Type} {o : Option (α × JMem)} {f : α → JMem → Option β} {r : β} (h : jbd2 o f = some r) : ∃ x μ, o = some (x, μ) ∧ f x μ = some r := by
  cases o with
  | none => cases h
  | some x => exact ⟨x.1, x.2, rfl, h⟩
theorem jgd_of {α : Type} {b : Bool} {x : Option α} {r : α} (h : jgd b x = some r) : b = true ∧ x = some r := by
  cases b with
  | false => cases h
  | true => exact ⟨rfl, h⟩
theorem jon_or {β : Type} {o : Option Nat} {x : β} {f : Nat → β} {r : β} (h : jon o x f = r) : (o = none ∧ x = r) ∨ ∃ a, o = some a ∧ f a = r := by
  cases o with
  | none => exact Or.inl ⟨rfl, h⟩
  | some a => exact Or.inr ⟨a, rfl, h⟩
theorem ite_or {β : Type} {c : Prop} {i : Decidable c} {x y r : β} (h : (@ite β c i x y) = r) : (c ∧ x = r) ∨ (¬ c ∧ y = r) := by
  by_cases q : c
  · rw [if_pos q] at h; exact Or.inl ⟨q, h⟩
  · rw [if_neg q] at h; exact Or.inr ⟨q, h⟩
theorem jlet_of {α β : Type} {x : α} {f : α → β} {r : β} (h : jlet x f = r) : f x = r := h
theorem jnew_of {β : Type} {ci : Nat} {μ : JMem} {f : Nat → JMem → β} {r : β} (h : jnew ci μ f = r) : f μ.2.1 (jnO ci μ) = r := h
theorem rv_cat (q : Option Nat) : (rv q).category = 1 := by cases q <;> rfl
theorem jdivI_of {x y r : Int32} (h : jdivI x y = some r) : y ≠ 0 ∧ x / y = r := by
  unfold jdivI at h
  split at h
  · cases h
  · rename_i q; cases h; exact ⟨q, rfl⟩
theorem jremI_of {x y r : Int32} (h : jremI x y = some r) : y ≠ 0 ∧ x - x / y * y = r := by
  unfold jremI at h
  split at h
  · cases h
  · rename_i q; cases h; exact ⟨q, rfl⟩
theorem jdivL_of {x y r : Int64} (h : jdivL x y = some r) : y ≠ 0 ∧ x / y = r := by
  unfold jdivL at h
  split at h
  · cases h
  · rename_i q; cases h; exact ⟨q, rfl⟩
theorem jremL_of {x y r : Int64} (h : jremL x y = some r) : y ≠ 0 ∧ x - x / y * y = r := by
  unfold jremL at h
  split at h
  · cases h
  · rename_i q; cases h; exact ⟨q, rfl⟩
theorem jvI_of {v : Value} {r : Int32} (h : jvI v = some r) : v = .int r := by
  cases v <;> simp [jvI] at h
  rw [h]
theorem jvJ_of {v : Value} {r : Int64} (h : jvJ v = some r) : v = .long r := by
  cases v <;> simp [jvJ] at h
  rw [h]
theorem jvD_of {v : Value} {r : UInt64} (h : jvD v = some r) : v = .double r := by
  cases v <;> simp [jvD] at h
  rw [h]
theorem jvZ_of {v : Value} {r : Bool} (h : jvZ v = some r) : v = .int (jb r) := by
  cases v with
  | int x =>
    simp only [jvZ] at h
    split at h
    · rename_i e; cases h; rw [e]; rfl
    · split at h
      · rename_i e; cases h; rw [e]; rfl
      · cases h
  | _ => simp [jvZ] at h
theorem jvA_of {v : Value} {r : Option Nat} (h : jvA v = some r) : v = rv r := by
  cases v <;> simp [jvA] at h <;> subst h <;> rfl
/-! locals -/
theorem jget_filter (P : Nat × Value → Bool) (j : Nat) : ∀ (L : JLoc), (∀ v, jget L j = v → v ≠ .retAddr 0 → P (j, v) = true) → (∀ v : Value, v = .retAddr 0 → P (j, v) = true) → jget (L.filter P) j = jget L j := by
  intro L
  induction L with
  | nil => intro _ _; rfl
  | cons q L ih =>
    intro h h0
    obtain ⟨i, v⟩ := q
    by_cases e : i = j
    · subst e
      have hP : P (i, v) = true := by
        by_cases e2 : v = .retAddr 0
        · exact h0 v e2
        · exact h v (by simp [jget]) e2
      rw [List.filter_cons_of_pos hP]
      simp [jget]
    · have ih' := ih (fun v' hv hn => h v' (by simp [jget, e]; exact hv) hn) h0
      by_cases hP : P (i, v) = true
      · rw [List.filter_cons_of_pos hP]
        simp only [jget, if_neg e]
        exact ih'
      · rw [List.filter_cons_of_neg hP]
        simp only [jget, if_neg e]
        exact ih'
theorem jg1_same {L : JLoc} {i : Nat} {v : Value} : jget (jset1 L i v) i = v := by simp [jset1, jget]
theorem jg2_same {L : JLoc} {i : Nat} {v : Value} : jget (jset2 L i v) i = v := by simp [jset2, jget]
theorem jg1_ne {L : JLoc} {i j : Nat} {v w : Value} (e : ((j == i) || (j + 1 == i)) = false) (h : jget L j = w) : jget (jset1 L i v) j = w := by
  simp only [Bool.or_eq_false_iff, beq_eq_false_iff_ne] at e
  simp only [jset1, jget, if_neg (Ne.symm e.1)]
  rw [jget_filter]
  · exact h
  · intro x _ _; simp [e.1, e.2]
  · intro x _; simp [e.1, e.2]
theorem jg1_pre {L : JLoc} {j : Nat} {v w : Value} (hc : w.category = 1) (h : jget L j = w) : jget (jset1 L (j + 1) v) j = w := by
  simp only [jset1, jget, if_neg (Nat.succ_ne_self j)]
  rw [jget_filter]
  · exact h
  · intro x hx _
    rw [h] at hx
    subst hx
    simp [hc] <;> omega
  · intro x hx; subst hx; simp [Value.category] <;> omega
theorem jg2_ne {L : JLoc} {i j : Nat} {v w : Value} (e : ((j == i) || (j + 1 == i) || (j == i + 1)) = false) (h : jget L j = w) : jget (jset2 L i v) j = w := by
  simp only [Bool.or_eq_false_iff, beq_eq_false_iff_ne] at e
  simp only [jset2, jget, if_neg (Ne.symm e.1.1)]
  rw [jget_filter]
  · exact h
  · intro x _ _; simp [e.1.1, e.1.2, e.2]
  · intro x _; simp [e.1.1, e.1.2, e.2]
theorem jg2_pre {L : JLoc} {j : Nat} {v w : Value} (hc : w.category = 1) (h : jget L j = w) : jget (jset2 L (j + 1) v) j = w := by
  simp only [jset2, jget, if_neg (Nat.succ_ne_self j)]
  rw [jget_filter]
  · exact h
  · intro x hx _
    rw [h] at hx
    subst hx
    simp [hc] <;> omega
  · intro x hx; subst hx; simp [Value.category] <;> omega
section STEPS
variable {B : Nat} {SA : Nat → Nat} {d k pc pc' : Nat} {L : JLoc} {st : List Value} {μ μ' : JMem} {o : Option Value} {r : List Nat} {v : Value}
theorem jr_stp {i : Instr} {st0 : List Value} {pc1 : Nat} {L1 : JLoc} {μ1 : JMem} (hF : jF k pc = some (i, r, v)) (h1 : jRet (jmi k).2.2.2.1 i st0 = none) (h2 : jCal i r st0 μ.1 = none) (h3 : jNat i r st0 = none) (h4 : jStp B SA (jmi k).2.2.1 pc i r v L st0 μ = some (pc1, L1, st, μ1)) (kk : jR B SA d k pc1 L1 st μ1 o μ') : jR B SA d k pc L st0 μ o μ' := by
  obtain ⟨n, hn⟩ := kk
  exact ⟨n + 1, by simp only [jex, hF, h1, h2, h3, h4]; exact hn⟩
theorem jr_pure {i : Instr} {st0 : List Value} (hG : jG k pc i r v pc') (h1 : jRet (jmi k).2.2.2.1 i st0 = none) (h2 : jCal i r st0 μ.1 = none) (h3 : jNat i r st0 = none) (h4 : jPure i v st0 = some st) (kk : jR B SA d k pc' L st μ o μ') : jR B SA d k pc L st0 μ o μ' :=
  jr_stp hG.1 h1 h2 h3 (by unfold jStp; rw [h4]; simp only [hG.2]) kk
theorem jr_lcl {i : Instr} {st0 : List Value} {L1 : JLoc} (hG : jG k pc i r v pc') (h1 : jRet (jmi k).2.2.2.1 i st0 = none) (h2 : jCal i r st0 μ.1 = none) (h3 : jNat i r st0 = none) (h0 : jPure i v st0 = none) (h4 : jLcl (jmi k).2.2.1 i L st0 = some (L1, st)) (kk : jR B SA d k pc' L1 st μ o μ') : jR B SA d k pc L st0 μ o μ' :=
  jr_stp hG.1 h1 h2 h3 (by unfold jStp; rw [h0, h4]; simp only [hG.2]) kk
theorem jr_jmp {i : Instr} {st0 : List Value} {pc1 : Nat} (hG : jG k pc i r v pc') (h1 : jRet (jmi k).2.2.2.1 i st0 = none) (h2 : jCal i r st0 μ.1 = none) (h3 : jNat i r st0 = none) (h0 : jPure i v st0 = none) (h00 : jLcl (jmi k).2.2.1 i L st0 = none) (h4 : jJmp pc i r st0 = some (pc1, st)) (kk : jR B SA d k pc1 L st μ o μ') : jR B SA d k pc L st0 μ o μ' :=
  jr_stp hG.1 h1 h2 h3 (by unfold jStp; rw [h0, h00, h4]) kk
theorem jr_hep {i : Instr} {st0 : List Value} {μ1 : JMem} (hG : jG k pc i r v pc') (h1 : jRet (jmi k).2.2.2.1 i st0 = none) (h2 : jCal i r st0 μ.1 = none) (h3 : jNat i r st0 = none) (h0 : jPure i v st0 = none) (h00 : jLcl (jmi k).2.2.1 i L st0 = none) (h000 : jJmp pc i r st0 = none) (h4 : jHep B SA i r st0 μ = some (st, μ1)) (kk : jR B SA d k pc' L st μ1 o μ') : jR B SA d k pc L st0 μ o μ' :=
  jr_stp hG.1 h1 h2 h3 (by unfold jStp; rw [h0, h00, h000, h4]; simp only [hG.2]) kk
theorem jr_iadd {x y : Int32} (hG : jG k pc (.iadd) r v pc') (kk : jR B SA d k pc' L (.int (x + y) :: st) μ o μ') : jR B SA d k pc L (.int y :: .int x :: st) μ o μ' := jr_pure hG rfl rfl rfl rfl kk
theorem jr_isub {x y : Int32} (hG : jG k pc (.isub) r v pc') (kk : jR B SA d k pc' L (.int (x - y) :: st) μ o μ') : jR B SA d k pc L (.int y :: .int x :: st) μ o μ' := jr_pure hG rfl rfl rfl rfl kk
theorem jr_imul {x y : Int32} (hG : jG k pc (.imul) r v pc') (kk : jR B SA d k pc' L (.int (x * y) :: st) μ o μ') : jR B SA d k pc L (.int y :: .int x :: st) μ o μ' := jr_pure hG rfl rfl rfl rfl kk
theorem jr_iand {x y : Int32} (hG : jG k pc (.iand) r v pc') (kk : jR B SA d k pc' L (.int (x &&& y) :: st) μ o μ') : jR B SA d k pc L (.int y :: .int x :: st) μ o μ' := jr_pure hG rfl rfl rfl rfl kk
theorem jr_ishl {x y : Int32} (hG : jG k pc (.ishl) r v pc') (kk : jR B SA d k pc' L (.int (x <<< (y &&& 31)) :: st) μ o μ') : jR B SA d k pc L (.int y :: .int x :: st) μ o μ' := jr_pure hG rfl rfl rfl rfl kk
theorem jr_ishr {x y : Int32} (hG : jG k pc (.ishr) r v pc') (kk : jR B SA d k pc' L (.int (x >>> (y &&& 31)) :: st) μ o μ') : jR B SA d k pc L (.int y :: .int x :: st) μ o μ' := jr_pure hG rfl rfl rfl rfl kk
theorem jr_ladd {x y : Int64} (hG : jG k pc (.ladd) r v pc') (kk : jR B SA d k pc' L (.long (x + y) :: st) μ o μ') : jR B SA d k pc L (.long y :: .long x :: st) μ o μ' := jr_pure hG rfl rfl rfl rfl kk
theorem jr_lsub {x y : Int64} (hG : jG k pc (.lsub) r v pc') (kk : jR B SA d k pc' L (.long (x - y) :: st) μ o μ') : jR B SA d k pc L (.long y :: .long x :: st) μ o μ' := jr_pure hG rfl rfl rfl rfl kk
theorem jr_lmul {x y : Int64} (hG : jG k pc (.lmul) r v pc') (kk : jR B SA d k pc' L (.long (x * y) :: st) μ o μ') : jR B SA d k pc L (.long y :: .long x :: st) μ o μ' := jr_pure hG rfl rfl rfl rfl kk
theorem jr_land {x y : Int64} (hG : jG k pc (.land) r v pc') (kk : jR B SA d k pc' L (.long (x &&& y) :: st) μ o μ') : jR B SA d k pc L (.long y :: .long x :: st) μ o μ' := jr_pure hG rfl rfl rfl rfl kk
theorem jr_lor {x y : Int64} (hG : jG k pc (.lor) r v pc') (kk : jR B SA d k pc' L (.long (x ||| y) :: st) μ o μ') : jR B SA d k pc L (.long y :: .long x :: st) μ o μ' := jr_pure hG rfl rfl rfl rfl kk
theorem jr_lxor {x y : Int64} (hG : jG k pc (.lxor) r v pc') (kk : jR B SA d k pc' L (.long (x ^^^ y) :: st) μ o μ') : jR B SA d k pc L (.long y :: .long x :: st) μ o μ' := jr_pure hG rfl rfl rfl rfl kk
theorem jr_lcmp {x y : Int64} (hG : jG k pc (.lcmp) r v pc') (kk : jR B SA d k pc' L (.int (lg_cmp x y) :: st) μ o μ') : jR B SA d k pc L (.long y :: .long x :: st) μ o μ' := jr_pure hG rfl rfl rfl rfl kk
theorem jr_lshl {x : Int64} {y : Int32} (hG : jG k pc (.lshl) r v pc') (kk : jR B SA d k pc' L (.long (x <<< (y.toInt64 &&& 63)) :: st) μ o μ') : jR B SA d k pc L (.int y :: .long x :: st) μ o μ' := jr_pure hG rfl rfl rfl rfl kk
theorem jr_lshr {x : Int64} {y : Int32} (hG : jG k pc (.lshr) r v pc') (kk : jR B SA d k pc' L (.long (x >>> (y.toInt64 &&& 63)) :: st) μ o μ') : jR B SA d k pc L (.int y :: .long x :: st) μ o μ' := jr_pure hG rfl rfl rfl rfl kk
theorem jr_lushr {x : Int64} {y : Int32} (hG : jG k pc (.lushr) r v pc') (kk : jR B SA d k pc' L (.long ((x.toUInt64 >>> (y.toInt64.toUInt64 &&& Int64.toUInt64 63)).toInt64) :: st) μ o μ') : jR B SA d k pc L (.int y :: .long x :: st) μ o μ' := jr_pure hG rfl rfl rfl rfl kk
theorem jr_ineg {x : Int32} (hG : jG k pc (.ineg) r v pc') (kk : jR B SA d k pc' L (.int (-x) :: st) μ o μ') : jR B SA d k pc L (.int x :: st) μ o μ' := jr_pure hG rfl rfl rfl rfl kk
theorem jr_i2l {x : Int32} (hG : jG k pc (.i2l) r v pc') (kk : jR B SA d k pc' L (.long x.toInt64 :: st) μ o μ') : jR B SA d k pc L (.int x :: st) μ o μ' := jr_pure hG rfl rfl rfl rfl kk
theorem jr_i2s {x : Int32} (hG : jG k pc (.i2s) r v pc') (kk : jR B SA d k pc' L (.int x.toInt16.toInt32 :: st) μ o μ') : jR B SA d k pc L (.int x :: st) μ o μ' := jr_pure hG rfl rfl rfl rfl kk
theorem jr_i2d {x : Int32} (hG : jG k pc (.i2d) r v pc') (kk : jR B SA d k pc' L (.double (FP.i2d x) :: st) μ o μ') : jR B SA d k pc L (.int x :: st) μ o μ' := jr_pure hG rfl rfl rfl rfl kk
theorem jr_lneg {x : Int64} (hG : jG k pc (.lneg) r v pc') (kk : jR B SA d k pc' L (.long (-x) :: st) μ o μ') : jR B SA d k pc L (.long x :: st) μ o μ' := jr_pure hG rfl rfl rfl rfl kk
theorem jr_l2i {x : Int64} (hG : jG k pc (.l2i) r v pc') (kk : jR B SA d k pc' L (.int x.toInt32 :: st) μ o μ') : jR B SA d k pc L (.long x :: st) μ o μ' := jr_pure hG rfl rfl rfl rfl kk
theorem jr_l2d {x : Int64} (hG : jG k pc (.l2d) r v pc') (kk : jR B SA d k pc' L (.double (FP.l2d x) :: st) μ o μ') : jR B SA d k pc L (.long x :: st) μ o μ' := jr_pure hG rfl rfl rfl rfl kk
theorem jr_d2i {x : UInt64} (hG : jG k pc (.d2i) r v pc') (kk : jR B SA d k pc' L (.int (FP.d2i x) :: st) μ o μ') : jR B SA d k pc L (.double x :: st) μ o μ' := jr_pure hG rfl rfl rfl rfl kk
theorem jr_d2l {x : UInt64} (hG : jG k pc (.d2l) r v pc') (kk : jR B SA d k pc' L (.long (FP.d2l x) :: st) μ o μ') : jR B SA d k pc L (.double x :: st) μ o μ' := jr_pure hG rfl rfl rfl rfl kk
theorem jr_dneg {x : UInt64} (hG : jG k pc (.dneg) r v pc') (kk : jR B SA d k pc' L (.double (FP.dneg x) :: st) μ o μ') : jR B SA d k pc L (.double x :: st) μ o μ' := jr_pure hG rfl rfl rfl rfl kk
theorem jr_dcmp {op : ClassFile.CmpOp} {x y : UInt64} (hG : jG k pc (.dcmp op) r v pc') (kk : jR B SA d k pc' L (.int (Op.cmpValue (FP.dcmp x y) op) :: st) μ o μ') : jR B SA d k pc L (.double y :: .double x :: st) μ o μ' := jr_pure hG rfl rfl rfl rfl kk
theorem jr_fcmp {op : ClassFile.CmpOp} {x y : UInt32} (hG : jG k pc (.fcmp op) r v pc') (kk : jR B SA d k pc' L (.int (Op.cmpValue (FP.fcmp x y) op) :: st) μ o μ') : jR B SA d k pc L (.float y :: .float x :: st) μ o μ' := jr_pure hG rfl rfl rfl rfl kk
theorem jr_idiv {x y z : Int32} (hG : jG k pc .idiv r v pc') (h : jdivI x y = some z) (kk : jR B SA d k pc' L (.int z :: st) μ o μ') : jR B SA d k pc L (.int y :: .int x :: st) μ o μ' := jr_pure hG rfl rfl rfl (by simp only [jPure, jI2z, if_neg (jdivI_of h).1, (jdivI_of h).2]) kk
theorem jr_irem {x y z : Int32} (hG : jG k pc .irem r v pc') (h : jremI x y = some z) (kk : jR B SA d k pc' L (.int z :: st) μ o μ') : jR B SA d k pc L (.int y :: .int x :: st) μ o μ' := jr_pure hG rfl rfl rfl (by simp only [jPure, jI2z, if_neg (jremI_of h).1, (jremI_of h).2]) kk
theorem jr_ldiv {x y z : Int64} (hG : jG k pc .ldiv r v pc') (h : jdivL x y = some z) (kk : jR B SA d k pc' L (.long z :: st) μ o μ') : jR B SA d k pc L (.long y :: .long x :: st) μ o μ' := jr_pure hG rfl rfl rfl (by simp only [jPure, jL2z, if_neg (jdivL_of h).1, (jdivL_of h).2]) kk
theorem jr_lrem {x y z : Int64} (hG : jG k pc .lrem r v pc') (h : jremL x y = some z) (kk : jR B SA d k pc' L (.long z :: st) μ o μ') : jR B SA d k pc L (.long y :: .long x :: st) μ o μ' := jr_pure hG rfl rfl rfl (by simp only [jPure, jL2z, if_neg (jremL_of h).1, (jremL_of h).2]) kk
theorem jr_dadd {x y z : UInt64} (hG : jG k pc .dadd r v pc') (h : jnD (FP.dadd x y) = some z) (kk : jR B SA d k pc' L (.double z :: st) μ o μ') : jR B SA d k pc L (.double y :: .double x :: st) μ o μ' := by
  unfold jnD at h
  split at h
  · rename_i q
    cases h
    exact jr_pure hG rfl rfl rfl (by simp only [jPure, jD2n, jnumD, if_pos q]) kk
  · cases h
theorem jr_dsub {x y z : UInt64} (hG : jG k pc .dsub r v pc') (h : jnD (FP.dsub x y) = some z) (kk : jR B SA d k pc' L (.double z :: st) μ o μ') : jR B SA d k pc L (.double y :: .double x :: st) μ o μ' := by
  unfold jnD at h
  split at h
  · rename_i q
    cases h
    exact jr_pure hG rfl rfl rfl (by simp only [jPure, jD2n, jnumD, if_pos q]) kk
  · cases h
theorem jr_dmul {x y z : UInt64} (hG : jG k pc .dmul r v pc') (h : jnD (FP.dmul x y) = some z) (kk : jR B SA d k pc' L (.double z :: st) μ o μ') : jR B SA d k pc L (.double y :: .double x :: st) μ o μ' := by
  unfold jnD at h
  split at h
  · rename_i q
    cases h
    exact jr_pure hG rfl rfl rfl (by simp only [jPure, jD2n, jnumD, if_pos q]) kk
  · cases h
theorem jr_ddiv {x y z : UInt64} (hG : jG k pc .ddiv r v pc') (h : jnD (FP.ddiv x y) = some z) (kk : jR B SA d k pc' L (.double z :: st) μ o μ') : jR B SA d k pc L (.double y :: .double x :: st) μ o μ' := by
  unfold jnD at h
  split at h
  · rename_i q
    cases h
    exact jr_pure hG rfl rfl rfl (by simp only [jPure, jD2n, jnumD, if_pos q]) kk
  · cases h
theorem jr_fadd {x y z : UInt32} (hG : jG k pc .fadd r v pc') (h : jnF (FP.fadd x y) = some z) (kk : jR B SA d k pc' L (.float z :: st) μ o μ') : jR B SA d k pc L (.float y :: .float x :: st) μ o μ' := by
  unfold jnF at h
  split at h
  · rename_i q
    cases h
    exact jr_pure hG rfl rfl rfl (by simp only [jPure, jF2n, jnumF, if_pos q]) kk
  · cases h
theorem jr_fsub {x y z : UInt32} (hG : jG k pc .fsub r v pc') (h : jnF (FP.fsub x y) = some z) (kk : jR B SA d k pc' L (.float z :: st) μ o μ') : jR B SA d k pc L (.float y :: .float x :: st) μ o μ' := by
  unfold jnF at h
  split at h
  · rename_i q
    cases h
    exact jr_pure hG rfl rfl rfl (by simp only [jPure, jF2n, jnumF, if_pos q]) kk
  · cases h
theorem jr_fmul {x y z : UInt32} (hG : jG k pc .fmul r v pc') (h : jnF (FP.fmul x y) = some z) (kk : jR B SA d k pc' L (.float z :: st) μ o μ') : jR B SA d k pc L (.float y :: .float x :: st) μ o μ' := by
  unfold jnF at h
  split at h
  · rename_i q
    cases h
    exact jr_pure hG rfl rfl rfl (by simp only [jPure, jF2n, jnumF, if_pos q]) kk
  · cases h
theorem jr_f2d {x : UInt32} {z : UInt64} (hG : jG k pc .f2d r v pc') (h : jnD (FP.f2d x) = some z) (kk : jR B SA d k pc' L (.double z :: st) μ o μ') : jR B SA d k pc L (.float x :: st) μ o μ' := by
  unfold jnD at h
  split at h
  · rename_i q
    cases h
    exact jr_pure hG rfl rfl rfl (by simp only [jPure, jnumD, if_pos q]) kk
  · cases h
theorem jr_d2f {x : UInt64} {z : UInt32} (hG : jG k pc .d2f r v pc') (h : jnF (FP.d2f x) = some z) (kk : jR B SA d k pc' L (.float z :: st) μ o μ') : jR B SA d k pc L (.double x :: st) μ o μ' := by
  unfold jnF at h
  split at h
  · rename_i q
    cases h
    exact jr_pure hG rfl rfl rfl (by simp only [jPure, jnumF, if_pos q]) kk
  · cases h
theorem jr_iconst {n : Int} {x : Int32} (hG : jG k pc (.iconst n) r v pc') (e : Int32.ofInt n = x) (kk : jR B SA d k pc' L (.int x :: st) μ o μ') : jR B SA d k pc L st μ o μ' := jr_pure hG rfl rfl rfl (by subst e; rfl) kk
theorem jr_bipush {n : Int} {x : Int32} (hG : jG k pc (.bipush n) r v pc') (e : (Int8.ofInt n).toInt32 = x) (kk : jR B SA d k pc' L (.int x :: st) μ o μ') : jR B SA d k pc L st μ o μ' := jr_pure hG rfl rfl rfl (by subst e; rfl) kk
theorem jr_sipush {n : Int} {x : Int32} (hG : jG k pc (.sipush n) r v pc') (e : (Int16.ofInt n).toInt32 = x) (kk : jR B SA d k pc' L (.int x :: st) μ o μ') : jR B SA d k pc L st μ o μ' := jr_pure hG rfl rfl rfl (by subst e; rfl) kk
theorem jr_lconst0 (hG : jG k pc (.lconst 0) r v pc') (kk : jR B SA d k pc' L (.long 0 :: st) μ o μ') : jR B SA d k pc L st μ o μ' := jr_pure hG rfl rfl rfl rfl kk
theorem jr_lconst1 (hG : jG k pc (.lconst 1) r v pc') (kk : jR B SA d k pc' L (.long 1 :: st) μ o μ') : jR B SA d k pc L st μ o μ' := jr_pure hG rfl rfl rfl rfl kk
theorem jr_dconst0 (hG : jG k pc (.dconst 0) r v pc') (kk : jR B SA d k pc' L (.double 0 :: st) μ o μ') : jR B SA d k pc L st μ o μ' := jr_pure hG rfl rfl rfl rfl kk
theorem jr_dconst1 (hG : jG k pc (.dconst 1) r v pc') (kk : jR B SA d k pc' L (.double 0x3ff0000000000000 :: st) μ o μ') : jR B SA d k pc L st μ o μ' := jr_pure hG rfl rfl rfl rfl kk
theorem jr_aconst_null (hG : jG k pc .aconst_null r v pc') (kk : jR B SA d k pc' L (rv none :: st) μ o μ') : jR B SA d k pc L st μ o μ' := jr_pure hG rfl rfl rfl rfl kk
theorem jr_ldc {n : Nat} {x : Int32} (hG : jG k pc (.ldc n) r (.int x) pc') (kk : jR B SA d k pc' L (.int x :: st) μ o μ') : jR B SA d k pc L st μ o μ' := jr_pure hG rfl rfl rfl rfl kk
theorem jr_ldc_w {n : Nat} {x : Int32} (hG : jG k pc (.ldc_w n) r (.int x) pc') (kk : jR B SA d k pc' L (.int x :: st) μ o μ') : jR B SA d k pc L st μ o μ' := jr_pure hG rfl rfl rfl rfl kk
theorem jr_ldc2l {n : Nat} {x : Int64} (hG : jG k pc (.ldc2_w n) r (.long x) pc') (kk : jR B SA d k pc' L (.long x :: st) μ o μ') : jR B SA d k pc L st μ o μ' := jr_pure hG rfl rfl rfl rfl kk
theorem jr_ldc2d {n : Nat} {x : UInt64} (hG : jG k pc (.ldc2_w n) r (.double x) pc') (kk : jR B SA d k pc' L (.double x :: st) μ o μ') : jR B SA d k pc L st μ o μ' := jr_pure hG rfl rfl rfl rfl kk
theorem jr_dup {a : Value} (hG : jG k pc .dup r v pc') (hc : a.category = 1) (kk : jR B SA d k pc' L (a :: a :: st) μ o μ') : jR B SA d k pc L (a :: st) μ o μ' := jr_pure hG rfl rfl rfl (by simp only [jPure, if_pos hc]) kk
theorem jr_dup2_1 {a b : Value} (hG : jG k pc .dup2 r v pc') (hc : a.category = 1) (hb : b.category = 1) (kk : jR B SA d k pc' L (a :: b :: a :: b :: st) μ o μ') : jR B SA d k pc L (a :: b :: st) μ o μ' := jr_pure hG rfl rfl rfl (by simp [jPure, hc, hb]) kk
theorem jr_dup2_2 {a : Value} (hG : jG k pc .dup2 r v pc') (hc : a.category = 2) (kk : jR B SA d k pc' L (a :: a :: st) μ o μ') : jR B SA d k pc L (a :: st) μ o μ' := jr_pure hG rfl rfl rfl (by simp only [jPure, if_pos hc]) kk
theorem jr_pop {a : Value} (hG : jG k pc .pop r v pc') (hc : a.category = 1) (kk : jR B SA d k pc' L st μ o μ') : jR B SA d k pc L (a :: st) μ o μ' := jr_pure hG rfl rfl rfl (by simp only [jPure, if_pos hc]) kk
theorem jr_pop2 {a : Value} (hG : jG k pc .pop2 r v pc') (hc : a.category = 2) (kk : jR B SA d k pc' L st μ o μ') : jR B SA d k pc L (a :: st) μ o μ' := jr_pure hG rfl rfl rfl (by simp only [jPure, if_pos hc]) kk
theorem jr_iload {j : Nat} {x : Int32} (hG : jG k pc (.iload j) r v pc') (h : jget L j = .int x) (kk : jR B SA d k pc' L (.int x :: st) μ o μ') : jR B SA d k pc L st μ o μ' := jr_lcl hG rfl rfl rfl rfl (by simp only [jLcl, jldI, h]) kk
theorem jr_iload_n {j : Nat} {jq : Fin 4} {x : Int32} (hG : jG k pc (.iload_n jq) r v pc') (e : (jq : Nat) = j) (h : jget L j = .int x) (kk : jR B SA d k pc' L (.int x :: st) μ o μ') : jR B SA d k pc L st μ o μ' := jr_lcl hG rfl rfl rfl rfl (by subst e; simp only [jLcl, jldI, h]) kk
theorem jr_lload {j : Nat} {x : Int64} (hG : jG k pc (.lload j) r v pc') (h : jget L j = .long x) (kk : jR B SA d k pc' L (.long x :: st) μ o μ') : jR B SA d k pc L st μ o μ' := jr_lcl hG rfl rfl rfl rfl (by simp only [jLcl, jldL, h]) kk
theorem jr_lload_n {j : Nat} {jq : Fin 4} {x : Int64} (hG : jG k pc (.lload_n jq) r v pc') (e : (jq : Nat) = j) (h : jget L j = .long x) (kk : jR B SA d k pc' L (.long x :: st) μ o μ') : jR B SA d k pc L st μ o μ' := jr_lcl hG rfl rfl rfl rfl (by subst e; simp only [jLcl, jldL, h]) kk
theorem jr_fload {j : Nat} {x : UInt32} (hG : jG k pc (.fload j) r v pc') (h : jget L j = .float x) (kk : jR B SA d k pc' L (.float x :: st) μ o μ') : jR B SA d k pc L st μ o μ' := jr_lcl hG rfl rfl rfl rfl (by simp only [jLcl, jldF, h]) kk
theorem jr_fload_n {j : Nat} {jq : Fin 4} {x : UInt32} (hG : jG k pc (.fload_n jq) r v pc') (e : (jq : Nat) = j) (h : jget L j = .float x) (kk : jR B SA d k pc' L (.float x :: st) μ o μ') : jR B SA d k pc L st μ o μ' := jr_lcl hG rfl rfl rfl rfl (by subst e; simp only [jLcl, jldF, h]) kk
theorem jr_dload {j : Nat} {x : UInt64} (hG : jG k pc (.dload j) r v pc') (h : jget L j = .double x) (kk : jR B SA d k pc' L (.double x :: st) μ o μ') : jR B SA d k pc L st μ o μ' := jr_lcl hG rfl rfl rfl rfl (by simp only [jLcl, jldD, h]) kk
theorem jr_dload_n {j : Nat} {jq : Fin 4} {x : UInt64} (hG : jG k pc (.dload_n jq) r v pc') (e : (jq : Nat) = j) (h : jget L j = .double x) (kk : jR B SA d k pc' L (.double x :: st) μ o μ') : jR B SA d k pc L st μ o μ' := jr_lcl hG rfl rfl rfl rfl (by subst e; simp only [jLcl, jldD, h]) kk
theorem jr_aload {j : Nat} {x : Nat} (hG : jG k pc (.aload j) r v pc') (h : jget L j = .ref x) (kk : jR B SA d k pc' L (.ref x :: st) μ o μ') : jR B SA d k pc L st μ o μ' := jr_lcl hG rfl rfl rfl rfl (by simp only [jLcl, jldA, h]) kk
theorem jr_aload_A {j : Nat} {x : Option Nat} (hG : jG k pc (.aload j) r v pc') (h : jget L j = rv x) (kk : jR B SA d k pc' L (rv x :: st) μ o μ') : jR B SA d k pc L st μ o μ' := jr_lcl hG rfl rfl rfl rfl (by cases x <;> simp only [jLcl, jldA, h, rv]) kk
theorem jr_aload_n {j : Nat} {jq : Fin 4} {x : Nat} (hG : jG k pc (.aload_n jq) r v pc') (e : (jq : Nat) = j) (h : jget L j = .ref x) (kk : jR B SA d k pc' L (.ref x :: st) μ o μ') : jR B SA d k pc L st μ o μ' := jr_lcl hG rfl rfl rfl rfl (by subst e; simp only [jLcl, jldA, h]) kk
theorem jr_aload_n_A {j : Nat} {jq : Fin 4} {x : Option Nat} (hG : jG k pc (.aload_n jq) r v pc') (e : (jq : Nat) = j) (h : jget L j = rv x) (kk : jR B SA d k pc' L (rv x :: st) μ o μ') : jR B SA d k pc L st μ o μ' := jr_lcl hG rfl rfl rfl rfl (by subst e; cases x <;> simp only [jLcl, jldA, h, rv]) kk
theorem jr_istore {j N : Nat} {x : Int32} (hG : jG k pc (.istore j) r v pc') (hm : (jmi k).2.2.1 = N) (hj : j < N) (kk : jR B SA d k pc' (jset1 L j (.int x)) st μ o μ') : jR B SA d k pc L (.int x :: st) μ o μ' := jr_lcl hG rfl rfl rfl rfl (by rw [hm]; simp only [jLcl, jstI, if_pos hj]) kk
theorem jr_istore_n {j N : Nat} {jq : Fin 4} {x : Int32} (hG : jG k pc (.istore_n jq) r v pc') (e : (jq : Nat) = j) (hm : (jmi k).2.2.1 = N) (hj : j < N) (kk : jR B SA d k pc' (jset1 L j (.int x)) st μ o μ') : jR B SA d k pc L (.int x :: st) μ o μ' := jr_lcl hG rfl rfl rfl rfl (by subst e; rw [hm]; simp only [jLcl, jstI, if_pos hj]) kk
theorem jr_lstore {j N : Nat} {x : Int64} (hG : jG k pc (.lstore j) r v pc') (hm : (jmi k).2.2.1 = N) (hj : j + 1 < N) (kk : jR B SA d k pc' (jset2 L j (.long x)) st μ o μ') : jR B SA d k pc L (.long x :: st) μ o μ' := jr_lcl hG rfl rfl rfl rfl (by rw [hm]; simp only [jLcl, jstL, if_pos hj]) kk
theorem jr_lstore_n {j N : Nat} {jq : Fin 4} {x : Int64} (hG : jG k pc (.lstore_n jq) r v pc') (e : (jq : Nat) = j) (hm : (jmi k).2.2.1 = N) (hj : j + 1 < N) (kk : jR B SA d k pc' (jset2 L j (.long x)) st μ o μ') : jR B SA d k pc L (.long x :: st) μ o μ' := jr_lcl hG rfl rfl rfl rfl (by subst e; rw [hm]; simp only [jLcl, jstL, if_pos hj]) kk
theorem jr_dstore {j N : Nat} {x : UInt64} (hG : jG k pc (.dstore j) r v pc') (hm : (jmi k).2.2.1 = N) (hj : j + 1 < N) (kk : jR B SA d k pc' (jset2 L j (.double x)) st μ o μ') : jR B SA d k pc L (.double x :: st) μ o μ' := jr_lcl hG rfl rfl rfl rfl (by rw [hm]; simp only [jLcl, jstD, if_pos hj]) kk
theorem jr_dstore_n {j N : Nat} {jq : Fin 4} {x : UInt64} (hG : jG k pc (.dstore_n jq) r v pc') (e : (jq : Nat) = j) (hm : (jmi k).2.2.1 = N) (hj : j + 1 < N) (kk : jR B SA d k pc' (jset2 L j (.double x)) st μ o μ') : jR B SA d k pc L (.double x :: st) μ o μ' := jr_lcl hG rfl rfl rfl rfl (by subst e; rw [hm]; simp only [jLcl, jstD, if_pos hj]) kk
theorem jr_astore {j N : Nat} {x : Nat} (hG : jG k pc (.astore j) r v pc') (hm : (jmi k).2.2.1 = N) (hj : j < N) (kk : jR B SA d k pc' (jset1 L j (.ref x)) st μ o μ') : jR B SA d k pc L (.ref x :: st) μ o μ' := jr_lcl hG rfl rfl rfl rfl (by rw [hm]; simp only [jLcl, jstA, if_pos hj]) kk
theorem jr_astore_A {j N : Nat} {x : Option Nat} (hG : jG k pc (.astore j) r v pc') (hm : (jmi k).2.2.1 = N) (hj : j < N) (kk : jR B SA d k pc' (jset1 L j (rv x)) st μ o μ') : jR B SA d k pc L (rv x :: st) μ o μ' := jr_lcl hG rfl rfl rfl rfl (by rw [hm]; cases x <;> simp only [jLcl, jstA, if_pos hj, rv]) kk
theorem jr_astore_n {j N : Nat} {jq : Fin 4} {x : Nat} (hG : jG k pc (.astore_n jq) r v pc') (e : (jq : Nat) = j) (hm : (jmi k).2.2.1 = N) (hj : j < N) (kk : jR B SA d k pc' (jset1 L j (.ref x)) st μ o μ') : jR B SA d k pc L (.ref x :: st) μ o μ' := jr_lcl hG rfl rfl rfl rfl (by subst e; rw [hm]; simp only [jLcl, jstA, if_pos hj]) kk
theorem jr_astore_n_A {j N : Nat} {jq : Fin 4} {x : Option Nat} (hG : jG k pc (.astore_n jq) r v pc') (e : (jq : Nat) = j) (hm : (jmi k).2.2.1 = N) (hj : j < N) (kk : jR B SA d k pc' (jset1 L j (rv x)) st μ o μ') : jR B SA d k pc L (rv x :: st) μ o μ' := jr_lcl hG rfl rfl rfl rfl (by subst e; rw [hm]; cases x <;> simp only [jLcl, jstA, if_pos hj, rv]) kk
theorem jr_iinc {j N : Nat} {n : Int} {x c : Int32} (hG : jG k pc (.iinc j n) r v pc') (e : Int32.ofInt n = c) (hm : (jmi k).2.2.1 = N) (hj : j < N) (h : jget L j = .int x) (kk : jR B SA d k pc' (jset1 L j (.int (x + c))) st μ o μ') : jR B SA d k pc L st μ o μ' := jr_lcl hG rfl rfl rfl rfl (by rw [hm]; simp only [jLcl, h, if_pos hj, e]) kk
theorem jr_goto {q : Int} {t : Nat} (hG : jG k pc (.goto q) [t] v pc') (kk : jR B SA d k t L st μ o μ') : jR B SA d k pc L st μ o μ' := jr_jmp hG rfl rfl rfl rfl rfl rfl kk
theorem lc_lt {x y : Int64} : lg_cmp x y < 0 ↔ x < y := by
  unfold lg_cmp
  by_cases h : x > y
  · rw [if_pos h]
    exact ⟨fun q => absurd q (by decide), fun q => absurd (Int64.lt_trans h q) (Int64.lt_irrefl)⟩
  · rw [if_neg h]
    by_cases e : x = y
    · rw [if_pos e]; subst e
      exact ⟨fun q => absurd q (by decide), fun q => absurd q h⟩
    · rw [if_neg e]
      exact ⟨fun _ => (Int64.lt_or_eq_of_le (Int64.not_lt.mp h)).elim id (fun q => absurd q e), fun _ => by decide⟩
theorem lc_gt {x y : Int64} : 0 < lg_cmp x y ↔ y < x := by
  unfold lg_cmp
  by_cases h : x > y
  · rw [if_pos h]
    exact ⟨fun _ => h, fun _ => by decide⟩
  · rw [if_neg h]
    by_cases e : x = y
    · rw [if_pos e]
      exact ⟨fun q => absurd q (by decide), fun q => absurd q h⟩
    · rw [if_neg e]
      exact ⟨fun q => absurd q (by decide), fun q => absurd q h⟩
theorem lc_eq {x y : Int64} : lg_cmp x y = 0 ↔ x = y := by
  unfold lg_cmp
  by_cases h : x > y
  · rw [if_pos h]
    exact ⟨fun q => absurd q (by decide), fun q => absurd h (by subst q; exact Int64.lt_irrefl)⟩
  · rw [if_neg h]
    by_cases e : x = y
    · rw [if_pos e]
      exact ⟨fun _ => e, fun _ => rfl⟩
    · rw [if_neg e]
      exact ⟨fun q => absurd q (by decide), fun q => absurd q e⟩
theorem lc_ge {x y : Int64} : 0 ≤ lg_cmp x y ↔ y ≤ x := by
  rw [← Int32.not_lt, ← Int64.not_lt, lc_lt]
theorem lc_le {x y : Int64} : lg_cmp x y ≤ 0 ↔ x ≤ y := by
  rw [← Int32.not_lt, ← Int64.not_lt, lc_gt]
theorem jb_eq0 {x : Bool} : jb x = 0 ↔ ¬ x = true := by cases x <;> decide
theorem jb_inj {x y : Bool} : jb x = jb y ↔ x = y := by cases x <;> cases y <;> decide
theorem jr_if_eq_t {q : Int} {t : Nat} {x : Int32} (hG : jG k pc (.ifCond .eq q) [t] v pc') (h : x = 0) (kk : jR B SA d k t L st μ o μ') : jR B SA d k pc L (.int x :: st) μ o μ' := jr_jmp hG rfl rfl rfl rfl rfl (by simp only [jJmp, jifc]; rw [if_pos h]) kk
theorem jr_ifl_eq_t {q : Int} {t : Nat} {x y : Int64} (hG : jG k pc (.ifCond .eq q) [t] v pc') (h : x = y) (kk : jR B SA d k t L st μ o μ') : jR B SA d k pc L (.int (lg_cmp x y) :: st) μ o μ' := jr_jmp hG rfl rfl rfl rfl rfl (by simp only [jJmp, jifc]; rw [if_pos (lc_eq.mpr h)]) kk
theorem jr_if2_eq_t {q : Int} {t : Nat} {x y : Int32} (hG : jG k pc (.if_icmp .eq q) [t] v pc') (h : x = y) (kk : jR B SA d k t L st μ o μ') : jR B SA d k pc L (.int y :: .int x :: st) μ o μ' := jr_jmp hG rfl rfl rfl rfl rfl (by simp only [jJmp, jifc]; rw [if_pos h]) kk
theorem jr_if2z_eq_t {q : Int} {t : Nat} {x y : Bool} (hG : jG k pc (.if_icmp .eq q) [t] v pc') (h : x = y) (kk : jR B SA d k t L st μ o μ') : jR B SA d k pc L (.int (jb y) :: .int (jb x) :: st) μ o μ' := jr_jmp hG rfl rfl rfl rfl rfl (by simp only [jJmp, jifc]; rw [if_pos (jb_inj.mpr h)]) kk
theorem jr_ifz_eq_t {q : Int} {t : Nat} {x : Bool} (hG : jG k pc (.ifCond .eq q) [t] v pc') (h : ¬ (x = true)) (kk : jR B SA d k t L st μ o μ') : jR B SA d k pc L (.int (jb x) :: st) μ o μ' := jr_jmp hG rfl rfl rfl rfl rfl (by simp only [jJmp, jifc]; rw [if_pos (jb_eq0.mpr h)]) kk
theorem jr_if_eq_f {q : Int} {t : Nat} {x : Int32} (hG : jG k pc (.ifCond .eq q) [t] v pc') (h : ¬ (x = 0)) (kk : jR B SA d k pc' L st μ o μ') : jR B SA d k pc L (.int x :: st) μ o μ' := jr_jmp hG rfl rfl rfl rfl rfl (by simp only [jJmp, jifc]; rw [if_neg h]; exact congrArg (fun z => some (z, st)) hG.2) kk
theorem jr_ifl_eq_f {q : Int} {t : Nat} {x y : Int64} (hG : jG k pc (.ifCond .eq q) [t] v pc') (h : ¬ (x = y)) (kk : jR B SA d k pc' L st μ o μ') : jR B SA d k pc L (.int (lg_cmp x y) :: st) μ o μ' := jr_jmp hG rfl rfl rfl rfl rfl (by simp only [jJmp, jifc]; rw [if_neg (fun q0 => h (lc_eq.mp q0))]; exact congrArg (fun z => some (z, st)) hG.2) kk
theorem jr_if2_eq_f {q : Int} {t : Nat} {x y : Int32} (hG : jG k pc (.if_icmp .eq q) [t] v pc') (h : ¬ (x = y)) (kk : jR B SA d k pc' L st μ o μ') : jR B SA d k pc L (.int y :: .int x :: st) μ o μ' := jr_jmp hG rfl rfl rfl rfl rfl (by simp only [jJmp, jifc]; rw [if_neg h]; exact congrArg (fun z => some (z, st)) hG.2) kk
theorem jr_if2z_eq_f {q : Int} {t : Nat} {x y : Bool} (hG : jG k pc (.if_icmp .eq q) [t] v pc') (h : ¬ (x = y)) (kk : jR B SA d k pc' L st μ o μ') : jR B SA d k pc L (.int (jb y) :: .int (jb x) :: st) μ o μ' := jr_jmp hG rfl rfl rfl rfl rfl (by simp only [jJmp, jifc]; rw [if_neg (fun q0 => h (jb_inj.mp q0))]; exact congrArg (fun z => some (z, st)) hG.2) kk
theorem jr_ifz_eq_f {q : Int} {t : Nat} {x : Bool} (hG : jG k pc (.ifCond .eq q) [t] v pc') (h : x = true) (kk : jR B SA d k pc' L st μ o μ') : jR B SA d k pc L (.int (jb x) :: st) μ o μ' := jr_jmp hG rfl rfl rfl rfl rfl (by simp only [jJmp, jifc]; rw [if_neg (fun q0 => jb_eq0.mp q0 h)]; exact congrArg (fun z => some (z, st)) hG.2) kk
theorem jr_if_ne_t {q : Int} {t : Nat} {x : Int32} (hG : jG k pc (.ifCond .ne q) [t] v pc') (h : ¬ (x = 0)) (kk : jR B SA d k t L st μ o μ') : jR B SA d k pc L (.int x :: st) μ o μ' := jr_jmp hG rfl rfl rfl rfl rfl (by simp only [jJmp, jifc]; rw [if_neg h]) kk
theorem jr_ifl_ne_t {q : Int} {t : Nat} {x y : Int64} (hG : jG k pc (.ifCond .ne q) [t] v pc') (h : ¬ (x = y)) (kk : jR B SA d k t L st μ o μ') : jR B SA d k pc L (.int (lg_cmp x y) :: st) μ o μ' := jr_jmp hG rfl rfl rfl rfl rfl (by simp only [jJmp, jifc]; rw [if_neg (fun q0 => h (lc_eq.mp q0))]) kk
theorem jr_if2_ne_t {q : Int} {t : Nat} {x y : Int32} (hG : jG k pc (.if_icmp .ne q) [t] v pc') (h : ¬ (x = y)) (kk : jR B SA d k t L st μ o μ') : jR B SA d k pc L (.int y :: .int x :: st) μ o μ' := jr_jmp hG rfl rfl rfl rfl rfl (by simp only [jJmp, jifc]; rw [if_neg h]) kk
theorem jr_if2z_ne_t {q : Int} {t : Nat} {x y : Bool} (hG : jG k pc (.if_icmp .ne q) [t] v pc') (h : ¬ (x = y)) (kk : jR B SA d k t L st μ o μ') : jR B SA d k pc L (.int (jb y) :: .int (jb x) :: st) μ o μ' := jr_jmp hG rfl rfl rfl rfl rfl (by simp only [jJmp, jifc]; rw [if_neg (fun q0 => h (jb_inj.mp q0))]) kk
theorem jr_ifz_ne_t {q : Int} {t : Nat} {x : Bool} (hG : jG k pc (.ifCond .ne q) [t] v pc') (h : x = true) (kk : jR B SA d k t L st μ o μ') : jR B SA d k pc L (.int (jb x) :: st) μ o μ' := jr_jmp hG rfl rfl rfl rfl rfl (by simp only [jJmp, jifc]; rw [if_neg (fun q0 => jb_eq0.mp q0 h)]) kk
theorem jr_if_ne_f {q : Int} {t : Nat} {x : Int32} (hG : jG k pc (.ifCond .ne q) [t] v pc') (h : x = 0) (kk : jR B SA d k pc' L st μ o μ') : jR B SA d k pc L (.int x :: st) μ o μ' := jr_jmp hG rfl rfl rfl rfl rfl (by simp only [jJmp, jifc]; rw [if_pos h]; exact congrArg (fun z => some (z, st)) hG.2) kk
theorem jr_ifl_ne_f {q : Int} {t : Nat} {x y : Int64} (hG : jG k pc (.ifCond .ne q) [t] v pc') (h : x = y) (kk : jR B SA d k pc' L st μ o μ') : jR B SA d k pc L (.int (lg_cmp x y) :: st) μ o μ' := jr_jmp hG rfl rfl rfl rfl rfl (by simp only [jJmp, jifc]; rw [if_pos (lc_eq.mpr h)]; exact congrArg (fun z => some (z, st)) hG.2) kk
theorem jr_if2_ne_f {q : Int} {t : Nat} {x y : Int32} (hG : jG k pc (.if_icmp .ne q) [t] v pc') (h : x = y) (kk : jR B SA d k pc' L st μ o μ') : jR B SA d k pc L (.int y :: .int x :: st) μ o μ' := jr_jmp hG rfl rfl rfl rfl rfl (by simp only [jJmp, jifc]; rw [if_pos h]; exact congrArg (fun z => some (z, st)) hG.2) kk
theorem jr_if2z_ne_f {q : Int} {t : Nat} {x y : Bool} (hG : jG k pc (.if_icmp .ne q) [t] v pc') (h : x = y) (kk : jR B SA d k pc' L st μ o μ') : jR B SA d k pc L (.int (jb y) :: .int (jb x) :: st) μ o μ' := jr_jmp hG rfl rfl rfl rfl rfl (by simp only [jJmp, jifc]; rw [if_pos (jb_inj.mpr h)]; exact congrArg (fun z => some (z, st)) hG.2) kk
theorem jr_ifz_ne_f {q : Int} {t : Nat} {x : Bool} (hG : jG k pc (.ifCond .ne q) [t] v pc') (h : ¬ (x = true)) (kk : jR B SA d k pc' L st μ o μ') : jR B SA d k pc L (.int (jb x) :: st) μ o μ' := jr_jmp hG rfl rfl rfl rfl rfl (by simp only [jJmp, jifc]; rw [if_pos (jb_eq0.mpr h)]; exact congrArg (fun z => some (z, st)) hG.2) kk
theorem jr_if_lt_t {q : Int} {t : Nat} {x : Int32} (hG : jG k pc (.ifCond .lt q) [t] v pc') (h : x < 0) (kk : jR B SA d k t L st μ o μ') : jR B SA d k pc L (.int x :: st) μ o μ' := jr_jmp hG rfl rfl rfl rfl rfl (by simp only [jJmp, jifc]; rw [if_pos h]) kk
theorem jr_ifl_lt_t {q : Int} {t : Nat} {x y : Int64} (hG : jG k pc (.ifCond .lt q) [t] v pc') (h : x < y) (kk : jR B SA d k t L st μ o μ') : jR B SA d k pc L (.int (lg_cmp x y) :: st) μ o μ' := jr_jmp hG rfl rfl rfl rfl rfl (by simp only [jJmp, jifc]; rw [if_pos (lc_lt.mpr h)]) kk
theorem jr_if2_lt_t {q : Int} {t : Nat} {x y : Int32} (hG : jG k pc (.if_icmp .lt q) [t] v pc') (h : x < y) (kk : jR B SA d k t L st μ o μ') : jR B SA d k pc L (.int y :: .int x :: st) μ o μ' := jr_jmp hG rfl rfl rfl rfl rfl (by simp only [jJmp, jifc]; rw [if_pos h]) kk
theorem jr_if_lt_f {q : Int} {t : Nat} {x : Int32} (hG : jG k pc (.ifCond .lt q) [t] v pc') (h : ¬ (x < 0)) (kk : jR B SA d k pc' L st μ o μ') : jR B SA d k pc L (.int x :: st) μ o μ' := jr_jmp hG rfl rfl rfl rfl rfl (by simp only [jJmp, jifc]; rw [if_neg h]; exact congrArg (fun z => some (z, st)) hG.2) kk
theorem jr_ifl_lt_f {q : Int} {t : Nat} {x y : Int64} (hG : jG k pc (.ifCond .lt q) [t] v pc') (h : ¬ (x < y)) (kk : jR B SA d k pc' L st μ o μ') : jR B SA d k pc L (.int (lg_cmp x y) :: st) μ o μ' := jr_jmp hG rfl rfl rfl rfl rfl (by simp only [jJmp, jifc]; rw [if_neg (fun q0 => h (lc_lt.mp q0))]; exact congrArg (fun z => some (z, st)) hG.2) kk
theorem jr_if2_lt_f {q : Int} {t : Nat} {x y : Int32} (hG : jG k pc (.if_icmp .lt q) [t] v pc') (h : ¬ (x < y)) (kk : jR B SA d k pc' L st μ o μ') : jR B SA d k pc L (.int y :: .int x :: st) μ o μ' := jr_jmp hG rfl rfl rfl rfl rfl (by simp only [jJmp, jifc]; rw [if_neg h]; exact congrArg (fun z => some (z, st)) hG.2) kk
theorem jr_if_ge_t {q : Int} {t : Nat} {x : Int32} (hG : jG k pc (.ifCond .ge q) [t] v pc') (h : 0 ≤ x) (kk : jR B SA d k t L st μ o μ') : jR B SA d k pc L (.int x :: st) μ o μ' := jr_jmp hG rfl rfl rfl rfl rfl (by simp only [jJmp, jifc]; rw [if_pos h]) kk
theorem jr_ifl_ge_t {q : Int} {t : Nat} {x y : Int64} (hG : jG k pc (.ifCond .ge q) [t] v pc') (h : y ≤ x) (kk : jR B SA d k t L st μ o μ') : jR B SA d k pc L (.int (lg_cmp x y) :: st) μ o μ' := jr_jmp hG rfl rfl rfl rfl rfl (by simp only [jJmp, jifc]; rw [if_pos (lc_ge.mpr h)]) kk
theorem jr_if2_ge_t {q : Int} {t : Nat} {x y : Int32} (hG : jG k pc (.if_icmp .ge q) [t] v pc') (h : y ≤ x) (kk : jR B SA d k t L st μ o μ') : jR B SA d k pc L (.int y :: .int x :: st) μ o μ' := jr_jmp hG rfl rfl rfl rfl rfl (by simp only [jJmp, jifc]; rw [if_pos h]) kk
theorem jr_if_ge_f {q : Int} {t : Nat} {x : Int32} (hG : jG k pc (.ifCond .ge q) [t] v pc') (h : ¬ (0 ≤ x)) (kk : jR B SA d k pc' L st μ o μ') : jR B SA d k pc L (.int x :: st) μ o μ' := jr_jmp hG rfl rfl rfl rfl rfl (by simp only [jJmp, jifc]; rw [if_neg h]; exact congrArg (fun z => some (z, st)) hG.2) kk
theorem jr_ifl_ge_f {q : Int} {t : Nat} {x y : Int64} (hG : jG k pc (.ifCond .ge q) [t] v pc') (h : ¬ (y ≤ x)) (kk : jR B SA d k pc' L st μ o μ') : jR B SA d k pc L (.int (lg_cmp x y) :: st) μ o μ' := jr_jmp hG rfl rfl rfl rfl rfl (by simp only [jJmp, jifc]; rw [if_neg (fun q0 => h (lc_ge.mp q0))]; exact congrArg (fun z => some (z, st)) hG.2) kk
theorem jr_if2_ge_f {q : Int} {t : Nat} {x y : Int32} (hG : jG k pc (.if_icmp .ge q) [t] v pc') (h : ¬ (y ≤ x)) (kk : jR B SA d k pc' L st μ o μ') : jR B SA d k pc L (.int y :: .int x :: st) μ o μ' := jr_jmp hG rfl rfl rfl rfl rfl (by simp only [jJmp, jifc]; rw [if_neg h]; exact congrArg (fun z => some (z, st)) hG.2) kk
theorem jr_if_gt_t {q : Int} {t : Nat} {x : Int32} (hG : jG k pc (.ifCond .gt q) [t] v pc') (h : 0 < x) (kk : jR B SA d k t L st μ o μ') : jR B SA d k pc L (.int x :: st) μ o μ' := jr_jmp hG rfl rfl rfl rfl rfl (by simp only [jJmp, jifc]; rw [if_pos h]) kk
theorem jr_ifl_gt_t {q : Int} {t : Nat} {x y : Int64} (hG : jG k pc (.ifCond .gt q) [t] v pc') (h : y < x) (kk : jR B SA d k t L st μ o μ') : jR B SA d k pc L (.int (lg_cmp x y) :: st) μ o μ' := jr_jmp hG rfl rfl rfl rfl rfl (by simp only [jJmp, jifc]; rw [if_pos (lc_gt.mpr h)]) kk
theorem jr_if2_gt_t {q : Int} {t : Nat} {x y : Int32} (hG : jG k pc (.if_icmp .gt q) [t] v pc') (h : y < x) (kk : jR B SA d k t L st μ o μ') : jR B SA d k pc L (.int y :: .int x :: st) μ o μ' := jr_jmp hG rfl rfl rfl rfl rfl (by simp only [jJmp, jifc]; rw [if_pos h]) kk
theorem jr_if_gt_f {q : Int} {t : Nat} {x : Int32} (hG : jG k pc (.ifCond .gt q) [t] v pc') (h : ¬ (0 < x)) (kk : jR B SA d k pc' L st μ o μ') : jR B SA d k pc L (.int x :: st) μ o μ' := jr_jmp hG rfl rfl rfl rfl rfl (by simp only [jJmp, jifc]; rw [if_neg h]; exact congrArg (fun z => some (z, st)) hG.2) kk
theorem jr_ifl_gt_f {q : Int} {t : Nat} {x y : Int64} (hG : jG k pc (.ifCond .gt q) [t] v pc') (h : ¬ (y < x)) (kk : jR B SA d k pc' L st μ o μ') : jR B SA d k pc L (.int (lg_cmp x y) :: st) μ o μ' := jr_jmp hG rfl rfl rfl rfl rfl (by simp only [jJmp, jifc]; rw [if_neg (fun q0 => h (lc_gt.mp q0))]; exact congrArg (fun z => some (z, st)) hG.2) kk
theorem jr_if2_gt_f {q : Int} {t : Nat} {x y : Int32} (hG : jG k pc (.if_icmp .gt q) [t] v pc') (h : ¬ (y < x)) (kk : jR B SA d k pc' L st μ o μ') : jR B SA d k pc L (.int y :: .int x :: st) μ o μ' := jr_jmp hG rfl rfl rfl rfl rfl (by simp only [jJmp, jifc]; rw [if_neg h]; exact congrArg (fun z => some (z, st)) hG.2) kk
theorem jr_if_le_t {q : Int} {t : Nat} {x : Int32} (hG : jG k pc (.ifCond .le q) [t] v pc') (h : x ≤ 0) (kk : jR B SA d k t L st μ o μ') : jR B SA d k pc L (.int x :: st) μ o μ' := jr_jmp hG rfl rfl rfl rfl rfl (by simp only [jJmp, jifc]; rw [if_pos h]) kk
theorem jr_ifl_le_t {q : Int} {t : Nat} {x y : Int64} (hG : jG k pc (.ifCond .le q) [t] v pc') (h : x ≤ y) (kk : jR B SA d k t L st μ o μ') : jR B SA d k pc L (.int (lg_cmp x y) :: st) μ o μ' := jr_jmp hG rfl rfl rfl rfl rfl (by simp only [jJmp, jifc]; rw [if_pos (lc_le.mpr h)]) kk
theorem jr_if2_le_t {q : Int} {t : Nat} {x y : Int32} (hG : jG k pc (.if_icmp .le q) [t] v pc') (h : x ≤ y) (kk : jR B SA d k t L st μ o μ') : jR B SA d k pc L (.int y :: .int x :: st) μ o μ' := jr_jmp hG rfl rfl rfl rfl rfl (by simp only [jJmp, jifc]; rw [if_pos h]) kk
theorem jr_if_le_f {q : Int} {t : Nat} {x : Int32} (hG : jG k pc (.ifCond .le q) [t] v pc') (h : ¬ (x ≤ 0)) (kk : jR B SA d k pc' L st μ o μ') : jR B SA d k pc L (.int x :: st) μ o μ' := jr_jmp hG rfl rfl rfl rfl rfl (by simp only [jJmp, jifc]; rw [if_neg h]; exact congrArg (fun z => some (z, st)) hG.2) kk
theorem jr_ifl_le_f {q : Int} {t : Nat} {x y : Int64} (hG : jG k pc (.ifCond .le q) [t] v pc') (h : ¬ (x ≤ y)) (kk : jR B SA d k pc' L st μ o μ') : jR B SA d k pc L (.int (lg_cmp x y) :: st) μ o μ' := jr_jmp hG rfl rfl rfl rfl rfl (by simp only [jJmp, jifc]; rw [if_neg (fun q0 => h (lc_le.mp q0))]; exact congrArg (fun z => some (z, st)) hG.2) kk
theorem jr_if2_le_f {q : Int} {t : Nat} {x y : Int32} (hG : jG k pc (.if_icmp .le q) [t] v pc') (h : ¬ (x ≤ y)) (kk : jR B SA d k pc' L st μ o μ') : jR B SA d k pc L (.int y :: .int x :: st) μ o μ' := jr_jmp hG rfl rfl rfl rfl rfl (by simp only [jJmp, jifc]; rw [if_neg h]; exact congrArg (fun z => some (z, st)) hG.2) kk
theorem jr_ifnull_n {q : Int} {t : Nat} (hG : jG k pc (.ifnull q) [t] v pc') (kk : jR B SA d k t L st μ o μ') : jR B SA d k pc L (rv none :: st) μ o μ' := jr_jmp hG rfl rfl rfl rfl rfl rfl kk
theorem jr_ifnull_s {q : Int} {t a : Nat} (hG : jG k pc (.ifnull q) [t] v pc') (kk : jR B SA d k pc' L st μ o μ') : jR B SA d k pc L (.ref a :: st) μ o μ' := jr_jmp hG rfl rfl rfl rfl rfl (congrArg (fun z => some (z, st)) hG.2) kk
theorem jr_ifnonnull_n {q : Int} {t : Nat} (hG : jG k pc (.ifnonnull q) [t] v pc') (kk : jR B SA d k pc' L st μ o μ') : jR B SA d k pc L (rv none :: st) μ o μ' := jr_jmp hG rfl rfl rfl rfl rfl (congrArg (fun z => some (z, st)) hG.2) kk
theorem jr_ifnonnull_s {q : Int} {t a : Nat} (hG : jG k pc (.ifnonnull q) [t] v pc') (kk : jR B SA d k t L st μ o μ') : jR B SA d k pc L (.ref a :: st) μ o μ' := jr_jmp hG rfl rfl rfl rfl rfl rfl kk
theorem jr_switch {d0 : Nat} {ts : List Nat} {x : Int32} {q1 q2 q3 : Int} {q4 : Array Int} (hG : jG k pc (.tableswitch q1 q2 q3 q4) (d0 :: ts) v pc') (kk : jR B SA d k (jswt x q2 ts d0) L st μ o μ') : jR B SA d k pc L (.int x :: st) μ o μ' := jr_jmp hG rfl rfl rfl rfl rfl rfl kk
theorem jsw_hit {x c : Int32} {lo : Int} {t d0 : Nat} {ts : List Nat} (hc : c.toInt = lo) (h : x = c) (kk : jR B SA d k t L st μ o μ') : jR B SA d k (jswt x lo (t :: ts) d0) L st μ o μ' := by
  subst h; simp only [jswt, if_pos hc]; exact kk
theorem jsw_miss {x c : Int32} {lo lo' : Int} {t d0 : Nat} {ts : List Nat} (hc : c.toInt = lo) (h : ¬ x = c) (e : lo + 1 = lo') (kk : jR B SA d k (jswt x lo' ts d0) L st μ o μ') : jR B SA d k (jswt x lo (t :: ts) d0) L st μ o μ' := by
  subst e
  have h2 : ¬ x.toInt = lo := fun q => h (Int32.toInt_inj.mp (q.trans hc.symm))
  simp only [jswt, if_neg h2]; exact kk
theorem jsw_end {x : Int32} {lo : Int} {d0 : Nat} (kk : jR B SA d k d0 L st μ o μ') : jR B SA d k (jswt x lo [] d0) L st μ o μ' := kk
theorem jgF_of {h : Nat → Option JCell} {a ci kf : Nat} {w : Value} (q : jgF h a ci kf = some w) : ∃ f, h a = some (.inl (ci, f)) ∧ f kf = w := by
  unfold jgF at q
  split at q
  · rename_i c f e
    split at q
    · rename_i e2; subst e2; cases q; exact ⟨f, e, rfl⟩
    · cases q
  · cases q
theorem obind_of {α β : Type} {o : Option α} {f : α → Option β} {r : β} (h : o.bind f = some r) : ∃ x, o = some x ∧ f x = some r := obd_of h
theorem jr_getV {n ci kf a : Nat} {w : Value} (hG : jG k pc (.getfield n) [ci, kf] v pc') (h : jgF μ.1 a ci kf = some w) (kk : jR B SA d k pc' L (w :: st) μ o μ') : jR B SA d k pc L (.ref a :: st) μ o μ' := by
  obtain ⟨f, h1, h2⟩ := jgF_of h
  subst h2
  exact jr_hep hG rfl rfl rfl rfl rfl rfl (by simp only [jHep, h1, if_true]) kk
theorem jr_getI {n ci kf a : Nat} {x : Int32} (hG : jG k pc (.getfield n) [ci, kf] v pc') (h : jgI μ.1 a ci kf = some x) (kk : jR B SA d k pc' L (.int x :: st) μ o μ') : jR B SA d k pc L (.ref a :: st) μ o μ' := by
  obtain ⟨w, h1, h2⟩ := obind_of h
  exact jr_getV hG (h1.trans (congrArg some (jvI_of h2))) kk
theorem jr_getJ {n ci kf a : Nat} {x : Int64} (hG : jG k pc (.getfield n) [ci, kf] v pc') (h : jgJ μ.1 a ci kf = some x) (kk : jR B SA d k pc' L (.long x :: st) μ o μ') : jR B SA d k pc L (.ref a :: st) μ o μ' := by
  obtain ⟨w, h1, h2⟩ := obind_of h
  exact jr_getV hG (h1.trans (congrArg some (jvJ_of h2))) kk
theorem jr_getD {n ci kf a : Nat} {x : UInt64} (hG : jG k pc (.getfield n) [ci, kf] v pc') (h : jgD μ.1 a ci kf = some x) (kk : jR B SA d k pc' L (.double x :: st) μ o μ') : jR B SA d k pc L (.ref a :: st) μ o μ' := by
  obtain ⟨w, h1, h2⟩ := obind_of h
  exact jr_getV hG (h1.trans (congrArg some (jvD_of h2))) kk
theorem jr_getZ {n ci kf a : Nat} {x : Bool} (hG : jG k pc (.getfield n) [ci, kf] v pc') (h : jgZ μ.1 a ci kf = some x) (kk : jR B SA d k pc' L (.int (jb x) :: st) μ o μ') : jR B SA d k pc L (.ref a :: st) μ o μ' := by
  obtain ⟨w, h1, h2⟩ := obind_of h
  exact jr_getV hG (h1.trans (congrArg some (jvZ_of h2))) kk
theorem jr_getA {n ci kf a : Nat} {x : Option Nat} (hG : jG k pc (.getfield n) [ci, kf] v pc') (h : jgA μ.1 a ci kf = some x) (kk : jR B SA d k pc' L (rv x :: st) μ o μ') : jR B SA d k pc L (.ref a :: st) μ o μ' := by
  obtain ⟨w, h1, h2⟩ := obind_of h
  exact jr_getV hG (h1.trans (congrArg some (jvA_of h2))) kk
theorem jpF_of {B ci kf a : Nat} {w : Value} {μ μ1 : JMem} (h : jpF B ci kf a w μ = some μ1) : ∃ f, μ.1 a = some (.inl (ci, f)) ∧ B ≤ a ∧ μ1 = (jup μ.1 a (.inl (ci, updV f kf w)), μ.2) := by
  unfold jpF at h
  split at h
  · rename_i c f e
    split at h
    · rename_i q; obtain ⟨q1, q2⟩ := q; subst q1; cases h; exact ⟨f, e, q2, rfl⟩
    · cases h
  · cases h
theorem jr_putV {n ci kf a : Nat} {w : Value} {μ1 : JMem} (hG : jG k pc (.putfield n) [ci, kf] v pc') (hn : narrow (jfty ci kf) w = w) (hf : fits (jfty ci kf) w = true) (h : jpF B ci kf a w μ = some μ1) (kk : jR B SA d k pc' L st μ1 o μ') : jR B SA d k pc L (w :: .ref a :: st) μ o μ' := by
  obtain ⟨f, h1, h2, h3⟩ := jpF_of h
  subst h3
  exact jr_hep hG rfl rfl rfl rfl rfl rfl (by simp only [jHep, h1]; rw [if_pos ⟨trivial, h2, hn, hf⟩]) kk
theorem jr_putI {n ci kf a : Nat} {x : Int32} {μ1 : JMem} (hG : jG k pc (.putfield n) [ci, kf] v pc') (ht : jfty ci kf = .int) (h : jpF B ci kf a (.int x) μ = some μ1) (kk : jR B SA d k pc' L st μ1 o μ') : jR B SA d k pc L (.int x :: .ref a :: st) μ o μ' := jr_putV hG (by rw [ht]; rfl) (by rw [ht]; rfl) h kk
theorem jr_putJ {n ci kf a : Nat} {x : Int64} {μ1 : JMem} (hG : jG k pc (.putfield n) [ci, kf] v pc') (ht : jfty ci kf = .long) (h : jpF B ci kf a (.long x) μ = some μ1) (kk : jR B SA d k pc' L st μ1 o μ') : jR B SA d k pc L (.long x :: .ref a :: st) μ o μ' := jr_putV hG (by rw [ht]; rfl) (by rw [ht]; rfl) h kk
theorem jr_putD {n ci kf a : Nat} {x : UInt64} {μ1 : JMem} (hG : jG k pc (.putfield n) [ci, kf] v pc') (ht : jfty ci kf = .double) (h : jpF B ci kf a (.double x) μ = some μ1) (kk : jR B SA d k pc' L st μ1 o μ') : jR B SA d k pc L (.double x :: .ref a :: st) μ o μ' := jr_putV hG (by rw [ht]; rfl) (by rw [ht]; rfl) h kk
theorem jr_putZ {n ci kf a : Nat} {x : Bool} {μ1 : JMem} (hG : jG k pc (.putfield n) [ci, kf] v pc') (ht : jfty ci kf = .boolean) (h : jpF B ci kf a (.int (jb x)) μ = some μ1) (kk : jR B SA d k pc' L st μ1 o μ') : jR B SA d k pc L (.int (jb x) :: .ref a :: st) μ o μ' := jr_putV hG (by rw [ht]; cases x <;> decide) (by rw [ht]; cases x <;> decide) h kk
def jrty (t : FieldType) : Bool := match t with | .object _ => true | .array _ => true | _ => false
theorem jr_putA {n ci kf a : Nat} {x : Option Nat} {μ1 : JMem} (hG : jG k pc (.putfield n) [ci, kf] v pc') (ht : jrty (jfty ci kf) = true) (h : jpF B ci kf a (rv x) μ = some μ1) (kk : jR B SA d k pc' L st μ1 o μ') : jR B SA d k pc L (rv x :: .ref a :: st) μ o μ' := by
  refine jr_putV hG ?_ ?_ h kk
  · cases x <;> generalize jfty ci kf = t at ht <;> cases t <;> first | rfl | cases ht
  · cases x <;> generalize jfty ci kf = t at ht <;> cases t <;> first | rfl | cases ht
theorem jr_getstatic {n s : Nat} (hG : jG k pc (.getstatic n) [s] v pc') (kk : jR B SA d k pc' L (.ref (SA s) :: st) μ o μ') : jR B SA d k pc L st μ o μ' := jr_hep hG rfl rfl rfl rfl rfl rfl rfl kk
theorem jaV_of {h : Nat → Option JCell} {ty : FieldType} {a : Nat} {j : Int32} {w : Value} (q : jaV h ty a j = some w) : ∃ n f, h a = some (.inr (ty, n, f)) ∧ ¬ (j < 0 ∨ n ≤ j.toNatClampNeg) ∧ f j.toNatClampNeg = w := by
  unfold jaV at q
  split at q
  · rename_i t n f e
    split at q
    · rename_i e2; obtain ⟨e2, e3⟩ := e2; subst e2; cases q; exact ⟨n, f, e, e3, rfl⟩
    · cases q
  · cases q
theorem jald_of {ty : FieldType} {a : Nat} {j : Int32} {w : Value} (q : jaV μ.1 ty a j = some w) : jald ty (.int j :: .ref a :: st) μ = some (w :: st, μ) := by
  obtain ⟨n, f, h1, h2, h3⟩ := jaV_of q
  subst h3
  simp only [jald, h1]
  rw [if_pos ⟨trivial, h2⟩]
theorem jr_iaload {a : Nat} {j : Int32} {x : Int32} (hG : jG k pc .iaload r v pc') (h : jaI μ.1 a j = some x) (kk : jR B SA d k pc' L (.int x :: st) μ o μ') : jR B SA d k pc L (.int j :: .ref a :: st) μ o μ' := by
  obtain ⟨w, h1, h2⟩ := obind_of h
  exact jr_hep hG rfl rfl rfl rfl rfl rfl (jald_of (h1.trans (congrArg some (jvI_of h2)))) kk
theorem jr_laload {a : Nat} {j : Int32} {x : Int64} (hG : jG k pc .laload r v pc') (h : jaJ μ.1 a j = some x) (kk : jR B SA d k pc' L (.long x :: st) μ o μ') : jR B SA d k pc L (.int j :: .ref a :: st) μ o μ' := by
  obtain ⟨w, h1, h2⟩ := obind_of h
  exact jr_hep hG rfl rfl rfl rfl rfl rfl (jald_of (h1.trans (congrArg some (jvJ_of h2)))) kk
theorem jr_daload {a : Nat} {j : Int32} {x : UInt64} (hG : jG k pc .daload r v pc') (h : jaD μ.1 a j = some x) (kk : jR B SA d k pc' L (.double x :: st) μ o μ') : jR B SA d k pc L (.int j :: .ref a :: st) μ o μ' := by
  obtain ⟨w, h1, h2⟩ := obind_of h
  exact jr_hep hG rfl rfl rfl rfl rfl rfl (jald_of (h1.trans (congrArg some (jvD_of h2)))) kk
theorem jr_aaload {a : Nat} {j : Int32} {x : Option Nat} (hG : jG k pc .aaload r v pc') (h : jaA μ.1 a j = some x) (kk : jR B SA d k pc' L (rv x :: st) μ o μ') : jR B SA d k pc L (.int j :: .ref a :: st) μ o μ' := by
  obtain ⟨w, h1, h2⟩ := obind_of h
  have h3 := jvA_of h2
  subst h3
  unfold jaR at h1
  split at h1
  · rename_i q n f e
    split at h1
    · rename_i e2
      exact jr_hep hG rfl rfl rfl rfl rfl rfl (by simp only [jHep, e]; rw [if_pos e2]; exact congrArg (fun z => some (z :: st, μ)) (Option.some.inj h1)) kk
    · cases h1
  · cases h1
theorem jpA_of {ty : FieldType} {a : Nat} {j : Int32} {w : Value} {μ1 : JMem} (h : jpA B ty a j w μ = some μ1) : jarS B ty a j w st μ = some (st, μ1) := by
  unfold jpA at h
  split at h
  · rename_i t n f e
    split at h
    · rename_i q
      cases h
      simp only [jarS, e]
      rw [if_pos q]
    · cases h
  · cases h
theorem jr_iastore {a : Nat} {j : Int32} {x : Int32} {μ1 : JMem} (hG : jG k pc .iastore r v pc') (h : jpA B .int a j (.int x) μ = some μ1) (kk : jR B SA d k pc' L st μ1 o μ') : jR B SA d k pc L (.int x :: .int j :: .ref a :: st) μ o μ' := jr_hep hG rfl rfl rfl rfl rfl rfl (jpA_of h) kk
theorem jr_lastore {a : Nat} {j : Int32} {x : Int64} {μ1 : JMem} (hG : jG k pc .lastore r v pc') (h : jpA B .long a j (.long x) μ = some μ1) (kk : jR B SA d k pc' L st μ1 o μ') : jR B SA d k pc L (.long x :: .int j :: .ref a :: st) μ o μ' := jr_hep hG rfl rfl rfl rfl rfl rfl (jpA_of h) kk
theorem jr_dastore {a : Nat} {j : Int32} {x : UInt64} {μ1 : JMem} (hG : jG k pc .dastore r v pc') (h : jpA B .double a j (.double x) μ = some μ1) (kk : jR B SA d k pc' L st μ1 o μ') : jR B SA d k pc L (.double x :: .int j :: .ref a :: st) μ o μ' := jr_hep hG rfl rfl rfl rfl rfl rfl (jpA_of h) kk
theorem jr_aastore {a b : Nat} {j : Int32} {μ1 : JMem} (hG : jG k pc .aastore r v pc') (h : jpO B a j b μ = some μ1) (kk : jR B SA d k pc' L st μ1 o μ') : jR B SA d k pc L (.ref b :: .int j :: .ref a :: st) μ o μ' := by
  unfold jpO at h
  split at h
  · rename_i c f e
    exact jr_hep hG rfl rfl rfl rfl rfl rfl (by simp only [jHep, e]; exact jpA_of h) kk
  · cases h
theorem jr_arraylength {a : Nat} {x : Int32} (hG : jG k pc .arraylength r v pc') (h : jal μ.1 a = some x) (kk : jR B SA d k pc' L (.int x :: st) μ o μ') : jR B SA d k pc L (.ref a :: st) μ o μ' := by
  unfold jal at h
  split at h
  · rename_i t n f e
    cases h
    exact jr_hep hG rfl rfl rfl rfl rfl rfl (by simp only [jHep, e]) kk
  · cases h
theorem jr_new {n ci : Nat} (hG : jG k pc (.new n) [ci] v pc') (kk : jR B SA d k pc' L (.ref μ.2.1 :: st) (jnO ci μ) o μ') : jR B SA d k pc L st μ o μ' := jr_hep hG rfl rfl rfl rfl rfl rfl rfl kk
theorem jr_newarray {n : Int32} {ty : ClassFile.ArrayType} {a : Nat} {μ1 : JMem} {ft : FieldType} (hG : jG k pc (.newarray ty) r v pc') (ht : Op.newarray.typeOf ty = ft) (h : jnA ft n μ = some (a, μ1)) (kk : jR B SA d k pc' L (.ref a :: st) μ1 o μ') : jR B SA d k pc L (.int n :: st) μ o μ' := by
  subst ht
  unfold jnA at h
  split at h
  · rename_i q
    cases h
    exact jr_hep hG rfl rfl rfl rfl rfl rfl (by simp only [jHep]; rw [if_pos q]) kk
  · cases h
theorem jr_anewarray {n : Int32} {q ci : Nat} {a : Nat} {μ1 : JMem} (hG : jG k pc (.anewarray q) [ci] v pc') (h : jnR ci n μ = some (a, μ1)) (kk : jR B SA d k pc' L (.ref a :: st) μ1 o μ') : jR B SA d k pc L (.int n :: st) μ o μ' := by
  unfold jnR at h
  split at h
  · rename_i q
    cases h
    exact jr_hep hG rfl rfl rfl rfl rfl rfl (by simp only [jHep]; rw [if_pos q]) kk
  · cases h
/-! natives, calls, returns -/
theorem jr_nat {i : Instr} {st0 : List Value} (hG : jG k pc i r v pc') (h3l : jlen i = 3) (h1 : jRet (jmi k).2.2.2.1 i st0 = none) (h2 : jCal i r st0 μ.1 = none) (h3 : jNat i r st0 = some st) (hd : 1 ≤ d) (hc : jCats st ≤ 10) (kk : jR B SA d k pc' L st μ o μ') : jR B SA d k pc L st0 μ o μ' := by
  obtain ⟨n, hn⟩ := kk
  obtain ⟨g1, g2⟩ := hG
  rw [h3l] at g2
  subst g2
  refine ⟨n + 1, ?_⟩
  simp only [jex, g1, h1, h2, h3]
  rw [if_neg (by omega)]
  exact hn
theorem jr_oinit {n a : Nat} (hG : jG k pc (.invokespecial n) [0] v pc') (hd : 1 ≤ d) (hc : jCats st ≤ 10) (kk : jR B SA d k pc' L st μ o μ') : jR B SA d k pc L (.ref a :: st) μ o μ' := jr_nat hG rfl rfl rfl rfl hd hc kk
theorem jr_l2dn {n : Nat} {x : Int64} {y : UInt64} (hG : jG k pc (.invokestatic n) [4, 0] v pc') (h : jl2d x = some y) (hd : 1 ≤ d) (hc : jCats (.double y :: st) ≤ 10) (kk : jR B SA d k pc' L (.double y :: st) μ o μ') : jR B SA d k pc L (.long x :: st) μ o μ' := by
  unfold jl2d at h
  split at h
  · rename_i q
    cases h
    exact jr_nat hG rfl rfl rfl (by simp only [jNat]; rw [if_pos q]) hd hc kk
  · cases h
theorem jr_d2ln {n : Nat} {x : UInt64} (hG : jG k pc (.invokestatic n) [4, 1] v pc') (hd : 1 ≤ d) (hc : jCats (.long x.toInt64 :: st) ≤ 10) (kk : jR B SA d k pc' L (.long x.toInt64 :: st) μ o μ') : jR B SA d k pc L (.double x :: st) μ o μ' := jr_nat hG rfl rfl rfl rfl hd hc kk
theorem jr_i2fn {n : Nat} {x : Int32} {y : UInt32} (hG : jG k pc (.invokestatic n) [4, 2] v pc') (h : ji2f x = some y) (hd : 1 ≤ d) (hc : jCats (.float y :: st) ≤ 10) (kk : jR B SA d k pc' L (.float y :: st) μ o μ') : jR B SA d k pc L (.int x :: st) μ o μ' := by
  unfold ji2f at h
  split at h
  · rename_i q
    cases h
    exact jr_nat hG rfl rfl rfl (by simp only [jNat]; rw [if_pos q]) hd hc kk
  · cases h
theorem jr_f2in {n : Nat} {x : UInt32} (hG : jG k pc (.invokestatic n) [4, 3] v pc') (hd : 1 ≤ d) (hc : jCats (.int x.toInt32 :: st) ≤ 10) (kk : jR B SA d k pc' L (.int x.toInt32 :: st) μ o μ') : jR B SA d k pc L (.float x :: st) μ o μ' := jr_nat hG rfl rfl rfl rfl hd hc kk
theorem jex_more {n : Nat} : ∀ {d k pc : Nat} {L : JLoc} {st : List Value} {μ : JMem} {q : Option Value × JMem}, jex B SA n d k pc L st μ = some q → ∀ m, jex B SA (n + m) d k pc L st μ = some q := by
  induction n with
  | zero => intro d k pc L st μ q h m; simp [jex] at h
  | succ n ih =>
    intro d k pc L st μ q h m
    have e : n + 1 + m = (n + m) + 1 := by omega
    rw [e]
    simp only [jex] at h ⊢
    split at h
    · cases h
    · rename_i i r v hF
      split at h
      · rename_i o' hr'
        exact h
      · split at h
        · rename_i k' as rest hcal
          split at h
          · cases h
          · rename_i hcond
            rw [if_neg hcond]
            split at h
            · cases h
            · rename_i o1 μ1 he
              rw [ih he m]
              exact ih h m
        · split at h
          · rename_i st' hnat
            split at h
            · cases h
            · rename_i hcond
              rw [if_neg hcond]
              exact ih h m
          · split at h
            · exact ih h m
            · cases h
theorem jr_call {i : Instr} {k' N : Nat} {as rest st0 : List Value} {o1 : Option Value} {μ1 : JMem} (hG : jG k pc i r v pc') (h3l : jlen i = 3) (h1 : jRet (jmi k).2.2.2.1 i st0 = none) (h2 : jCal i r st0 μ.1 = some (k', as, rest)) (hd : 1 ≤ d) (hc : jCats rest ≤ 8) (hm : (jmi k').2.2.1 = N) (ha : jCats as ≤ N) (hx : jR B SA (d - 1) k' 0 (lv_args 0 as) [] μ o1 μ1) (kk : jR B SA d k pc' L (o1.toList ++ rest) μ1 o μ') : jR B SA d k pc L st0 μ o μ' := by
  obtain ⟨n1, hn1⟩ := hx
  obtain ⟨n2, hn2⟩ := kk
  obtain ⟨g1, g2⟩ := hG
  rw [h3l] at g2
  subst g2
  subst hm
  refine ⟨n1 + n2 + 1, ?_⟩
  simp only [jex, g1, h1, h2]
  rw [if_neg (by omega)]
  simp only [jex_more hn1 n2]
  rw [Nat.add_comm n1 n2]
  exact jex_more hn2 n1
theorem jrecv_of {k' n b : Nat} {as rest st0 : List Value} (hn : n ≤ st0.length) (ht : (st0.take n).reverse = as) (hs : st0.drop n = .ref b :: rest) : jrecv k' n st0 = some (k', b, .ref b :: as, rest) := by
  unfold jrecv
  rw [hs]
  simp only [if_pos hn, ht]
theorem jr_callS3 {n k' m N : Nat} {as rest st0 : List Value} {o1 : Option Value} {μ1 : JMem} (hG : jG k pc (.invokestatic n) [3, k', m] v pc') (hn : m ≤ st0.length) (ht : (st0.take m).reverse = as) (hs : st0.drop m = rest) (hd : 1 ≤ d) (hc : jCats rest ≤ 8) (hm : (jmi k').2.2.1 = N) (ha : jCats as ≤ N) (hx : jR B SA (d - 1) k' 0 (lv_args 0 as) [] μ o1 μ1) (kk : jR B SA d k pc' L (o1.toList ++ rest) μ1 o μ') : jR B SA d k pc L st0 μ o μ' := by
  subst ht; subst hs
  exact jr_call hG rfl rfl (by simp only [jCal, if_pos hn]) hd hc hm ha hx kk
theorem jr_callS5 {n k' m N : Nat} {as rest st0 : List Value} {o1 : Option Value} {μ1 : JMem} (hG : jG k pc (.invokestatic n) [5, k', m] v pc') (hn : m ≤ st0.length) (ht : (st0.take m).reverse = as) (hs : st0.drop m = rest) (hd : 1 ≤ d) (hc : jCats rest ≤ 8) (hm : (jmi k').2.2.1 = N) (ha : jCats as ≤ N) (hx : jR B SA (d - 1) k' 0 (lv_args 0 as) [] μ o1 μ1) (kk : jR B SA d k pc' L (o1.toList ++ rest) μ1 o μ') : jR B SA d k pc L st0 μ o μ' := by
  subst ht; subst hs
  exact jr_call hG rfl rfl (by simp only [jCal, if_pos hn]) hd hc hm ha hx kk
theorem jr_callP1 {n k' m N b : Nat} {as rest st0 : List Value} {o1 : Option Value} {μ1 : JMem} (hG : jG k pc (.invokespecial n) [1, k', m] v pc') (hn : m ≤ st0.length) (ht : (st0.take m).reverse = as) (hs : st0.drop m = .ref b :: rest) (hd : 1 ≤ d) (hc : jCats rest ≤ 8) (hm : (jmi k').2.2.1 = N) (ha : jCats (.ref b :: as) ≤ N) (hx : jR B SA (d - 1) k' 0 (lv_args 0 (.ref b :: as)) [] μ o1 μ1) (kk : jR B SA d k pc' L (o1.toList ++ rest) μ1 o μ') : jR B SA d k pc L st0 μ o μ' :=
  jr_call hG rfl rfl (by simp only [jCal, jrecv_of hn ht hs]) hd hc hm ha hx kk
theorem jr_callP2 {n k' m N b : Nat} {as rest st0 : List Value} {o1 : Option Value} {μ1 : JMem} (hG : jG k pc (.invokespecial n) [2, k', m] v pc') (hn : m ≤ st0.length) (ht : (st0.take m).reverse = as) (hs : st0.drop m = .ref b :: rest) (hd : 1 ≤ d) (hc : jCats rest ≤ 8) (hm : (jmi k').2.2.1 = N) (ha : jCats (.ref b :: as) ≤ N) (hx : jR B SA (d - 1) k' 0 (lv_args 0 (.ref b :: as)) [] μ o1 μ1) (kk : jR B SA d k pc' L (o1.toList ++ rest) μ1 o μ') : jR B SA d k pc L st0 μ o μ' :=
  jr_call hG rfl rfl (by simp only [jCal, jrecv_of hn ht hs]) hd hc hm ha hx kk
theorem jr_callV6 {n ci k' m N b : Nat} {as rest st0 : List Value} {o1 : Option Value} {μ1 : JMem} (hG : jG k pc (.invokevirtual n) [6, m, ci, k'] v pc') (hb : jobC ci (μ.1 b) = true) (hn : m ≤ st0.length) (ht : (st0.take m).reverse = as) (hs : st0.drop m = .ref b :: rest) (hd : 1 ≤ d) (hc : jCats rest ≤ 8) (hm : (jmi k').2.2.1 = N) (ha : jCats (.ref b :: as) ≤ N) (hx : jR B SA (d - 1) k' 0 (lv_args 0 (.ref b :: as)) [] μ o1 μ1) (kk : jR B SA d k pc' L (o1.toList ++ rest) μ1 o μ') : jR B SA d k pc L st0 μ o μ' :=
  jr_call hG rfl rfl (by simp only [jCal, jrecv_of hn ht hs, hb, if_true]) hd hc hm ha hx kk
theorem jr_callV7 {n ci k' m N b : Nat} {as rest st0 : List Value} {o1 : Option Value} {μ1 : JMem} (hG : jG k pc (.invokevirtual n) [7, m, ci, k'] v pc') (hb : jobC ci (μ.1 b) = true) (hn : m ≤ st0.length) (ht : (st0.take m).reverse = as) (hs : st0.drop m = .ref b :: rest) (hd : 1 ≤ d) (hc : jCats rest ≤ 8) (hm : (jmi k').2.2.1 = N) (ha : jCats (.ref b :: as) ≤ N) (hx : jR B SA (d - 1) k' 0 (lv_args 0 (.ref b :: as)) [] μ o1 μ1) (kk : jR B SA d k pc' L (o1.toList ++ rest) μ1 o μ') : jR B SA d k pc L st0 μ o μ' :=
  jr_call hG rfl rfl (by simp only [jCal, jrecv_of hn ht hs, hb, if_true]) hd hc hm ha hx kk
theorem jr_callV8a {n c1 k1 c2 k2 m N b : Nat} {as rest st0 : List Value} {o1 : Option Value} {μ1 : JMem} (hG : jG k pc (.invokevirtual n) [8, m, c1, k1, c2, k2] v pc') (hb : jobC c1 (μ.1 b) = true) (hn : m ≤ st0.length) (ht : (st0.take m).reverse = as) (hs : st0.drop m = .ref b :: rest) (hd : 1 ≤ d) (hc : jCats rest ≤ 8) (hm : (jmi k1).2.2.1 = N) (ha : jCats (.ref b :: as) ≤ N) (hx : jR B SA (d - 1) k1 0 (lv_args 0 (.ref b :: as)) [] μ o1 μ1) (kk : jR B SA d k pc' L (o1.toList ++ rest) μ1 o μ') : jR B SA d k pc L st0 μ o μ' :=
  jr_call hG rfl rfl (by simp only [jCal, jrecv_of hn ht hs, hb, if_true]) hd hc hm ha hx kk
theorem jr_callV8b {n c1 k1 c2 k2 m N b : Nat} {as rest st0 : List Value} {o1 : Option Value} {μ1 : JMem} (hG : jG k pc (.invokevirtual n) [8, m, c1, k1, c2, k2] v pc') (hb0 : ¬ jobC c1 (μ.1 b) = true) (hb : jobC c2 (μ.1 b) = true) (hn : m ≤ st0.length) (ht : (st0.take m).reverse = as) (hs : st0.drop m = .ref b :: rest) (hd : 1 ≤ d) (hc : jCats rest ≤ 8) (hm : (jmi k2).2.2.1 = N) (ha : jCats (.ref b :: as) ≤ N) (hx : jR B SA (d - 1) k2 0 (lv_args 0 (.ref b :: as)) [] μ o1 μ1) (kk : jR B SA d k pc' L (o1.toList ++ rest) μ1 o μ') : jR B SA d k pc L st0 μ o μ' :=
  jr_call hG rfl rfl (by simp only [jCal, jrecv_of hn ht hs, hb, if_true, if_neg hb0]) hd hc hm ha hx kk
theorem jr_callV9a {n c1 k1 c2 k2 m N b : Nat} {as rest st0 : List Value} {o1 : Option Value} {μ1 : JMem} (hG : jG k pc (.invokevirtual n) [9, m, c1, k1, c2, k2] v pc') (hb : jobC c1 (μ.1 b) = true) (hn : m ≤ st0.length) (ht : (st0.take m).reverse = as) (hs : st0.drop m = .ref b :: rest) (hd : 1 ≤ d) (hc : jCats rest ≤ 8) (hm : (jmi k1).2.2.1 = N) (ha : jCats (.ref b :: as) ≤ N) (hx : jR B SA (d - 1) k1 0 (lv_args 0 (.ref b :: as)) [] μ o1 μ1) (kk : jR B SA d k pc' L (o1.toList ++ rest) μ1 o μ') : jR B SA d k pc L st0 μ o μ' :=
  jr_call hG rfl rfl (by simp only [jCal, jrecv_of hn ht hs, hb, if_true]) hd hc hm ha hx kk
theorem jr_callV9b {n c1 k1 c2 k2 m N b : Nat} {as rest st0 : List Value} {o1 : Option Value} {μ1 : JMem} (hG : jG k pc (.invokevirtual n) [9, m, c1, k1, c2, k2] v pc') (hb0 : ¬ jobC c1 (μ.1 b) = true) (hb : jobC c2 (μ.1 b) = true) (hn : m ≤ st0.length) (ht : (st0.take m).reverse = as) (hs : st0.drop m = .ref b :: rest) (hd : 1 ≤ d) (hc : jCats rest ≤ 8) (hm : (jmi k2).2.2.1 = N) (ha : jCats (.ref b :: as) ≤ N) (hx : jR B SA (d - 1) k2 0 (lv_args 0 (.ref b :: as)) [] μ o1 μ1) (kk : jR B SA d k pc' L (o1.toList ++ rest) μ1 o μ') : jR B SA d k pc L st0 μ o μ' :=
  jr_call hG rfl rfl (by simp only [jCal, jrecv_of hn ht hs, hb, if_true, if_neg hb0]) hd hc hm ha hx kk
theorem jr_S3_0 {n k' N : Nat} {w : Value} {rest : List Value} {μ1 : JMem} (hG : jG k pc (.invokestatic n) [3, k', 0] v pc') (hd : 1 ≤ d) (hx : jR B SA (d - 1) k' 0 (lv_args 0 []) [] μ (some w) μ1) (hc : jCats rest ≤ 8) (hm : (jmi k').2.2.1 = N) (ha : jCats [] ≤ N) (kk : jR B SA d k pc' L (w :: rest) μ1 o μ') : jR B SA d k pc L (rest) μ o μ' := jr_callS3 hG (by simp) rfl rfl hd hc hm ha hx kk
theorem jr_S5_0 {n k' N : Nat} {w : Value} {rest : List Value} {μ1 : JMem} (hG : jG k pc (.invokestatic n) [5, k', 0] v pc') (hd : 1 ≤ d) (hx : jR B SA (d - 1) k' 0 (lv_args 0 []) [] μ (some w) μ1) (hc : jCats rest ≤ 8) (hm : (jmi k').2.2.1 = N) (ha : jCats [] ≤ N) (kk : jR B SA d k pc' L (w :: rest) μ1 o μ') : jR B SA d k pc L (rest) μ o μ' := jr_callS5 hG (by simp) rfl rfl hd hc hm ha hx kk
theorem jr_P1_0 {n k' N b : Nat} {w : Value} {rest : List Value} {μ1 : JMem} (hG : jG k pc (.invokespecial n) [1, k', 0] v pc') (hd : 1 ≤ d) (hx : jR B SA (d - 1) k' 0 (lv_args 0 (.ref b :: [])) [] μ (some w) μ1) (hc : jCats rest ≤ 8) (hm : (jmi k').2.2.1 = N) (ha : jCats (.ref b :: []) ≤ N) (kk : jR B SA d k pc' L (w :: rest) μ1 o μ') : jR B SA d k pc L (.ref b :: rest) μ o μ' := jr_callP1 hG (by simp) rfl rfl hd hc hm ha hx kk
theorem jr_P2_0 {n k' N b : Nat} {w : Value} {rest : List Value} {μ1 : JMem} (hG : jG k pc (.invokespecial n) [2, k', 0] v pc') (hd : 1 ≤ d) (hx : jR B SA (d - 1) k' 0 (lv_args 0 (.ref b :: [])) [] μ (some w) μ1) (hc : jCats rest ≤ 8) (hm : (jmi k').2.2.1 = N) (ha : jCats (.ref b :: []) ≤ N) (kk : jR B SA d k pc' L (w :: rest) μ1 o μ') : jR B SA d k pc L (.ref b :: rest) μ o μ' := jr_callP2 hG (by simp) rfl rfl hd hc hm ha hx kk
theorem jr_V6_0 {n ci k' N b : Nat} {w : Value} {rest : List Value} {μ1 : JMem} (hG : jG k pc (.invokevirtual n) [6, 0, ci, k'] v pc') (hb : jobC ci (μ.1 b) = true) (hd : 1 ≤ d) (hx : jR B SA (d - 1) k' 0 (lv_args 0 (.ref b :: [])) [] μ (some w) μ1) (hc : jCats rest ≤ 8) (hm : (jmi k').2.2.1 = N) (ha : jCats (.ref b :: []) ≤ N) (kk : jR B SA d k pc' L (w :: rest) μ1 o μ') : jR B SA d k pc L (.ref b :: rest) μ o μ' := jr_callV6 hG hb (by simp) rfl rfl hd hc hm ha hx kk
theorem jr_V7_0 {n ci k' N b : Nat} {w : Value} {rest : List Value} {μ1 : JMem} (hG : jG k pc (.invokevirtual n) [7, 0, ci, k'] v pc') (hb : jobC ci (μ.1 b) = true) (hd : 1 ≤ d) (hx : jR B SA (d - 1) k' 0 (lv_args 0 (.ref b :: [])) [] μ (some w) μ1) (hc : jCats rest ≤ 8) (hm : (jmi k').2.2.1 = N) (ha : jCats (.ref b :: []) ≤ N) (kk : jR B SA d k pc' L (w :: rest) μ1 o μ') : jR B SA d k pc L (.ref b :: rest) μ o μ' := jr_callV7 hG hb (by simp) rfl rfl hd hc hm ha hx kk
theorem jr_V8a_0 {n c1 k1 c2 k2 N b : Nat} {w : Value} {rest : List Value} {μ1 : JMem} (hG : jG k pc (.invokevirtual n) [8, 0, c1, k1, c2, k2] v pc') (hb : jobC c1 (μ.1 b) = true) (hd : 1 ≤ d) (hx : jR B SA (d - 1) k1 0 (lv_args 0 (.ref b :: [])) [] μ (some w) μ1) (hc : jCats rest ≤ 8) (hm : (jmi k1).2.2.1 = N) (ha : jCats (.ref b :: []) ≤ N) (kk : jR B SA d k pc' L (w :: rest) μ1 o μ') : jR B SA d k pc L (.ref b :: rest) μ o μ' := jr_callV8a hG hb (by simp) rfl rfl hd hc hm ha hx kk
theorem jr_V8b_0 {n c1 k1 c2 k2 N b : Nat} {w : Value} {rest : List Value} {μ1 : JMem} (hG : jG k pc (.invokevirtual n) [8, 0, c1, k1, c2, k2] v pc') (hb0 : ¬ jobC c1 (μ.1 b) = true) (hb : jobC c2 (μ.1 b) = true) (hd : 1 ≤ d) (hx : jR B SA (d - 1) k2 0 (lv_args 0 (.ref b :: [])) [] μ (some w) μ1) (hc : jCats rest ≤ 8) (hm : (jmi k2).2.2.1 = N) (ha : jCats (.ref b :: []) ≤ N) (kk : jR B SA d k pc' L (w :: rest) μ1 o μ') : jR B SA d k pc L (.ref b :: rest) μ o μ' := jr_callV8b hG hb0 hb (by simp) rfl rfl hd hc hm ha hx kk
theorem jr_V9a_0 {n c1 k1 c2 k2 N b : Nat} {w : Value} {rest : List Value} {μ1 : JMem} (hG : jG k pc (.invokevirtual n) [9, 0, c1, k1, c2, k2] v pc') (hb : jobC c1 (μ.1 b) = true) (hd : 1 ≤ d) (hx : jR B SA (d - 1) k1 0 (lv_args 0 (.ref b :: [])) [] μ (some w) μ1) (hc : jCats rest ≤ 8) (hm : (jmi k1).2.2.1 = N) (ha : jCats (.ref b :: []) ≤ N) (kk : jR B SA d k pc' L (w :: rest) μ1 o μ') : jR B SA d k pc L (.ref b :: rest) μ o μ' := jr_callV9a hG hb (by simp) rfl rfl hd hc hm ha hx kk
theorem jr_V9b_0 {n c1 k1 c2 k2 N b : Nat} {w : Value} {rest : List Value} {μ1 : JMem} (hG : jG k pc (.invokevirtual n) [9, 0, c1, k1, c2, k2] v pc') (hb0 : ¬ jobC c1 (μ.1 b) = true) (hb : jobC c2 (μ.1 b) = true) (hd : 1 ≤ d) (hx : jR B SA (d - 1) k2 0 (lv_args 0 (.ref b :: [])) [] μ (some w) μ1) (hc : jCats rest ≤ 8) (hm : (jmi k2).2.2.1 = N) (ha : jCats (.ref b :: []) ≤ N) (kk : jR B SA d k pc' L (w :: rest) μ1 o μ') : jR B SA d k pc L (.ref b :: rest) μ o μ' := jr_callV9b hG hb0 hb (by simp) rfl rfl hd hc hm ha hx kk
theorem jr_S3v_0 {n k' N : Nat} {rest : List Value} {μ1 : JMem} (hG : jG k pc (.invokestatic n) [3, k', 0] v pc') (hd : 1 ≤ d) (hx : jR B SA (d - 1) k' 0 (lv_args 0 []) [] μ none μ1) (hc : jCats rest ≤ 8) (hm : (jmi k').2.2.1 = N) (ha : jCats [] ≤ N) (kk : jR B SA d k pc' L rest μ1 o μ') : jR B SA d k pc L (rest) μ o μ' := jr_callS3 hG (by simp) rfl rfl hd hc hm ha hx kk
theorem jr_S5v_0 {n k' N : Nat} {rest : List Value} {μ1 : JMem} (hG : jG k pc (.invokestatic n) [5, k', 0] v pc') (hd : 1 ≤ d) (hx : jR B SA (d - 1) k' 0 (lv_args 0 []) [] μ none μ1) (hc : jCats rest ≤ 8) (hm : (jmi k').2.2.1 = N) (ha : jCats [] ≤ N) (kk : jR B SA d k pc' L rest μ1 o μ') : jR B SA d k pc L (rest) μ o μ' := jr_callS5 hG (by simp) rfl rfl hd hc hm ha hx kk
theorem jr_P1v_0 {n k' N b : Nat} {rest : List Value} {μ1 : JMem} (hG : jG k pc (.invokespecial n) [1, k', 0] v pc') (hd : 1 ≤ d) (hx : jR B SA (d - 1) k' 0 (lv_args 0 (.ref b :: [])) [] μ none μ1) (hc : jCats rest ≤ 8) (hm : (jmi k').2.2.1 = N) (ha : jCats (.ref b :: []) ≤ N) (kk : jR B SA d k pc' L rest μ1 o μ') : jR B SA d k pc L (.ref b :: rest) μ o μ' := jr_callP1 hG (by simp) rfl rfl hd hc hm ha hx kk
theorem jr_P2v_0 {n k' N b : Nat} {rest : List Value} {μ1 : JMem} (hG : jG k pc (.invokespecial n) [2, k', 0] v pc') (hd : 1 ≤ d) (hx : jR B SA (d - 1) k' 0 (lv_args 0 (.ref b :: [])) [] μ none μ1) (hc : jCats rest ≤ 8) (hm : (jmi k').2.2.1 = N) (ha : jCats (.ref b :: []) ≤ N) (kk : jR B SA d k pc' L rest μ1 o μ') : jR B SA d k pc L (.ref b :: rest) μ o μ' := jr_callP2 hG (by simp) rfl rfl hd hc hm ha hx kk
theorem jr_V6v_0 {n ci k' N b : Nat} {rest : List Value} {μ1 : JMem} (hG : jG k pc (.invokevirtual n) [6, 0, ci, k'] v pc') (hb : jobC ci (μ.1 b) = true) (hd : 1 ≤ d) (hx : jR B SA (d - 1) k' 0 (lv_args 0 (.ref b :: [])) [] μ none μ1) (hc : jCats rest ≤ 8) (hm : (jmi k').2.2.1 = N) (ha : jCats (.ref b :: []) ≤ N) (kk : jR B SA d k pc' L rest μ1 o μ') : jR B SA d k pc L (.ref b :: rest) μ o μ' := jr_callV6 hG hb (by simp) rfl rfl hd hc hm ha hx kk
theorem jr_V7v_0 {n ci k' N b : Nat} {rest : List Value} {μ1 : JMem} (hG : jG k pc (.invokevirtual n) [7, 0, ci, k'] v pc') (hb : jobC ci (μ.1 b) = true) (hd : 1 ≤ d) (hx : jR B SA (d - 1) k' 0 (lv_args 0 (.ref b :: [])) [] μ none μ1) (hc : jCats rest ≤ 8) (hm : (jmi k').2.2.1 = N) (ha : jCats (.ref b :: []) ≤ N) (kk : jR B SA d k pc' L rest μ1 o μ') : jR B SA d k pc L (.ref b :: rest) μ o μ' := jr_callV7 hG hb (by simp) rfl rfl hd hc hm ha hx kk
theorem jr_V8av_0 {n c1 k1 c2 k2 N b : Nat} {rest : List Value} {μ1 : JMem} (hG : jG k pc (.invokevirtual n) [8, 0, c1, k1, c2, k2] v pc') (hb : jobC c1 (μ.1 b) = true) (hd : 1 ≤ d) (hx : jR B SA (d - 1) k1 0 (lv_args 0 (.ref b :: [])) [] μ none μ1) (hc : jCats rest ≤ 8) (hm : (jmi k1).2.2.1 = N) (ha : jCats (.ref b :: []) ≤ N) (kk : jR B SA d k pc' L rest μ1 o μ') : jR B SA d k pc L (.ref b :: rest) μ o μ' := jr_callV8a hG hb (by simp) rfl rfl hd hc hm ha hx kk
theorem jr_V8bv_0 {n c1 k1 c2 k2 N b : Nat} {rest : List Value} {μ1 : JMem} (hG : jG k pc (.invokevirtual n) [8, 0, c1, k1, c2, k2] v pc') (hb0 : ¬ jobC c1 (μ.1 b) = true) (hb : jobC c2 (μ.1 b) = true) (hd : 1 ≤ d) (hx : jR B SA (d - 1) k2 0 (lv_args 0 (.ref b :: [])) [] μ none μ1) (hc : jCats rest ≤ 8) (hm : (jmi k2).2.2.1 = N) (ha : jCats (.ref b :: []) ≤ N) (kk : jR B SA d k pc' L rest μ1 o μ') : jR B SA d k pc L (.ref b :: rest) μ o μ' := jr_callV8b hG hb0 hb (by simp) rfl rfl hd hc hm ha hx kk
theorem jr_V9av_0 {n c1 k1 c2 k2 N b : Nat} {rest : List Value} {μ1 : JMem} (hG : jG k pc (.invokevirtual n) [9, 0, c1, k1, c2, k2] v pc') (hb : jobC c1 (μ.1 b) = true) (hd : 1 ≤ d) (hx : jR B SA (d - 1) k1 0 (lv_args 0 (.ref b :: [])) [] μ none μ1) (hc : jCats rest ≤ 8) (hm : (jmi k1).2.2.1 = N) (ha : jCats (.ref b :: []) ≤ N) (kk : jR B SA d k pc' L rest μ1 o μ') : jR B SA d k pc L (.ref b :: rest) μ o μ' := jr_callV9a hG hb (by simp) rfl rfl hd hc hm ha hx kk
theorem jr_V9bv_0 {n c1 k1 c2 k2 N b : Nat} {rest : List Value} {μ1 : JMem} (hG : jG k pc (.invokevirtual n) [9, 0, c1, k1, c2, k2] v pc') (hb0 : ¬ jobC c1 (μ.1 b) = true) (hb : jobC c2 (μ.1 b) = true) (hd : 1 ≤ d) (hx : jR B SA (d - 1) k2 0 (lv_args 0 (.ref b :: [])) [] μ none μ1) (hc : jCats rest ≤ 8) (hm : (jmi k2).2.2.1 = N) (ha : jCats (.ref b :: []) ≤ N) (kk : jR B SA d k pc' L rest μ1 o μ') : jR B SA d k pc L (.ref b :: rest) μ o μ' := jr_callV9b hG hb0 hb (by simp) rfl rfl hd hc hm ha hx kk
theorem jr_S3_1 {n k' N : Nat} {a1 : Value} {w : Value} {rest : List Value} {μ1 : JMem} (hG : jG k pc (.invokestatic n) [3, k', 1] v pc') (hd : 1 ≤ d) (hx : jR B SA (d - 1) k' 0 (lv_args 0 [a1]) [] μ (some w) μ1) (hc : jCats rest ≤ 8) (hm : (jmi k').2.2.1 = N) (ha : jCats [a1] ≤ N) (kk : jR B SA d k pc' L (w :: rest) μ1 o μ') : jR B SA d k pc L (a1 :: rest) μ o μ' := jr_callS3 hG (by simp) rfl rfl hd hc hm ha hx kk
theorem jr_S5_1 {n k' N : Nat} {a1 : Value} {w : Value} {rest : List Value} {μ1 : JMem} (hG : jG k pc (.invokestatic n) [5, k', 1] v pc') (hd : 1 ≤ d) (hx : jR B SA (d - 1) k' 0 (lv_args 0 [a1]) [] μ (some w) μ1) (hc : jCats rest ≤ 8) (hm : (jmi k').2.2.1 = N) (ha : jCats [a1] ≤ N) (kk : jR B SA d k pc' L (w :: rest) μ1 o μ') : jR B SA d k pc L (a1 :: rest) μ o μ' := jr_callS5 hG (by simp) rfl rfl hd hc hm ha hx kk
theorem jr_P1_1 {n k' N b : Nat} {a1 : Value} {w : Value} {rest : List Value} {μ1 : JMem} (hG : jG k pc (.invokespecial n) [1, k', 1] v pc') (hd : 1 ≤ d) (hx : jR B SA (d - 1) k' 0 (lv_args 0 (.ref b :: [a1])) [] μ (some w) μ1) (hc : jCats rest ≤ 8) (hm : (jmi k').2.2.1 = N) (ha : jCats (.ref b :: [a1]) ≤ N) (kk : jR B SA d k pc' L (w :: rest) μ1 o μ') : jR B SA d k pc L (a1 :: .ref b :: rest) μ o μ' := jr_callP1 hG (by simp) rfl rfl hd hc hm ha hx kk
theorem jr_P2_1 {n k' N b : Nat} {a1 : Value} {w : Value} {rest : List Value} {μ1 : JMem} (hG : jG k pc (.invokespecial n) [2, k', 1] v pc') (hd : 1 ≤ d) (hx : jR B SA (d - 1) k' 0 (lv_args 0 (.ref b :: [a1])) [] μ (some w) μ1) (hc : jCats rest ≤ 8) (hm : (jmi k').2.2.1 = N) (ha : jCats (.ref b :: [a1]) ≤ N) (kk : jR B SA d k pc' L (w :: rest) μ1 o μ') : jR B SA d k pc L (a1 :: .ref b :: rest) μ o μ' := jr_callP2 hG (by simp) rfl rfl hd hc hm ha hx kk
theorem jr_V6_1 {n ci k' N b : Nat} {a1 : Value} {w : Value} {rest : List Value} {μ1 : JMem} (hG : jG k pc (.invokevirtual n) [6, 1, ci, k'] v pc') (hb : jobC ci (μ.1 b) = true) (hd : 1 ≤ d) (hx : jR B SA (d - 1) k' 0 (lv_args 0 (.ref b :: [a1])) [] μ (some w) μ1) (hc : jCats rest ≤ 8) (hm : (jmi k').2.2.1 = N) (ha : jCats (.ref b :: [a1]) ≤ N) (kk : jR B SA d k pc' L (w :: rest) μ1 o μ') : jR B SA d k pc L (a1 :: .ref b :: rest) μ o μ' := jr_callV6 hG hb (by simp) rfl rfl hd hc hm ha hx kk
theorem jr_V7_1 {n ci k' N b : Nat} {a1 : Value} {w : Value} {rest : List Value} {μ1 : JMem} (hG : jG k pc (.invokevirtual n) [7, 1, ci, k'] v pc') (hb : jobC ci (μ.1 b) = true) (hd : 1 ≤ d) (hx : jR B SA (d - 1) k' 0 (lv_args 0 (.ref b :: [a1])) [] μ (some w) μ1) (hc : jCats rest ≤ 8) (hm : (jmi k').2.2.1 = N) (ha : jCats (.ref b :: [a1]) ≤ N) (kk : jR B SA d k pc' L (w :: rest) μ1 o μ') : jR B SA d k pc L (a1 :: .ref b :: rest) μ o μ' := jr_callV7 hG hb (by simp) rfl rfl hd hc hm ha hx kk
theorem jr_V8a_1 {n c1 k1 c2 k2 N b : Nat} {a1 : Value} {w : Value} {rest : List Value} {μ1 : JMem} (hG : jG k pc (.invokevirtual n) [8, 1, c1, k1, c2, k2] v pc') (hb : jobC c1 (μ.1 b) = true) (hd : 1 ≤ d) (hx : jR B SA (d - 1) k1 0 (lv_args 0 (.ref b :: [a1])) [] μ (some w) μ1) (hc : jCats rest ≤ 8) (hm : (jmi k1).2.2.1 = N) (ha : jCats (.ref b :: [a1]) ≤ N) (kk : jR B SA d k pc' L (w :: rest) μ1 o μ') : jR B SA d k pc L (a1 :: .ref b :: rest) μ o μ' := jr_callV8a hG hb (by simp) rfl rfl hd hc hm ha hx kk
theorem jr_V8b_1 {n c1 k1 c2 k2 N b : Nat} {a1 : Value} {w : Value} {rest : List Value} {μ1 : JMem} (hG : jG k pc (.invokevirtual n) [8, 1, c1, k1, c2, k2] v pc') (hb0 : ¬ jobC c1 (μ.1 b) = true) (hb : jobC c2 (μ.1 b) = true) (hd : 1 ≤ d) (hx : jR B SA (d - 1) k2 0 (lv_args 0 (.ref b :: [a1])) [] μ (some w) μ1) (hc : jCats rest ≤ 8) (hm : (jmi k2).2.2.1 = N) (ha : jCats (.ref b :: [a1]) ≤ N) (kk : jR B SA d k pc' L (w :: rest) μ1 o μ') : jR B SA d k pc L (a1 :: .ref b :: rest) μ o μ' := jr_callV8b hG hb0 hb (by simp) rfl rfl hd hc hm ha hx kk
theorem jr_V9a_1 {n c1 k1 c2 k2 N b : Nat} {a1 : Value} {w : Value} {rest : List Value} {μ1 : JMem} (hG : jG k pc (.invokevirtual n) [9, 1, c1, k1, c2, k2] v pc') (hb : jobC c1 (μ.1 b) = true) (hd : 1 ≤ d) (hx : jR B SA (d - 1) k1 0 (lv_args 0 (.ref b :: [a1])) [] μ (some w) μ1) (hc : jCats rest ≤ 8) (hm : (jmi k1).2.2.1 = N) (ha : jCats (.ref b :: [a1]) ≤ N) (kk : jR B SA d k pc' L (w :: rest) μ1 o μ') : jR B SA d k pc L (a1 :: .ref b :: rest) μ o μ' := jr_callV9a hG hb (by simp) rfl rfl hd hc hm ha hx kk
theorem jr_V9b_1 {n c1 k1 c2 k2 N b : Nat} {a1 : Value} {w : Value} {rest : List Value} {μ1 : JMem} (hG : jG k pc (.invokevirtual n) [9, 1, c1, k1, c2, k2] v pc') (hb0 : ¬ jobC c1 (μ.1 b) = true) (hb : jobC c2 (μ.1 b) = true) (hd : 1 ≤ d) (hx : jR B SA (d - 1) k2 0 (lv_args 0 (.ref b :: [a1])) [] μ (some w) μ1) (hc : jCats rest ≤ 8) (hm : (jmi k2).2.2.1 = N) (ha : jCats (.ref b :: [a1]) ≤ N) (kk : jR B SA d k pc' L (w :: rest) μ1 o μ') : jR B SA d k pc L (a1 :: .ref b :: rest) μ o μ' := jr_callV9b hG hb0 hb (by simp) rfl rfl hd hc hm ha hx kk
theorem jr_S3v_1 {n k' N : Nat} {a1 : Value} {rest : List Value} {μ1 : JMem} (hG : jG k pc (.invokestatic n) [3, k', 1] v pc') (hd : 1 ≤ d) (hx : jR B SA (d - 1) k' 0 (lv_args 0 [a1]) [] μ none μ1) (hc : jCats rest ≤ 8) (hm : (jmi k').2.2.1 = N) (ha : jCats [a1] ≤ N) (kk : jR B SA d k pc' L rest μ1 o μ') : jR B SA d k pc L (a1 :: rest) μ o μ' := jr_callS3 hG (by simp) rfl rfl hd hc hm ha hx kk
theorem jr_S5v_1 {n k' N : Nat} {a1 : Value} {rest : List Value} {μ1 : JMem} (hG : jG k pc (.invokestatic n) [5, k', 1] v pc') (hd : 1 ≤ d) (hx : jR B SA (d - 1) k' 0 (lv_args 0 [a1]) [] μ none μ1) (hc : jCats rest ≤ 8) (hm : (jmi k').2.2.1 = N) (ha : jCats [a1] ≤ N) (kk : jR B SA d k pc' L rest μ1 o μ') : jR B SA d k pc L (a1 :: rest) μ o μ' := jr_callS5 hG (by simp) rfl rfl hd hc hm ha hx kk
theorem jr_P1v_1 {n k' N b : Nat} {a1 : Value} {rest : List Value} {μ1 : JMem} (hG : jG k pc (.invokespecial n) [1, k', 1] v pc') (hd : 1 ≤ d) (hx : jR B SA (d - 1) k' 0 (lv_args 0 (.ref b :: [a1])) [] μ none μ1) (hc : jCats rest ≤ 8) (hm : (jmi k').2.2.1 = N) (ha : jCats (.ref b :: [a1]) ≤ N) (kk : jR B SA d k pc' L rest μ1 o μ') : jR B SA d k pc L (a1 :: .ref b :: rest) μ o μ' := jr_callP1 hG (by simp) rfl rfl hd hc hm ha hx kk
theorem jr_P2v_1 {n k' N b : Nat} {a1 : Value} {rest : List Value} {μ1 : JMem} (hG : jG k pc (.invokespecial n) [2, k', 1] v pc') (hd : 1 ≤ d) (hx : jR B SA (d - 1) k' 0 (lv_args 0 (.ref b :: [a1])) [] μ none μ1) (hc : jCats rest ≤ 8) (hm : (jmi k').2.2.1 = N) (ha : jCats (.ref b :: [a1]) ≤ N) (kk : jR B SA d k pc' L rest μ1 o μ') : jR B SA d k pc L (a1 :: .ref b :: rest) μ o μ' := jr_callP2 hG (by simp) rfl rfl hd hc hm ha hx kk
theorem jr_V6v_1 {n ci k' N b : Nat} {a1 : Value} {rest : List Value} {μ1 : JMem} (hG : jG k pc (.invokevirtual n) [6, 1, ci, k'] v pc') (hb : jobC ci (μ.1 b) = true) (hd : 1 ≤ d) (hx : jR B SA (d - 1) k' 0 (lv_args 0 (.ref b :: [a1])) [] μ none μ1) (hc : jCats rest ≤ 8) (hm : (jmi k').2.2.1 = N) (ha : jCats (.ref b :: [a1]) ≤ N) (kk : jR B SA d k pc' L rest μ1 o μ') : jR B SA d k pc L (a1 :: .ref b :: rest) μ o μ' := jr_callV6 hG hb (by simp) rfl rfl hd hc hm ha hx kk
theorem jr_V7v_1 {n ci k' N b : Nat} {a1 : Value} {rest : List Value} {μ1 : JMem} (hG : jG k pc (.invokevirtual n) [7, 1, ci, k'] v pc') (hb : jobC ci (μ.1 b) = true) (hd : 1 ≤ d) (hx : jR B SA (d - 1) k' 0 (lv_args 0 (.ref b :: [a1])) [] μ none μ1) (hc : jCats rest ≤ 8) (hm : (jmi k').2.2.1 = N) (ha : jCats (.ref b :: [a1]) ≤ N) (kk : jR B SA d k pc' L rest μ1 o μ') : jR B SA d k pc L (a1 :: .ref b :: rest) μ o μ' := jr_callV7 hG hb (by simp) rfl rfl hd hc hm ha hx kk
theorem jr_V8av_1 {n c1 k1 c2 k2 N b : Nat} {a1 : Value} {rest : List Value} {μ1 : JMem} (hG : jG k pc (.invokevirtual n) [8, 1, c1, k1, c2, k2] v pc') (hb : jobC c1 (μ.1 b) = true) (hd : 1 ≤ d) (hx : jR B SA (d - 1) k1 0 (lv_args 0 (.ref b :: [a1])) [] μ none μ1) (hc : jCats rest ≤ 8) (hm : (jmi k1).2.2.1 = N) (ha : jCats (.ref b :: [a1]) ≤ N) (kk : jR B SA d k pc' L rest μ1 o μ') : jR B SA d k pc L (a1 :: .ref b :: rest) μ o μ' := jr_callV8a hG hb (by simp) rfl rfl hd hc hm ha hx kk
theorem jr_V8bv_1 {n c1 k1 c2 k2 N b : Nat} {a1 : Value} {rest : List Value} {μ1 : JMem} (hG : jG k pc (.invokevirtual n) [8, 1, c1, k1, c2, k2] v pc') (hb0 : ¬ jobC c1 (μ.1 b) = true) (hb : jobC c2 (μ.1 b) = true) (hd : 1 ≤ d) (hx : jR B SA (d - 1) k2 0 (lv_args 0 (.ref b :: [a1])) [] μ none μ1) (hc : jCats rest ≤ 8) (hm : (jmi k2).2.2.1 = N) (ha : jCats (.ref b :: [a1]) ≤ N) (kk : jR B SA d k pc' L rest μ1 o μ') : jR B SA d k pc L (a1 :: .ref b :: rest) μ o μ' := jr_callV8b hG hb0 hb (by simp) rfl rfl hd hc hm ha hx kk
theorem jr_V9av_1 {n c1 k1 c2 k2 N b : Nat} {a1 : Value} {rest : List Value} {μ1 : JMem} (hG : jG k pc (.invokevirtual n) [9, 1, c1, k1, c2, k2] v pc') (hb : jobC c1 (μ.1 b) = true) (hd : 1 ≤ d) (hx : jR B SA (d - 1) k1 0 (lv_args 0 (.ref b :: [a1])) [] μ none μ1) (hc : jCats rest ≤ 8) (hm : (jmi k1).2.2.1 = N) (ha : jCats (.ref b :: [a1]) ≤ N) (kk : jR B SA d k pc' L rest μ1 o μ') : jR B SA d k pc L (a1 :: .ref b :: rest) μ o μ' := jr_callV9a hG hb (by simp) rfl rfl hd hc hm ha hx kk
theorem jr_V9bv_1 {n c1 k1 c2 k2 N b : Nat} {a1 : Value} {rest : List Value} {μ1 : JMem} (hG : jG k pc (.invokevirtual n) [9, 1, c1, k1, c2, k2] v pc') (hb0 : ¬ jobC c1 (μ.1 b) = true) (hb : jobC c2 (μ.1 b) = true) (hd : 1 ≤ d) (hx : jR B SA (d - 1) k2 0 (lv_args 0 (.ref b :: [a1])) [] μ none μ1) (hc : jCats rest ≤ 8) (hm : (jmi k2).2.2.1 = N) (ha : jCats (.ref b :: [a1]) ≤ N) (kk : jR B SA d k pc' L rest μ1 o μ') : jR B SA d k pc L (a1 :: .ref b :: rest) μ o μ' := jr_callV9b hG hb0 hb (by simp) rfl rfl hd hc hm ha hx kk
theorem jr_S3_2 {n k' N : Nat} {a1 a2 : Value} {w : Value} {rest : List Value} {μ1 : JMem} (hG : jG k pc (.invokestatic n) [3, k', 2] v pc') (hd : 1 ≤ d) (hx : jR B SA (d - 1) k' 0 (lv_args 0 [a1, a2]) [] μ (some w) μ1) (hc : jCats rest ≤ 8) (hm : (jmi k').2.2.1 = N) (ha : jCats [a1, a2] ≤ N) (kk : jR B SA d k pc' L (w :: rest) μ1 o μ') : jR B SA d k pc L (a2 :: a1 :: rest) μ o μ' := jr_callS3 hG (by simp) rfl rfl hd hc hm ha hx kk
theorem jr_S5_2 {n k' N : Nat} {a1 a2 : Value} {w : Value} {rest : List Value} {μ1 : JMem} (hG : jG k pc (.invokestatic n) [5, k', 2] v pc') (hd : 1 ≤ d) (hx : jR B SA (d - 1) k' 0 (lv_args 0 [a1, a2]) [] μ (some w) μ1) (hc : jCats rest ≤ 8) (hm : (jmi k').2.2.1 = N) (ha : jCats [a1, a2] ≤ N) (kk : jR B SA d k pc' L (w :: rest) μ1 o μ') : jR B SA d k pc L (a2 :: a1 :: rest) μ o μ' := jr_callS5 hG (by simp) rfl rfl hd hc hm ha hx kk
theorem jr_P1_2 {n k' N b : Nat} {a1 a2 : Value} {w : Value} {rest : List Value} {μ1 : JMem} (hG : jG k pc (.invokespecial n) [1, k', 2] v pc') (hd : 1 ≤ d) (hx : jR B SA (d - 1) k' 0 (lv_args 0 (.ref b :: [a1, a2])) [] μ (some w) μ1) (hc : jCats rest ≤ 8) (hm : (jmi k').2.2.1 = N) (ha : jCats (.ref b :: [a1, a2]) ≤ N) (kk : jR B SA d k pc' L (w :: rest) μ1 o μ') : jR B SA d k pc L (a2 :: a1 :: .ref b :: rest) μ o μ' := jr_callP1 hG (by simp) rfl rfl hd hc hm ha hx kk
theorem jr_P2_2 {n k' N b : Nat} {a1 a2 : Value} {w : Value} {rest : List Value} {μ1 : JMem} (hG : jG k pc (.invokespecial n) [2, k', 2] v pc') (hd : 1 ≤ d) (hx : jR B SA (d - 1) k' 0 (lv_args 0 (.ref b :: [a1, a2])) [] μ (some w) μ1) (hc : jCats rest ≤ 8) (hm : (jmi k').2.2.1 = N) (ha : jCats (.ref b :: [a1, a2]) ≤ N) (kk : jR B SA d k pc' L (w :: rest) μ1 o μ') : jR B SA d k pc L (a2 :: a1 :: .ref b :: rest) μ o μ' := jr_callP2 hG (by simp) rfl rfl hd hc hm ha hx kk
theorem jr_V6_2 {n ci k' N b : Nat} {a1 a2 : Value} {w : Value} {rest : List Value} {μ1 : JMem} (hG : jG k pc (.invokevirtual n) [6, 2, ci, k'] v pc') (hb : jobC ci (μ.1 b) = true) (hd : 1 ≤ d) (hx : jR B SA (d - 1) k' 0 (lv_args 0 (.ref b :: [a1, a2])) [] μ (some w) μ1) (hc : jCats rest ≤ 8) (hm : (jmi k').2.2.1 = N) (ha : jCats (.ref b :: [a1, a2]) ≤ N) (kk : jR B SA d k pc' L (w :: rest) μ1 o μ') : jR B SA d k pc L (a2 :: a1 :: .ref b :: rest) μ o μ' := jr_callV6 hG hb (by simp) rfl rfl hd hc hm ha hx kk
theorem jr_V7_2 {n ci k' N b : Nat} {a1 a2 : Value} {w : Value} {rest : List Value} {μ1 : JMem} (hG : jG k pc (.invokevirtual n) [7, 2, ci, k'] v pc') (hb : jobC ci (μ.1 b) = true) (hd : 1 ≤ d) (hx : jR B SA (d - 1) k' 0 (lv_args 0 (.ref b :: [a1, a2])) [] μ (some w) μ1) (hc : jCats rest ≤ 8) (hm : (jmi k').2.2.1 = N) (ha : jCats (.ref b :: [a1, a2]) ≤ N) (kk : jR B SA d k pc' L (w :: rest) μ1 o μ') : jR B SA d k pc L (a2 :: a1 :: .ref b :: rest) μ o μ' := jr_callV7 hG hb (by simp) rfl rfl hd hc hm ha hx kk
theorem jr_V8a_2 {n c1 k1 c2 k2 N b : Nat} {a1 a2 : Value} {w : Value} {rest : List Value} {μ1 : JMem} (hG : jG k pc (.invokevirtual n) [8, 2, c1, k1, c2, k2] v pc') (hb : jobC c1 (μ.1 b) = true) (hd : 1 ≤ d) (hx : jR B SA (d - 1) k1 0 (lv_args 0 (.ref b :: [a1, a2])) [] μ (some w) μ1) (hc : jCats rest ≤ 8) (hm : (jmi k1).2.2.1 = N) (ha : jCats (.ref b :: [a1, a2]) ≤ N) (kk : jR B SA d k pc' L (w :: rest) μ1 o μ') : jR B SA d k pc L (a2 :: a1 :: .ref b :: rest) μ o μ' := jr_callV8a hG hb (by simp) rfl rfl hd hc hm ha hx kk
theorem jr_V8b_2 {n c1 k1 c2 k2 N b : Nat} {a1 a2 : Value} {w : Value} {rest : List Value} {μ1 : JMem} (hG : jG k pc (.invokevirtual n) [8, 2, c1, k1, c2, k2] v pc') (hb0 : ¬ jobC c1 (μ.1 b) = true) (hb : jobC c2 (μ.1 b) = true) (hd : 1 ≤ d) (hx : jR B SA (d - 1) k2 0 (lv_args 0 (.ref b :: [a1, a2])) [] μ (some w) μ1) (hc : jCats rest ≤ 8) (hm : (jmi k2).2.2.1 = N) (ha : jCats (.ref b :: [a1, a2]) ≤ N) (kk : jR B SA d k pc' L (w :: rest) μ1 o μ') : jR B SA d k pc L (a2 :: a1 :: .ref b :: rest) μ o μ' := jr_callV8b hG hb0 hb (by simp) rfl rfl hd hc hm ha hx kk
theorem jr_V9a_2 {n c1 k1 c2 k2 N b : Nat} {a1 a2 : Value} {w : Value} {rest : List Value} {μ1 : JMem} (hG : jG k pc (.invokevirtual n) [9, 2, c1, k1, c2, k2] v pc') (hb : jobC c1 (μ.1 b) = true) (hd : 1 ≤ d) (hx : jR B SA (d - 1) k1 0 (lv_args 0 (.ref b :: [a1, a2])) [] μ (some w) μ1) (hc : jCats rest ≤ 8) (hm : (jmi k1).2.2.1 = N) (ha : jCats (.ref b :: [a1, a2]) ≤ N) (kk : jR B SA d k pc' L (w :: rest) μ1 o μ') : jR B SA d k pc L (a2 :: a1 :: .ref b :: rest) μ o μ' := jr_callV9a hG hb (by simp) rfl rfl hd hc hm ha hx kk
theorem jr_V9b_2 {n c1 k1 c2 k2 N b : Nat} {a1 a2 : Value} {w : Value} {rest : List Value} {μ1 : JMem} (hG : jG k pc (.invokevirtual n) [9, 2, c1, k1, c2, k2] v pc') (hb0 : ¬ jobC c1 (μ.1 b) = true) (hb : jobC c2 (μ.1 b) = true) (hd : 1 ≤ d) (hx : jR B SA (d - 1) k2 0 (lv_args 0 (.ref b :: [a1, a2])) [] μ (some w) μ1) (hc : jCats rest ≤ 8) (hm : (jmi k2).2.2.1 = N) (ha : jCats (.ref b :: [a1, a2]) ≤ N) (kk : jR B SA d k pc' L (w :: rest) μ1 o μ') : jR B SA d k pc L (a2 :: a1 :: .ref b :: rest) μ o μ' := jr_callV9b hG hb0 hb (by simp) rfl rfl hd hc hm ha hx kk
theorem jr_S3v_2 {n k' N : Nat} {a1 a2 : Value} {rest : List Value} {μ1 : JMem} (hG : jG k pc (.invokestatic n) [3, k', 2] v pc') (hd : 1 ≤ d) (hx : jR B SA (d - 1) k' 0 (lv_args 0 [a1, a2]) [] μ none μ1) (hc : jCats rest ≤ 8) (hm : (jmi k').2.2.1 = N) (ha : jCats [a1, a2] ≤ N) (kk : jR B SA d k pc' L rest μ1 o μ') : jR B SA d k pc L (a2 :: a1 :: rest) μ o μ' := jr_callS3 hG (by simp) rfl rfl hd hc hm ha hx kk
theorem jr_S5v_2 {n k' N : Nat} {a1 a2 : Value} {rest : List Value} {μ1 : JMem} (hG : jG k pc (.invokestatic n) [5, k', 2] v pc') (hd : 1 ≤ d) (hx : jR B SA (d - 1) k' 0 (lv_args 0 [a1, a2]) [] μ none μ1) (hc : jCats rest ≤ 8) (hm : (jmi k').2.2.1 = N) (ha : jCats [a1, a2] ≤ N) (kk : jR B SA d k pc' L rest μ1 o μ') : jR B SA d k pc L (a2 :: a1 :: rest) μ o μ' := jr_callS5 hG (by simp) rfl rfl hd hc hm ha hx kk
theorem jr_P1v_2 {n k' N b : Nat} {a1 a2 : Value} {rest : List Value} {μ1 : JMem} (hG : jG k pc (.invokespecial n) [1, k', 2] v pc') (hd : 1 ≤ d) (hx : jR B SA (d - 1) k' 0 (lv_args 0 (.ref b :: [a1, a2])) [] μ none μ1) (hc : jCats rest ≤ 8) (hm : (jmi k').2.2.1 = N) (ha : jCats (.ref b :: [a1, a2]) ≤ N) (kk : jR B SA d k pc' L rest μ1 o μ') : jR B SA d k pc L (a2 :: a1 :: .ref b :: rest) μ o μ' := jr_callP1 hG (by simp) rfl rfl hd hc hm ha hx kk
theorem jr_P2v_2 {n k' N b : Nat} {a1 a2 : Value} {rest : List Value} {μ1 : JMem} (hG : jG k pc (.invokespecial n) [2, k', 2] v pc') (hd : 1 ≤ d) (hx : jR B SA (d - 1) k' 0 (lv_args 0 (.ref b :: [a1, a2])) [] μ none μ1) (hc : jCats rest ≤ 8) (hm : (jmi k').2.2.1 = N) (ha : jCats (.ref b :: [a1, a2]) ≤ N) (kk : jR B SA d k pc' L rest μ1 o μ') : jR B SA d k pc L (a2 :: a1 :: .ref b :: rest) μ o μ' := jr_callP2 hG (by simp) rfl rfl hd hc hm ha hx kk
theorem jr_V6v_2 {n ci k' N b : Nat} {a1 a2 : Value} {rest : List Value} {μ1 : JMem} (hG : jG k pc (.invokevirtual n) [6, 2, ci, k'] v pc') (hb : jobC ci (μ.1 b) = true) (hd : 1 ≤ d) (hx : jR B SA (d - 1) k' 0 (lv_args 0 (.ref b :: [a1, a2])) [] μ none μ1) (hc : jCats rest ≤ 8) (hm : (jmi k').2.2.1 = N) (ha : jCats (.ref b :: [a1, a2]) ≤ N) (kk : jR B SA d k pc' L rest μ1 o μ') : jR B SA d k pc L (a2 :: a1 :: .ref b :: rest) μ o μ' := jr_callV6 hG hb (by simp) rfl rfl hd hc hm ha hx kk
theorem jr_V7v_2 {n ci k' N b : Nat} {a1 a2 : Value} {rest : List Value} {μ1 : JMem} (hG : jG k pc (.invokevirtual n) [7, 2, ci, k'] v pc') (hb : jobC ci (μ.1 b) = true) (hd : 1 ≤ d) (hx : jR B SA (d - 1) k' 0 (lv_args 0 (.ref b :: [a1, a2])) [] μ none μ1) (hc : jCats rest ≤ 8) (hm : (jmi k').2.2.1 = N) (ha : jCats (.ref b :: [a1, a2]) ≤ N) (kk : jR B SA d k pc' L rest μ1 o μ') : jR B SA d k pc L (a2 :: a1 :: .ref b :: rest) μ o μ' := jr_callV7 hG hb (by simp) rfl rfl hd hc hm ha hx kk
theorem jr_V8av_2 {n c1 k1 c2 k2 N b : Nat} {a1 a2 : Value} {rest : List Value} {μ1 : JMem} (hG : jG k pc (.invokevirtual n) [8, 2, c1, k1, c2, k2] v pc') (hb : jobC c1 (μ.1 b) = true) (hd : 1 ≤ d) (hx : jR B SA (d - 1) k1 0 (lv_args 0 (.ref b :: [a1, a2])) [] μ none μ1) (hc : jCats rest ≤ 8) (hm : (jmi k1).2.2.1 = N) (ha : jCats (.ref b :: [a1, a2]) ≤ N) (kk : jR B SA d k pc' L rest μ1 o μ') : jR B SA d k pc L (a2 :: a1 :: .ref b :: rest) μ o μ' := jr_callV8a hG hb (by simp) rfl rfl hd hc hm ha hx kk
theorem jr_V8bv_2 {n c1 k1 c2 k2 N b : Nat} {a1 a2 : Value} {rest : List Value} {μ1 : JMem} (hG : jG k pc (.invokevirtual n) [8, 2, c1, k1, c2, k2] v pc') (hb0 : ¬ jobC c1 (μ.1 b) = true) (hb : jobC c2 (μ.1 b) = true) (hd : 1 ≤ d) (hx : jR B SA (d - 1) k2 0 (lv_args 0 (.ref b :: [a1, a2])) [] μ none μ1) (hc : jCats rest ≤ 8) (hm : (jmi k2).2.2.1 = N) (ha : jCats (.ref b :: [a1, a2]) ≤ N) (kk : jR B SA d k pc' L rest μ1 o μ') : jR B SA d k pc L (a2 :: a1 :: .ref b :: rest) μ o μ' := jr_callV8b hG hb0 hb (by simp) rfl rfl hd hc hm ha hx kk
theorem jr_V9av_2 {n c1 k1 c2 k2 N b : Nat} {a1 a2 : Value} {rest : List Value} {μ1 : JMem} (hG : jG k pc (.invokevirtual n) [9, 2, c1, k1, c2, k2] v pc') (hb : jobC c1 (μ.1 b) = true) (hd : 1 ≤ d) (hx : jR B SA (d - 1) k1 0 (lv_args 0 (.ref b :: [a1, a2])) [] μ none μ1) (hc : jCats rest ≤ 8) (hm : (jmi k1).2.2.1 = N) (ha : jCats (.ref b :: [a1, a2]) ≤ N) (kk : jR B SA d k pc' L rest μ1 o μ') : jR B SA d k pc L (a2 :: a1 :: .ref b :: rest) μ o μ' := jr_callV9a hG hb (by simp) rfl rfl hd hc hm ha hx kk
theorem jr_V9bv_2 {n c1 k1 c2 k2 N b : Nat} {a1 a2 : Value} {rest : List Value} {μ1 : JMem} (hG : jG k pc (.invokevirtual n) [9, 2, c1, k1, c2, k2] v pc') (hb0 : ¬ jobC c1 (μ.1 b) = true) (hb : jobC c2 (μ.1 b) = true) (hd : 1 ≤ d) (hx : jR B SA (d - 1) k2 0 (lv_args 0 (.ref b :: [a1, a2])) [] μ none μ1) (hc : jCats rest ≤ 8) (hm : (jmi k2).2.2.1 = N) (ha : jCats (.ref b :: [a1, a2]) ≤ N) (kk : jR B SA d k pc' L rest μ1 o μ') : jR B SA d k pc L (a2 :: a1 :: .ref b :: rest) μ o μ' := jr_callV9b hG hb0 hb (by simp) rfl rfl hd hc hm ha hx kk
theorem jr_S3_3 {n k' N : Nat} {a1 a2 a3 : Value} {w : Value} {rest : List Value} {μ1 : JMem} (hG : jG k pc (.invokestatic n) [3, k', 3] v pc') (hd : 1 ≤ d) (hx : jR B SA (d - 1) k' 0 (lv_args 0 [a1, a2, a3]) [] μ (some w) μ1) (hc : jCats rest ≤ 8) (hm : (jmi k').2.2.1 = N) (ha : jCats [a1, a2, a3] ≤ N) (kk : jR B SA d k pc' L (w :: rest) μ1 o μ') : jR B SA d k pc L (a3 :: a2 :: a1 :: rest) μ o μ' := jr_callS3 hG (by simp) rfl rfl hd hc hm ha hx kk
theorem jr_S5_3 {n k' N : Nat} {a1 a2 a3 : Value} {w : Value} {rest : List Value} {μ1 : JMem} (hG : jG k pc (.invokestatic n) [5, k', 3] v pc') (hd : 1 ≤ d) (hx : jR B SA (d - 1) k' 0 (lv_args 0 [a1, a2, a3]) [] μ (some w) μ1) (hc : jCats rest ≤ 8) (hm : (jmi k').2.2.1 = N) (ha : jCats [a1, a2, a3] ≤ N) (kk : jR B SA d k pc' L (w :: rest) μ1 o μ') : jR B SA d k pc L (a3 :: a2 :: a1 :: rest) μ o μ' := jr_callS5 hG (by simp) rfl rfl hd hc hm ha hx kk
theorem jr_P1_3 {n k' N b : Nat} {a1 a2 a3 : Value} {w : Value} {rest : List Value} {μ1 : JMem} (hG : jG k pc (.invokespecial n) [1, k', 3] v pc') (hd : 1 ≤ d) (hx : jR B SA (d - 1) k' 0 (lv_args 0 (.ref b :: [a1, a2, a3])) [] μ (some w) μ1) (hc : jCats rest ≤ 8) (hm : (jmi k').2.2.1 = N) (ha : jCats (.ref b :: [a1, a2, a3]) ≤ N) (kk : jR B SA d k pc' L (w :: rest) μ1 o μ') : jR B SA d k pc L (a3 :: a2 :: a1 :: .ref b :: rest) μ o μ' := jr_callP1 hG (by simp) rfl rfl hd hc hm ha hx kk
theorem jr_P2_3 {n k' N b : Nat} {a1 a2 a3 : Value} {w : Value} {rest : List Value} {μ1 : JMem} (hG : jG k pc (.invokespecial n) [2, k', 3] v pc') (hd : 1 ≤ d) (hx : jR B SA (d - 1) k' 0 (lv_args 0 (.ref b :: [a1, a2, a3])) [] μ (some w) μ1) (hc : jCats rest ≤ 8) (hm : (jmi k').2.2.1 = N) (ha : jCats (.ref b :: [a1, a2, a3]) ≤ N) (kk : jR B SA d k pc' L (w :: rest) μ1 o μ') : jR B SA d k pc L (a3 :: a2 :: a1 :: .ref b :: rest) μ o μ' := jr_callP2 hG (by simp) rfl rfl hd hc hm ha hx kk
theorem jr_V6_3 {n ci k' N b : Nat} {a1 a2 a3 : Value} {w : Value} {rest : List Value} {μ1 : JMem} (hG : jG k pc (.invokevirtual n) [6, 3, ci, k'] v pc') (hb : jobC ci (μ.1 b) = true) (hd : 1 ≤ d) (hx : jR B SA (d - 1) k' 0 (lv_args 0 (.ref b :: [a1, a2, a3])) [] μ (some w) μ1) (hc : jCats rest ≤ 8) (hm : (jmi k').2.2.1 = N) (ha : jCats (.ref b :: [a1, a2, a3]) ≤ N) (kk : jR B SA d k pc' L (w :: rest) μ1 o μ') : jR B SA d k pc L (a3 :: a2 :: a1 :: .ref b :: rest) μ o μ' := jr_callV6 hG hb (by simp) rfl rfl hd hc hm ha hx kk
theorem jr_V7_3 {n ci k' N b : Nat} {a1 a2 a3 : Value} {w : Value} {rest : List Value} {μ1 : JMem} (hG : jG k pc (.invokevirtual n) [7, 3, ci, k'] v pc') (hb : jobC ci (μ.1 b) = true) (hd : 1 ≤ d) (hx : jR B SA (d - 1) k' 0 (lv_args 0 (.ref b :: [a1, a2, a3])) [] μ (some w) μ1) (hc : jCats rest ≤ 8) (hm : (jmi k').2.2.1 = N) (ha : jCats (.ref b :: [a1, a2, a3]) ≤ N) (kk : jR B SA d k pc' L (w :: rest) μ1 o μ') : jR B SA d k pc L (a3 :: a2 :: a1 :: .ref b :: rest) μ o μ' := jr_callV7 hG hb (by simp) rfl rfl hd hc hm ha hx kk
theorem jr_V8a_3 {n c1 k1 c2 k2 N b : Nat} {a1 a2 a3 : Value} {w : Value} {rest : List Value} {μ1 : JMem} (hG : jG k pc (.invokevirtual n) [8, 3, c1, k1, c2, k2] v pc') (hb : jobC c1 (μ.1 b) = true) (hd : 1 ≤ d) (hx : jR B SA (d - 1) k1 0 (lv_args 0 (.ref b :: [a1, a2, a3])) [] μ (some w) μ1) (hc : jCats rest ≤ 8) (hm : (jmi k1).2.2.1 = N) (ha : jCats (.ref b :: [a1, a2, a3]) ≤ N) (kk : jR B SA d k pc' L (w :: rest) μ1 o μ') : jR B SA d k pc L (a3 :: a2 :: a1 :: .ref b :: rest) μ o μ' := jr_callV8a hG hb (by simp) rfl rfl hd hc hm ha hx kk
theorem jr_V8b_3 {n c1 k1 c2 k2 N b : Nat} {a1 a2 a3 : Value} {w : Value} {rest : List Value} {μ1 : JMem} (hG : jG k pc (.invokevirtual n) [8, 3, c1, k1, c2, k2] v pc') (hb0 : ¬ jobC c1 (μ.1 b) = true) (hb : jobC c2 (μ.1 b) = true) (hd : 1 ≤ d) (hx : jR B SA (d - 1) k2 0 (lv_args 0 (.ref b :: [a1, a2, a3])) [] μ (some w) μ1) (hc : jCats rest ≤ 8) (hm : (jmi k2).2.2.1 = N) (ha : jCats (.ref b :: [a1, a2, a3]) ≤ N) (kk : jR B SA d k pc' L (w :: rest) μ1 o μ') : jR B SA d k pc L (a3 :: a2 :: a1 :: .ref b :: rest) μ o μ' := jr_callV8b hG hb0 hb (by simp) rfl rfl hd hc hm ha hx kk
theorem jr_V9a_3 {n c1 k1 c2 k2 N b : Nat} {a1 a2 a3 : Value} {w : Value} {rest : List Value} {μ1 : JMem} (hG : jG k pc (.invokevirtual n) [9, 3, c1, k1, c2, k2] v pc') (hb : jobC c1 (μ.1 b) = true) (hd : 1 ≤ d) (hx : jR B SA (d - 1) k1 0 (lv_args 0 (.ref b :: [a1, a2, a3])) [] μ (some w) μ1) (hc : jCats rest ≤ 8) (hm : (jmi k1).2.2.1 = N) (ha : jCats (.ref b :: [a1, a2, a3]) ≤ N) (kk : jR B SA d k pc' L (w :: rest) μ1 o μ') : jR B SA d k pc L (a3 :: a2 :: a1 :: .ref b :: rest) μ o μ' := jr_callV9a hG hb (by simp) rfl rfl hd hc hm ha hx kk
theorem jr_V9b_3 {n c1 k1 c2 k2 N b : Nat} {a1 a2 a3 : Value} {w : Value} {rest : List Value} {μ1 : JMem} (hG : jG k pc (.invokevirtual n) [9, 3, c1, k1, c2, k2] v pc') (hb0 : ¬ jobC c1 (μ.1 b) = true) (hb : jobC c2 (μ.1 b) = true) (hd : 1 ≤ d) (hx : jR B SA (d - 1) k2 0 (lv_args 0 (.ref b :: [a1, a2, a3])) [] μ (some w) μ1) (hc : jCats rest ≤ 8) (hm : (jmi k2).2.2.1 = N) (ha : jCats (.ref b :: [a1, a2, a3]) ≤ N) (kk : jR B SA d k pc' L (w :: rest) μ1 o μ') : jR B SA d k pc L (a3 :: a2 :: a1 :: .ref b :: rest) μ o μ' := jr_callV9b hG hb0 hb (by simp) rfl rfl hd hc hm ha hx kk
theorem jr_S3v_3 {n k' N : Nat} {a1 a2 a3 : Value} {rest : List Value} {μ1 : JMem} (hG : jG k pc (.invokestatic n) [3, k', 3] v pc') (hd : 1 ≤ d) (hx : jR B SA (d - 1) k' 0 (lv_args 0 [a1, a2, a3]) [] μ none μ1) (hc : jCats rest ≤ 8) (hm : (jmi k').2.2.1 = N) (ha : jCats [a1, a2, a3] ≤ N) (kk : jR B SA d k pc' L rest μ1 o μ') : jR B SA d k pc L (a3 :: a2 :: a1 :: rest) μ o μ' := jr_callS3 hG (by simp) rfl rfl hd hc hm ha hx kk
theorem jr_S5v_3 {n k' N : Nat} {a1 a2 a3 : Value} {rest : List Value} {μ1 : JMem} (hG : jG k pc (.invokestatic n) [5, k', 3] v pc') (hd : 1 ≤ d) (hx : jR B SA (d - 1) k' 0 (lv_args 0 [a1, a2, a3]) [] μ none μ1) (hc : jCats rest ≤ 8) (hm : (jmi k').2.2.1 = N) (ha : jCats [a1, a2, a3] ≤ N) (kk : jR B SA d k pc' L rest μ1 o μ') : jR B SA d k pc L (a3 :: a2 :: a1 :: rest) μ o μ' := jr_callS5 hG (by simp) rfl rfl hd hc hm ha hx kk
theorem jr_P1v_3 {n k' N b : Nat} {a1 a2 a3 : Value} {rest : List Value} {μ1 : JMem} (hG : jG k pc (.invokespecial n) [1, k', 3] v pc') (hd : 1 ≤ d) (hx : jR B SA (d - 1) k' 0 (lv_args 0 (.ref b :: [a1, a2, a3])) [] μ none μ1) (hc : jCats rest ≤ 8) (hm : (jmi k').2.2.1 = N) (ha : jCats (.ref b :: [a1, a2, a3]) ≤ N) (kk : jR B SA d k pc' L rest μ1 o μ') : jR B SA d k pc L (a3 :: a2 :: a1 :: .ref b :: rest) μ o μ' := jr_callP1 hG (by simp) rfl rfl hd hc hm ha hx kk
theorem jr_P2v_3 {n k' N b : Nat} {a1 a2 a3 : Value} {rest : List Value} {μ1 : JMem} (hG : jG k pc (.invokespecial n) [2, k', 3] v pc') (hd : 1 ≤ d) (hx : jR B SA (d - 1) k' 0 (lv_args 0 (.ref b :: [a1, a2, a3])) [] μ none μ1) (hc : jCats rest ≤ 8) (hm : (jmi k').2.2.1 = N) (ha : jCats (.ref b :: [a1, a2, a3]) ≤ N) (kk : jR B SA d k pc' L rest μ1 o μ') : jR B SA d k pc L (a3 :: a2 :: a1 :: .ref b :: rest) μ o μ' := jr_callP2 hG (by simp) rfl rfl hd hc hm ha hx kk
theorem jr_V6v_3 {n ci k' N b : Nat} {a1 a2 a3 : Value} {rest : List Value} {μ1 : JMem} (hG : jG k pc (.invokevirtual n) [6, 3, ci, k'] v pc') (hb : jobC ci (μ.1 b) = true) (hd : 1 ≤ d) (hx : jR B SA (d - 1) k' 0 (lv_args 0 (.ref b :: [a1, a2, a3])) [] μ none μ1) (hc : jCats rest ≤ 8) (hm : (jmi k').2.2.1 = N) (ha : jCats (.ref b :: [a1, a2, a3]) ≤ N) (kk : jR B SA d k pc' L rest μ1 o μ') : jR B SA d k pc L (a3 :: a2 :: a1 :: .ref b :: rest) μ o μ' := jr_callV6 hG hb (by simp) rfl rfl hd hc hm ha hx kk
theorem jr_V7v_3 {n ci k' N b : Nat} {a1 a2 a3 : Value} {rest : List Value} {μ1 : JMem} (hG : jG k pc (.invokevirtual n) [7, 3, ci, k'] v pc') (hb : jobC ci (μ.1 b) = true) (hd : 1 ≤ d) (hx : jR B SA (d - 1) k' 0 (lv_args 0 (.ref b :: [a1, a2, a3])) [] μ none μ1) (hc : jCats rest ≤ 8) (hm : (jmi k').2.2.1 = N) (ha : jCats (.ref b :: [a1, a2, a3]) ≤ N) (kk : jR B SA d k pc' L rest μ1 o μ') : jR B SA d k pc L (a3 :: a2 :: a1 :: .ref b :: rest) μ o μ' := jr_callV7 hG hb (by simp) rfl rfl hd hc hm ha hx kk
theorem jr_V8av_3 {n c1 k1 c2 k2 N b : Nat} {a1 a2 a3 : Value} {rest : List Value} {μ1 : JMem} (hG : jG k pc (.invokevirtual n) [8, 3, c1, k1, c2, k2] v pc') (hb : jobC c1 (μ.1 b) = true) (hd : 1 ≤ d) (hx : jR B SA (d - 1) k1 0 (lv_args 0 (.ref b :: [a1, a2, a3])) [] μ none μ1) (hc : jCats rest ≤ 8) (hm : (jmi k1).2.2.1 = N) (ha : jCats (.ref b :: [a1, a2, a3]) ≤ N) (kk : jR B SA d k pc' L rest μ1 o μ') : jR B SA d k pc L (a3 :: a2 :: a1 :: .ref b :: rest) μ o μ' := jr_callV8a hG hb (by simp) rfl rfl hd hc hm ha hx kk
theorem jr_V8bv_3 {n c1 k1 c2 k2 N b : Nat} {a1 a2 a3 : Value} {rest : List Value} {μ1 : JMem} (hG : jG k pc (.invokevirtual n) [8, 3, c1, k1, c2, k2] v pc') (hb0 : ¬ jobC c1 (μ.1 b) = true) (hb : jobC c2 (μ.1 b) = true) (hd : 1 ≤ d) (hx : jR B SA (d - 1) k2 0 (lv_args 0 (.ref b :: [a1, a2, a3])) [] μ none μ1) (hc : jCats rest ≤ 8) (hm : (jmi k2).2.2.1 = N) (ha : jCats (.ref b :: [a1, a2, a3]) ≤ N) (kk : jR B SA d k pc' L rest μ1 o μ') : jR B SA d k pc L (a3 :: a2 :: a1 :: .ref b :: rest) μ o μ' := jr_callV8b hG hb0 hb (by simp) rfl rfl hd hc hm ha hx kk
theorem jr_V9av_3 {n c1 k1 c2 k2 N b : Nat} {a1 a2 a3 : Value} {rest : List Value} {μ1 : JMem} (hG : jG k pc (.invokevirtual n) [9, 3, c1, k1, c2, k2] v pc') (hb : jobC c1 (μ.1 b) = true) (hd : 1 ≤ d) (hx : jR B SA (d - 1) k1 0 (lv_args 0 (.ref b :: [a1, a2, a3])) [] μ none μ1) (hc : jCats rest ≤ 8) (hm : (jmi k1).2.2.1 = N) (ha : jCats (.ref b :: [a1, a2, a3]) ≤ N) (kk : jR B SA d k pc' L rest μ1 o μ') : jR B SA d k pc L (a3 :: a2 :: a1 :: .ref b :: rest) μ o μ' := jr_callV9a hG hb (by simp) rfl rfl hd hc hm ha hx kk
theorem jr_V9bv_3 {n c1 k1 c2 k2 N b : Nat} {a1 a2 a3 : Value} {rest : List Value} {μ1 : JMem} (hG : jG k pc (.invokevirtual n) [9, 3, c1, k1, c2, k2] v pc') (hb0 : ¬ jobC c1 (μ.1 b) = true) (hb : jobC c2 (μ.1 b) = true) (hd : 1 ≤ d) (hx : jR B SA (d - 1) k2 0 (lv_args 0 (.ref b :: [a1, a2, a3])) [] μ none μ1) (hc : jCats rest ≤ 8) (hm : (jmi k2).2.2.1 = N) (ha : jCats (.ref b :: [a1, a2, a3]) ≤ N) (kk : jR B SA d k pc' L rest μ1 o μ') : jR B SA d k pc L (a3 :: a2 :: a1 :: .ref b :: rest) μ o μ' := jr_callV9b hG hb0 hb (by simp) rfl rfl hd hc hm ha hx kk
theorem jr_S3_4 {n k' N : Nat} {a1 a2 a3 a4 : Value} {w : Value} {rest : List Value} {μ1 : JMem} (hG : jG k pc (.invokestatic n) [3, k', 4] v pc') (hd : 1 ≤ d) (hx : jR B SA (d - 1) k' 0 (lv_args 0 [a1, a2, a3, a4]) [] μ (some w) μ1) (hc : jCats rest ≤ 8) (hm : (jmi k').2.2.1 = N) (ha : jCats [a1, a2, a3, a4] ≤ N) (kk : jR B SA d k pc' L (w :: rest) μ1 o μ') : jR B SA d k pc L (a4 :: a3 :: a2 :: a1 :: rest) μ o μ' := jr_callS3 hG (by simp) rfl rfl hd hc hm ha hx kk
theorem jr_S5_4 {n k' N : Nat} {a1 a2 a3 a4 : Value} {w : Value} {rest : List Value} {μ1 : JMem} (hG : jG k pc (.invokestatic n) [5, k', 4] v pc') (hd : 1 ≤ d) (hx : jR B SA (d - 1) k' 0 (lv_args 0 [a1, a2, a3, a4]) [] μ (some w) μ1) (hc : jCats rest ≤ 8) (hm : (jmi k').2.2.1 = N) (ha : jCats [a1, a2, a3, a4] ≤ N) (kk : jR B SA d k pc' L (w :: rest) μ1 o μ') : jR B SA d k pc L (a4 :: a3 :: a2 :: a1 :: rest) μ o μ' := jr_callS5 hG (by simp) rfl rfl hd hc hm ha hx kk
theorem jr_P1_4 {n k' N b : Nat} {a1 a2 a3 a4 : Value} {w : Value} {rest : List Value} {μ1 : JMem} (hG : jG k pc (.invokespecial n) [1, k', 4] v pc') (hd : 1 ≤ d) (hx : jR B SA (d - 1) k' 0 (lv_args 0 (.ref b :: [a1, a2, a3, a4])) [] μ (some w) μ1) (hc : jCats rest ≤ 8) (hm : (jmi k').2.2.1 = N) (ha : jCats (.ref b :: [a1, a2, a3, a4]) ≤ N) (kk : jR B SA d k pc' L (w :: rest) μ1 o μ') : jR B SA d k pc L (a4 :: a3 :: a2 :: a1 :: .ref b :: rest) μ o μ' := jr_callP1 hG (by simp) rfl rfl hd hc hm ha hx kk
theorem jr_P2_4 {n k' N b : Nat} {a1 a2 a3 a4 : Value} {w : Value} {rest : List Value} {μ1 : JMem} (hG : jG k pc (.invokespecial n) [2, k', 4] v pc') (hd : 1 ≤ d) (hx : jR B SA (d - 1) k' 0 (lv_args 0 (.ref b :: [a1, a2, a3, a4])) [] μ (some w) μ1) (hc : jCats rest ≤ 8) (hm : (jmi k').2.2.1 = N) (ha : jCats (.ref b :: [a1, a2, a3, a4]) ≤ N) (kk : jR B SA d k pc' L (w :: rest) μ1 o μ') : jR B SA d k pc L (a4 :: a3 :: a2 :: a1 :: .ref b :: rest) μ o μ' := jr_callP2 hG (by simp) rfl rfl hd hc hm ha hx kk
theorem jr_V6_4 {n ci k' N b : Nat} {a1 a2 a3 a4 : Value} {w : Value} {rest : List Value} {μ1 : JMem} (hG : jG k pc (.invokevirtual n) [6, 4, ci, k'] v pc') (hb : jobC ci (μ.1 b) = true) (hd : 1 ≤ d) (hx : jR B SA (d - 1) k' 0 (lv_args 0 (.ref b :: [a1, a2, a3, a4])) [] μ (some w) μ1) (hc : jCats rest ≤ 8) (hm : (jmi k').2.2.1 = N) (ha : jCats (.ref b :: [a1, a2, a3, a4]) ≤ N) (kk : jR B SA d k pc' L (w :: rest) μ1 o μ') : jR B SA d k pc L (a4 :: a3 :: a2 :: a1 :: .ref b :: rest) μ o μ' := jr_callV6 hG hb (by simp) rfl rfl hd hc hm ha hx kk
theorem jr_V7_4 {n ci k' N b : Nat} {a1 a2 a3 a4 : Value} {w : Value} {rest : List Value} {μ1 : JMem} (hG : jG k pc (.invokevirtual n) [7, 4, ci, k'] v pc') (hb : jobC ci (μ.1 b) = true) (hd : 1 ≤ d) (hx : jR B SA (d - 1) k' 0 (lv_args 0 (.ref b :: [a1, a2, a3, a4])) [] μ (some w) μ1) (hc : jCats rest ≤ 8) (hm : (jmi k').2.2.1 = N) (ha : jCats (.ref b :: [a1, a2, a3, a4]) ≤ N) (kk : jR B SA d k pc' L (w :: rest) μ1 o μ') : jR B SA d k pc L (a4 :: a3 :: a2 :: a1 :: .ref b :: rest) μ o μ' := jr_callV7 hG hb (by simp) rfl rfl hd hc hm ha hx kk
theorem jr_V8a_4 {n c1 k1 c2 k2 N b : Nat} {a1 a2 a3 a4 : Value} {w : Value} {rest : List Value} {μ1 : JMem} (hG : jG k pc (.invokevirtual n) [8, 4, c1, k1, c2, k2] v pc') (hb : jobC c1 (μ.1 b) = true) (hd : 1 ≤ d) (hx : jR B SA (d - 1) k1 0 (lv_args 0 (.ref b :: [a1, a2, a3, a4])) [] μ (some w) μ1) (hc : jCats rest ≤ 8) (hm : (jmi k1).2.2.1 = N) (ha : jCats (.ref b :: [a1, a2, a3, a4]) ≤ N) (kk : jR B SA d k pc' L (w :: rest) μ1 o μ') : jR B SA d k pc L (a4 :: a3 :: a2 :: a1 :: .ref b :: rest) μ o μ' := jr_callV8a hG hb (by simp) rfl rfl hd hc hm ha hx kk
theorem jr_V8b_4 {n c1 k1 c2 k2 N b : Nat} {a1 a2 a3 a4 : Value} {w : Value} {rest : List Value} {μ1 : JMem} (hG : jG k pc (.invokevirtual n) [8, 4, c1, k1, c2, k2] v pc') (hb0 : ¬ jobC c1 (μ.1 b) = true) (hb : jobC c2 (μ.1 b) = true) (hd : 1 ≤ d) (hx : jR B SA (d - 1) k2 0 (lv_args 0 (.ref b :: [a1, a2, a3, a4])) [] μ (some w) μ1) (hc : jCats rest ≤ 8) (hm : (jmi k2).2.2.1 = N) (ha : jCats (.ref b :: [a1, a2, a3, a4]) ≤ N) (kk : jR B SA d k pc' L (w :: rest) μ1 o μ') : jR B SA d k pc L (a4 :: a3 :: a2 :: a1 :: .ref b :: rest) μ o μ' := jr_callV8b hG hb0 hb (by simp) rfl rfl hd hc hm ha hx kk
theorem jr_V9a_4 {n c1 k1 c2 k2 N b : Nat} {a1 a2 a3 a4 : Value} {w : Value} {rest : List Value} {μ1 : JMem} (hG : jG k pc (.invokevirtual n) [9, 4, c1, k1, c2, k2] v pc') (hb : jobC c1 (μ.1 b) = true) (hd : 1 ≤ d) (hx : jR B SA (d - 1) k1 0 (lv_args 0 (.ref b :: [a1, a2, a3, a4])) [] μ (some w) μ1) (hc : jCats rest ≤ 8) (hm : (jmi k1).2.2.1 = N) (ha : jCats (.ref b :: [a1, a2, a3, a4]) ≤ N) (kk : jR B SA d k pc' L (w :: rest) μ1 o μ') : jR B SA d k pc L (a4 :: a3 :: a2 :: a1 :: .ref b :: rest) μ o μ' := jr_callV9a hG hb (by simp) rfl rfl hd hc hm ha hx kk
theorem jr_V9b_4 {n c1 k1 c2 k2 N b : Nat} {a1 a2 a3 a4 : Value} {w : Value} {rest : List Value} {μ1 : JMem} (hG : jG k pc (.invokevirtual n) [9, 4, c1, k1, c2, k2] v pc') (hb0 : ¬ jobC c1 (μ.1 b) = true) (hb : jobC c2 (μ.1 b) = true) (hd : 1 ≤ d) (hx : jR B SA (d - 1) k2 0 (lv_args 0 (.ref b :: [a1, a2, a3, a4])) [] μ (some w) μ1) (hc : jCats rest ≤ 8) (hm : (jmi k2).2.2.1 = N) (ha : jCats (.ref b :: [a1, a2, a3, a4]) ≤ N) (kk : jR B SA d k pc' L (w :: rest) μ1 o μ') : jR B SA d k pc L (a4 :: a3 :: a2 :: a1 :: .ref b :: rest) μ o μ' := jr_callV9b hG hb0 hb (by simp) rfl rfl hd hc hm ha hx kk
theorem jr_S3v_4 {n k' N : Nat} {a1 a2 a3 a4 : Value} {rest : List Value} {μ1 : JMem} (hG : jG k pc (.invokestatic n) [3, k', 4] v pc') (hd : 1 ≤ d) (hx : jR B SA (d - 1) k' 0 (lv_args 0 [a1, a2, a3, a4]) [] μ none μ1) (hc : jCats rest ≤ 8) (hm : (jmi k').2.2.1 = N) (ha : jCats [a1, a2, a3, a4] ≤ N) (kk : jR B SA d k pc' L rest μ1 o μ') : jR B SA d k pc L (a4 :: a3 :: a2 :: a1 :: rest) μ o μ' := jr_callS3 hG (by simp) rfl rfl hd hc hm ha hx kk
theorem jr_S5v_4 {n k' N : Nat} {a1 a2 a3 a4 : Value} {rest : List Value} {μ1 : JMem} (hG : jG k pc (.invokestatic n) [5, k', 4] v pc') (hd : 1 ≤ d) (hx : jR B SA (d - 1) k' 0 (lv_args 0 [a1, a2, a3, a4]) [] μ none μ1) (hc : jCats rest ≤ 8) (hm : (jmi k').2.2.1 = N) (ha : jCats [a1, a2, a3, a4] ≤ N) (kk : jR B SA d k pc' L rest μ1 o μ') : jR B SA d k pc L (a4 :: a3 :: a2 :: a1 :: rest) μ o μ' := jr_callS5 hG (by simp) rfl rfl hd hc hm ha hx kk
theorem jr_P1v_4 {n k' N b : Nat} {a1 a2 a3 a4 : Value} {rest : List Value} {μ1 : JMem} (hG : jG k pc (.invokespecial n) [1, k', 4] v pc') (hd : 1 ≤ d) (hx : jR B SA (d - 1) k' 0 (lv_args 0 (.ref b :: [a1, a2, a3, a4])) [] μ none μ1) (hc : jCats rest ≤ 8) (hm : (jmi k').2.2.1 = N) (ha : jCats (.ref b :: [a1, a2, a3, a4]) ≤ N) (kk : jR B SA d k pc' L rest μ1 o μ') : jR B SA d k pc L (a4 :: a3 :: a2 :: a1 :: .ref b :: rest) μ o μ' := jr_callP1 hG (by simp) rfl rfl hd hc hm ha hx kk
theorem jr_P2v_4 {n k' N b : Nat} {a1 a2 a3 a4 : Value} {rest : List Value} {μ1 : JMem} (hG : jG k pc (.invokespecial n) [2, k', 4] v pc') (hd : 1 ≤ d) (hx : jR B SA (d - 1) k' 0 (lv_args 0 (.ref b :: [a1, a2, a3, a4])) [] μ none μ1) (hc : jCats rest ≤ 8) (hm : (jmi k').2.2.1 = N) (ha : jCats (.ref b :: [a1, a2, a3, a4]) ≤ N) (kk : jR B SA d k pc' L rest μ1 o μ') : jR B SA d k pc L (a4 :: a3 :: a2 :: a1 :: .ref b :: rest) μ o μ' := jr_callP2 hG (by simp) rfl rfl hd hc hm ha hx kk
theorem jr_V6v_4 {n ci k' N b : Nat} {a1 a2 a3 a4 : Value} {rest : List Value} {μ1 : JMem} (hG : jG k pc (.invokevirtual n) [6, 4, ci, k'] v pc') (hb : jobC ci (μ.1 b) = true) (hd : 1 ≤ d) (hx : jR B SA (d - 1) k' 0 (lv_args 0 (.ref b :: [a1, a2, a3, a4])) [] μ none μ1) (hc : jCats rest ≤ 8) (hm : (jmi k').2.2.1 = N) (ha : jCats (.ref b :: [a1, a2, a3, a4]) ≤ N) (kk : jR B SA d k pc' L rest μ1 o μ') : jR B SA d k pc L (a4 :: a3 :: a2 :: a1 :: .ref b :: rest) μ o μ' := jr_callV6 hG hb (by simp) rfl rfl hd hc hm ha hx kk
theorem jr_V7v_4 {n ci k' N b : Nat} {a1 a2 a3 a4 : Value} {rest : List Value} {μ1 : JMem} (hG : jG k pc (.invokevirtual n) [7, 4, ci, k'] v pc') (hb : jobC ci (μ.1 b) = true) (hd : 1 ≤ d) (hx : jR B SA (d - 1) k' 0 (lv_args 0 (.ref b :: [a1, a2, a3, a4])) [] μ none μ1) (hc : jCats rest ≤ 8) (hm : (jmi k').2.2.1 = N) (ha : jCats (.ref b :: [a1, a2, a3, a4]) ≤ N) (kk : jR B SA d k pc' L rest μ1 o μ') : jR B SA d k pc L (a4 :: a3 :: a2 :: a1 :: .ref b :: rest) μ o μ' := jr_callV7 hG hb (by simp) rfl rfl hd hc hm ha hx kk
theorem jr_V8av_4 {n c1 k1 c2 k2 N b : Nat} {a1 a2 a3 a4 : Value} {rest : List Value} {μ1 : JMem} (hG : jG k pc (.invokevirtual n) [8, 4, c1, k1, c2, k2] v pc') (hb : jobC c1 (μ.1 b) = true) (hd : 1 ≤ d) (hx : jR B SA (d - 1) k1 0 (lv_args 0 (.ref b :: [a1, a2, a3, a4])) [] μ none μ1) (hc : jCats rest ≤ 8) (hm : (jmi k1).2.2.1 = N) (ha : jCats (.ref b :: [a1, a2, a3, a4]) ≤ N) (kk : jR B SA d k pc' L rest μ1 o μ') : jR B SA d k pc L (a4 :: a3 :: a2 :: a1 :: .ref b :: rest) μ o μ' := jr_callV8a hG hb (by simp) rfl rfl hd hc hm ha hx kk
theorem jr_V8bv_4 {n c1 k1 c2 k2 N b : Nat} {a1 a2 a3 a4 : Value} {rest : List Value} {μ1 : JMem} (hG : jG k pc (.invokevirtual n) [8, 4, c1, k1, c2, k2] v pc') (hb0 : ¬ jobC c1 (μ.1 b) = true) (hb : jobC c2 (μ.1 b) = true) (hd : 1 ≤ d) (hx : jR B SA (d - 1) k2 0 (lv_args 0 (.ref b :: [a1, a2, a3, a4])) [] μ none μ1) (hc : jCats rest ≤ 8) (hm : (jmi k2).2.2.1 = N) (ha : jCats (.ref b :: [a1, a2, a3, a4]) ≤ N) (kk : jR B SA d k pc' L rest μ1 o μ') : jR B SA d k pc L (a4 :: a3 :: a2 :: a1 :: .ref b :: rest) μ o μ' := jr_callV8b hG hb0 hb (by simp) rfl rfl hd hc hm ha hx kk
theorem jr_V9av_4 {n c1 k1 c2 k2 N b : Nat} {a1 a2 a3 a4 : Value} {rest : List Value} {μ1 : JMem} (hG : jG k pc (.invokevirtual n) [9, 4, c1, k1, c2, k2] v pc') (hb : jobC c1 (μ.1 b) = true) (hd : 1 ≤ d) (hx : jR B SA (d - 1) k1 0 (lv_args 0 (.ref b :: [a1, a2, a3, a4])) [] μ none μ1) (hc : jCats rest ≤ 8) (hm : (jmi k1).2.2.1 = N) (ha : jCats (.ref b :: [a1, a2, a3, a4]) ≤ N) (kk : jR B SA d k pc' L rest μ1 o μ') : jR B SA d k pc L (a4 :: a3 :: a2 :: a1 :: .ref b :: rest) μ o μ' := jr_callV9a hG hb (by simp) rfl rfl hd hc hm ha hx kk
theorem jr_V9bv_4 {n c1 k1 c2 k2 N b : Nat} {a1 a2 a3 a4 : Value} {rest : List Value} {μ1 : JMem} (hG : jG k pc (.invokevirtual n) [9, 4, c1, k1, c2, k2] v pc') (hb0 : ¬ jobC c1 (μ.1 b) = true) (hb : jobC c2 (μ.1 b) = true) (hd : 1 ≤ d) (hx : jR B SA (d - 1) k2 0 (lv_args 0 (.ref b :: [a1, a2, a3, a4])) [] μ none μ1) (hc : jCats rest ≤ 8) (hm : (jmi k2).2.2.1 = N) (ha : jCats (.ref b :: [a1, a2, a3, a4]) ≤ N) (kk : jR B SA d k pc' L rest μ1 o μ') : jR B SA d k pc L (a4 :: a3 :: a2 :: a1 :: .ref b :: rest) μ o μ' := jr_callV9b hG hb0 hb (by simp) rfl rfl hd hc hm ha hx kk
theorem jr_S3_5 {n k' N : Nat} {a1 a2 a3 a4 a5 : Value} {w : Value} {rest : List Value} {μ1 : JMem} (hG : jG k pc (.invokestatic n) [3, k', 5] v pc') (hd : 1 ≤ d) (hx : jR B SA (d - 1) k' 0 (lv_args 0 [a1, a2, a3, a4, a5]) [] μ (some w) μ1) (hc : jCats rest ≤ 8) (hm : (jmi k').2.2.1 = N) (ha : jCats [a1, a2, a3, a4, a5] ≤ N) (kk : jR B SA d k pc' L (w :: rest) μ1 o μ') : jR B SA d k pc L (a5 :: a4 :: a3 :: a2 :: a1 :: rest) μ o μ' := jr_callS3 hG (by simp) rfl rfl hd hc hm ha hx kk
theorem jr_S5_5 {n k' N : Nat} {a1 a2 a3 a4 a5 : Value} {w : Value} {rest : List Value} {μ1 : JMem} (hG : jG k pc (.invokestatic n) [5, k', 5] v pc') (hd : 1 ≤ d) (hx : jR B SA (d - 1) k' 0 (lv_args 0 [a1, a2, a3, a4, a5]) [] μ (some w) μ1) (hc : jCats rest ≤ 8) (hm : (jmi k').2.2.1 = N) (ha : jCats [a1, a2, a3, a4, a5] ≤ N) (kk : jR B SA d k pc' L (w :: rest) μ1 o μ') : jR B SA d k pc L (a5 :: a4 :: a3 :: a2 :: a1 :: rest) μ o μ' := jr_callS5 hG (by simp) rfl rfl hd hc hm ha hx kk
theorem jr_P1_5 {n k' N b : Nat} {a1 a2 a3 a4 a5 : Value} {w : Value} {rest : List Value} {μ1 : JMem} (hG : jG k pc (.invokespecial n) [1, k', 5] v pc') (hd : 1 ≤ d) (hx : jR B SA (d - 1) k' 0 (lv_args 0 (.ref b :: [a1, a2, a3, a4, a5])) [] μ (some w) μ1) (hc : jCats rest ≤ 8) (hm : (jmi k').2.2.1 = N) (ha : jCats (.ref b :: [a1, a2, a3, a4, a5]) ≤ N) (kk : jR B SA d k pc' L (w :: rest) μ1 o μ') : jR B SA d k pc L (a5 :: a4 :: a3 :: a2 :: a1 :: .ref b :: rest) μ o μ' := jr_callP1 hG (by simp) rfl rfl hd hc hm ha hx kk
theorem jr_P2_5 {n k' N b : Nat} {a1 a2 a3 a4 a5 : Value} {w : Value} {rest : List Value} {μ1 : JMem} (hG : jG k pc (.invokespecial n) [2, k', 5] v pc') (hd : 1 ≤ d) (hx : jR B SA (d - 1) k' 0 (lv_args 0 (.ref b :: [a1, a2, a3, a4, a5])) [] μ (some w) μ1) (hc : jCats rest ≤ 8) (hm : (jmi k').2.2.1 = N) (ha : jCats (.ref b :: [a1, a2, a3, a4, a5]) ≤ N) (kk : jR B SA d k pc' L (w :: rest) μ1 o μ') : jR B SA d k pc L (a5 :: a4 :: a3 :: a2 :: a1 :: .ref b :: rest) μ o μ' := jr_callP2 hG (by simp) rfl rfl hd hc hm ha hx kk
theorem jr_V6_5 {n ci k' N b : Nat} {a1 a2 a3 a4 a5 : Value} {w : Value} {rest : List Value} {μ1 : JMem} (hG : jG k pc (.invokevirtual n) [6, 5, ci, k'] v pc') (hb : jobC ci (μ.1 b) = true) (hd : 1 ≤ d) (hx : jR B SA (d - 1) k' 0 (lv_args 0 (.ref b :: [a1, a2, a3, a4, a5])) [] μ (some w) μ1) (hc : jCats rest ≤ 8) (hm : (jmi k').2.2.1 = N) (ha : jCats (.ref b :: [a1, a2, a3, a4, a5]) ≤ N) (kk : jR B SA d k pc' L (w :: rest) μ1 o μ') : jR B SA d k pc L (a5 :: a4 :: a3 :: a2 :: a1 :: .ref b :: rest) μ o μ' := jr_callV6 hG hb (by simp) rfl rfl hd hc hm ha hx kk
theorem jr_V7_5 {n ci k' N b : Nat} {a1 a2 a3 a4 a5 : Value} {w : Value} {rest : List Value} {μ1 : JMem} (hG : jG k pc (.invokevirtual n) [7, 5, ci, k'] v pc') (hb : jobC ci (μ.1 b) = true) (hd : 1 ≤ d) (hx : jR B SA (d - 1) k' 0 (lv_args 0 (.ref b :: [a1, a2, a3, a4, a5])) [] μ (some w) μ1) (hc : jCats rest ≤ 8) (hm : (jmi k').2.2.1 = N) (ha : jCats (.ref b :: [a1, a2, a3, a4, a5]) ≤ N) (kk : jR B SA d k pc' L (w :: rest) μ1 o μ') : jR B SA d k pc L (a5 :: a4 :: a3 :: a2 :: a1 :: .ref b :: rest) μ o μ' := jr_callV7 hG hb (by simp) rfl rfl hd hc hm ha hx kk
theorem jr_V8a_5 {n c1 k1 c2 k2 N b : Nat} {a1 a2 a3 a4 a5 : Value} {w : Value} {rest : List Value} {μ1 : JMem} (hG : jG k pc (.invokevirtual n) [8, 5, c1, k1, c2, k2] v pc') (hb : jobC c1 (μ.1 b) = true) (hd : 1 ≤ d) (hx : jR B SA (d - 1) k1 0 (lv_args 0 (.ref b :: [a1, a2, a3, a4, a5])) [] μ (some w) μ1) (hc : jCats rest ≤ 8) (hm : (jmi k1).2.2.1 = N) (ha : jCats (.ref b :: [a1, a2, a3, a4, a5]) ≤ N) (kk : jR B SA d k pc' L (w :: rest) μ1 o μ') : jR B SA d k pc L (a5 :: a4 :: a3 :: a2 :: a1 :: .ref b :: rest) μ o μ' := jr_callV8a hG hb (by simp) rfl rfl hd hc hm ha hx kk
theorem jr_V8b_5 {n c1 k1 c2 k2 N b : Nat} {a1 a2 a3 a4 a5 : Value} {w : Value} {rest : List Value} {μ1 : JMem} (hG : jG k pc (.invokevirtual n) [8, 5, c1, k1, c2, k2] v pc') (hb0 : ¬ jobC c1 (μ.1 b) = true) (hb : jobC c2 (μ.1 b) = true) (hd : 1 ≤ d) (hx : jR B SA (d - 1) k2 0 (lv_args 0 (.ref b :: [a1, a2, a3, a4, a5])) [] μ (some w) μ1) (hc : jCats rest ≤ 8) (hm : (jmi k2).2.2.1 = N) (ha : jCats (.ref b :: [a1, a2, a3, a4, a5]) ≤ N) (kk : jR B SA d k pc' L (w :: rest) μ1 o μ') : jR B SA d k pc L (a5 :: a4 :: a3 :: a2 :: a1 :: .ref b :: rest) μ o μ' := jr_callV8b hG hb0 hb (by simp) rfl rfl hd hc hm ha hx kk
theorem jr_V9a_5 {n c1 k1 c2 k2 N b : Nat} {a1 a2 a3 a4 a5 : Value} {w : Value} {rest : List Value} {μ1 : JMem} (hG : jG k pc (.invokevirtual n) [9, 5, c1, k1, c2, k2] v pc') (hb : jobC c1 (μ.1 b) = true) (hd : 1 ≤ d) (hx : jR B SA (d - 1) k1 0 (lv_args 0 (.ref b :: [a1, a2, a3, a4, a5])) [] μ (some w) μ1) (hc : jCats rest ≤ 8) (hm : (jmi k1).2.2.1 = N) (ha : jCats (.ref b :: [a1, a2, a3, a4, a5]) ≤ N) (kk : jR B SA d k pc' L (w :: rest) μ1 o μ') : jR B SA d k pc L (a5 :: a4 :: a3 :: a2 :: a1 :: .ref b :: rest) μ o μ' := jr_callV9a hG hb (by simp) rfl rfl hd hc hm ha hx kk
theorem jr_V9b_5 {n c1 k1 c2 k2 N b : Nat} {a1 a2 a3 a4 a5 : Value} {w : Value} {rest : List Value} {μ1 : JMem} (hG : jG k pc (.invokevirtual n) [9, 5, c1, k1, c2, k2] v pc') (hb0 : ¬ jobC c1 (μ.1 b) = true) (hb : jobC c2 (μ.1 b) = true) (hd : 1 ≤ d) (hx : jR B SA (d - 1) k2 0 (lv_args 0 (.ref b :: [a1, a2, a3, a4, a5])) [] μ (some w) μ1) (hc : jCats rest ≤ 8) (hm : (jmi k2).2.2.1 = N) (ha : jCats (.ref b :: [a1, a2, a3, a4, a5]) ≤ N) (kk : jR B SA d k pc' L (w :: rest) μ1 o μ') : jR B SA d k pc L (a5 :: a4 :: a3 :: a2 :: a1 :: .ref b :: rest) μ o μ' := jr_callV9b hG hb0 hb (by simp) rfl rfl hd hc hm ha hx kk
theorem jr_S3v_5 {n k' N : Nat} {a1 a2 a3 a4 a5 : Value} {rest : List Value} {μ1 : JMem} (hG : jG k pc (.invokestatic n) [3, k', 5] v pc') (hd : 1 ≤ d) (hx : jR B SA (d - 1) k' 0 (lv_args 0 [a1, a2, a3, a4, a5]) [] μ none μ1) (hc : jCats rest ≤ 8) (hm : (jmi k').2.2.1 = N) (ha : jCats [a1, a2, a3, a4, a5] ≤ N) (kk : jR B SA d k pc' L rest μ1 o μ') : jR B SA d k pc L (a5 :: a4 :: a3 :: a2 :: a1 :: rest) μ o μ' := jr_callS3 hG (by simp) rfl rfl hd hc hm ha hx kk
theorem jr_S5v_5 {n k' N : Nat} {a1 a2 a3 a4 a5 : Value} {rest : List Value} {μ1 : JMem} (hG : jG k pc (.invokestatic n) [5, k', 5] v pc') (hd : 1 ≤ d) (hx : jR B SA (d - 1) k' 0 (lv_args 0 [a1, a2, a3, a4, a5]) [] μ none μ1) (hc : jCats rest ≤ 8) (hm : (jmi k').2.2.1 = N) (ha : jCats [a1, a2, a3, a4, a5] ≤ N) (kk : jR B SA d k pc' L rest μ1 o μ') : jR B SA d k pc L (a5 :: a4 :: a3 :: a2 :: a1 :: rest) μ o μ' := jr_callS5 hG (by simp) rfl rfl hd hc hm ha hx kk
theorem jr_P1v_5 {n k' N b : Nat} {a1 a2 a3 a4 a5 : Value} {rest : List Value} {μ1 : JMem} (hG : jG k pc (.invokespecial n) [1, k', 5] v pc') (hd : 1 ≤ d) (hx : jR B SA (d - 1) k' 0 (lv_args 0 (.ref b :: [a1, a2, a3, a4, a5])) [] μ none μ1) (hc : jCats rest ≤ 8) (hm : (jmi k').2.2.1 = N) (ha : jCats (.ref b :: [a1, a2, a3, a4, a5]) ≤ N) (kk : jR B SA d k pc' L rest μ1 o μ') : jR B SA d k pc L (a5 :: a4 :: a3 :: a2 :: a1 :: .ref b :: rest) μ o μ' := jr_callP1 hG (by simp) rfl rfl hd hc hm ha hx kk
theorem jr_P2v_5 {n k' N b : Nat} {a1 a2 a3 a4 a5 : Value} {rest : List Value} {μ1 : JMem} (hG : jG k pc (.invokespecial n) [2, k', 5] v pc') (hd : 1 ≤ d) (hx : jR B SA (d - 1) k' 0 (lv_args 0 (.ref b :: [a1, a2, a3, a4, a5])) [] μ none μ1) (hc : jCats rest ≤ 8) (hm : (jmi k').2.2.1 = N) (ha : jCats (.ref b :: [a1, a2, a3, a4, a5]) ≤ N) (kk : jR B SA d k pc' L rest μ1 o μ') : jR B SA d k pc L (a5 :: a4 :: a3 :: a2 :: a1 :: .ref b :: rest) μ o μ' := jr_callP2 hG (by simp) rfl rfl hd hc hm ha hx kk
theorem jr_V6v_5 {n ci k' N b : Nat} {a1 a2 a3 a4 a5 : Value} {rest : List Value} {μ1 : JMem} (hG : jG k pc (.invokevirtual n) [6, 5, ci, k'] v pc') (hb : jobC ci (μ.1 b) = true) (hd : 1 ≤ d) (hx : jR B SA (d - 1) k' 0 (lv_args 0 (.ref b :: [a1, a2, a3, a4, a5])) [] μ none μ1) (hc : jCats rest ≤ 8) (hm : (jmi k').2.2.1 = N) (ha : jCats (.ref b :: [a1, a2, a3, a4, a5]) ≤ N) (kk : jR B SA d k pc' L rest μ1 o μ') : jR B SA d k pc L (a5 :: a4 :: a3 :: a2 :: a1 :: .ref b :: rest) μ o μ' := jr_callV6 hG hb (by simp) rfl rfl hd hc hm ha hx kk
theorem jr_V7v_5 {n ci k' N b : Nat} {a1 a2 a3 a4 a5 : Value} {rest : List Value} {μ1 : JMem} (hG : jG k pc (.invokevirtual n) [7, 5, ci, k'] v pc') (hb : jobC ci (μ.1 b) = true) (hd : 1 ≤ d) (hx : jR B SA (d - 1) k' 0 (lv_args 0 (.ref b :: [a1, a2, a3, a4, a5])) [] μ none μ1) (hc : jCats rest ≤ 8) (hm : (jmi k').2.2.1 = N) (ha : jCats (.ref b :: [a1, a2, a3, a4, a5]) ≤ N) (kk : jR B SA d k pc' L rest μ1 o μ') : jR B SA d k pc L (a5 :: a4 :: a3 :: a2 :: a1 :: .ref b :: rest) μ o μ' := jr_callV7 hG hb (by simp) rfl rfl hd hc hm ha hx kk
theorem jr_V8av_5 {n c1 k1 c2 k2 N b : Nat} {a1 a2 a3 a4 a5 : Value} {rest : List Value} {μ1 : JMem} (hG : jG k pc (.invokevirtual n) [8, 5, c1, k1, c2, k2] v pc') (hb : jobC c1 (μ.1 b) = true) (hd : 1 ≤ d) (hx : jR B SA (d - 1) k1 0 (lv_args 0 (.ref b :: [a1, a2, a3, a4, a5])) [] μ none μ1) (hc : jCats rest ≤ 8) (hm : (jmi k1).2.2.1 = N) (ha : jCats (.ref b :: [a1, a2, a3, a4, a5]) ≤ N) (kk : jR B SA d k pc' L rest μ1 o μ') : jR B SA d k pc L (a5 :: a4 :: a3 :: a2 :: a1 :: .ref b :: rest) μ o μ' := jr_callV8a hG hb (by simp) rfl rfl hd hc hm ha hx kk
theorem jr_V8bv_5 {n c1 k1 c2 k2 N b : Nat} {a1 a2 a3 a4 a5 : Value} {rest : List Value} {μ1 : JMem} (hG : jG k pc (.invokevirtual n) [8, 5, c1, k1, c2, k2] v pc') (hb0 : ¬ jobC c1 (μ.1 b) = true) (hb : jobC c2 (μ.1 b) = true) (hd : 1 ≤ d) (hx : jR B SA (d - 1) k2 0 (lv_args 0 (.ref b :: [a1, a2, a3, a4, a5])) [] μ none μ1) (hc : jCats rest ≤ 8) (hm : (jmi k2).2.2.1 = N) (ha : jCats (.ref b :: [a1, a2, a3, a4, a5]) ≤ N) (kk : jR B SA d k pc' L rest μ1 o μ') : jR B SA d k pc L (a5 :: a4 :: a3 :: a2 :: a1 :: .ref b :: rest) μ o μ' := jr_callV8b hG hb0 hb (by simp) rfl rfl hd hc hm ha hx kk
theorem jr_V9av_5 {n c1 k1 c2 k2 N b : Nat} {a1 a2 a3 a4 a5 : Value} {rest : List Value} {μ1 : JMem} (hG : jG k pc (.invokevirtual n) [9, 5, c1, k1, c2, k2] v pc') (hb : jobC c1 (μ.1 b) = true) (hd : 1 ≤ d) (hx : jR B SA (d - 1) k1 0 (lv_args 0 (.ref b :: [a1, a2, a3, a4, a5])) [] μ none μ1) (hc : jCats rest ≤ 8) (hm : (jmi k1).2.2.1 = N) (ha : jCats (.ref b :: [a1, a2, a3, a4, a5]) ≤ N) (kk : jR B SA d k pc' L rest μ1 o μ') : jR B SA d k pc L (a5 :: a4 :: a3 :: a2 :: a1 :: .ref b :: rest) μ o μ' := jr_callV9a hG hb (by simp) rfl rfl hd hc hm ha hx kk
theorem jr_V9bv_5 {n c1 k1 c2 k2 N b : Nat} {a1 a2 a3 a4 a5 : Value} {rest : List Value} {μ1 : JMem} (hG : jG k pc (.invokevirtual n) [9, 5, c1, k1, c2, k2] v pc') (hb0 : ¬ jobC c1 (μ.1 b) = true) (hb : jobC c2 (μ.1 b) = true) (hd : 1 ≤ d) (hx : jR B SA (d - 1) k2 0 (lv_args 0 (.ref b :: [a1, a2, a3, a4, a5])) [] μ none μ1) (hc : jCats rest ≤ 8) (hm : (jmi k2).2.2.1 = N) (ha : jCats (.ref b :: [a1, a2, a3, a4, a5]) ≤ N) (kk : jR B SA d k pc' L rest μ1 o μ') : jR B SA d k pc L (a5 :: a4 :: a3 :: a2 :: a1 :: .ref b :: rest) μ o μ' := jr_callV9b hG hb0 hb (by simp) rfl rfl hd hc hm ha hx kk
theorem jr_S3_6 {n k' N : Nat} {a1 a2 a3 a4 a5 a6 : Value} {w : Value} {rest : List Value} {μ1 : JMem} (hG : jG k pc (.invokestatic n) [3, k', 6] v pc') (hd : 1 ≤ d) (hx : jR B SA (d - 1) k' 0 (lv_args 0 [a1, a2, a3, a4, a5, a6]) [] μ (some w) μ1) (hc : jCats rest ≤ 8) (hm : (jmi k').2.2.1 = N) (ha : jCats [a1, a2, a3, a4, a5, a6] ≤ N) (kk : jR B SA d k pc' L (w :: rest) μ1 o μ') : jR B SA d k pc L (a6 :: a5 :: a4 :: a3 :: a2 :: a1 :: rest) μ o μ' := jr_callS3 hG (by simp) rfl rfl hd hc hm ha hx kk
theorem jr_S5_6 {n k' N : Nat} {a1 a2 a3 a4 a5 a6 : Value} {w : Value} {rest : List Value} {μ1 : JMem} (hG : jG k pc (.invokestatic n) [5, k', 6] v pc') (hd : 1 ≤ d) (hx : jR B SA (d - 1) k' 0 (lv_args 0 [a1, a2, a3, a4, a5, a6]) [] μ (some w) μ1) (hc : jCats rest ≤ 8) (hm : (jmi k').2.2.1 = N) (ha : jCats [a1, a2, a3, a4, a5, a6] ≤ N) (kk : jR B SA d k pc' L (w :: rest) μ1 o μ') : jR B SA d k pc L (a6 :: a5 :: a4 :: a3 :: a2 :: a1 :: rest) μ o μ' := jr_callS5 hG (by simp) rfl rfl hd hc hm ha hx kk
theorem jr_P1_6 {n k' N b : Nat} {a1 a2 a3 a4 a5 a6 : Value} {w : Value} {rest : List Value} {μ1 : JMem} (hG : jG k pc (.invokespecial n) [1, k', 6] v pc') (hd : 1 ≤ d) (hx : jR B SA (d - 1) k' 0 (lv_args 0 (.ref b :: [a1, a2, a3, a4, a5, a6])) [] μ (some w) μ1) (hc : jCats rest ≤ 8) (hm : (jmi k').2.2.1 = N) (ha : jCats (.ref b :: [a1, a2, a3, a4, a5, a6]) ≤ N) (kk : jR B SA d k pc' L (w :: rest) μ1 o μ') : jR B SA d k pc L (a6 :: a5 :: a4 :: a3 :: a2 :: a1 :: .ref b :: rest) μ o μ' := jr_callP1 hG (by simp) rfl rfl hd hc hm ha hx kk
theorem jr_P2_6 {n k' N b : Nat} {a1 a2 a3 a4 a5 a6 : Value} {w : Value} {rest : List Value} {μ1 : JMem} (hG : jG k pc (.invokespecial n) [2, k', 6] v pc') (hd : 1 ≤ d) (hx : jR B SA (d - 1) k' 0 (lv_args 0 (.ref b :: [a1, a2, a3, a4, a5, a6])) [] μ (some w) μ1) (hc : jCats rest ≤ 8) (hm : (jmi k').2.2.1 = N) (ha : jCats (.ref b :: [a1, a2, a3, a4, a5, a6]) ≤ N) (kk : jR B SA d k pc' L (w :: rest) μ1 o μ') : jR B SA d k pc L (a6 :: a5 :: a4 :: a3 :: a2 :: a1 :: .ref b :: rest) μ o μ' := jr_callP2 hG (by simp) rfl rfl hd hc hm ha hx kk
theorem jr_V6_6 {n ci k' N b : Nat} {a1 a2 a3 a4 a5 a6 : Value} {w : Value} {rest : List Value} {μ1 : JMem} (hG : jG k pc (.invokevirtual n) [6, 6, ci, k'] v pc') (hb : jobC ci (μ.1 b) = true) (hd : 1 ≤ d) (hx : jR B SA (d - 1) k' 0 (lv_args 0 (.ref b :: [a1, a2, a3, a4, a5, a6])) [] μ (some w) μ1) (hc : jCats rest ≤ 8) (hm : (jmi k').2.2.1 = N) (ha : jCats (.ref b :: [a1, a2, a3, a4, a5, a6]) ≤ N) (kk : jR B SA d k pc' L (w :: rest) μ1 o μ') : jR B SA d k pc L (a6 :: a5 :: a4 :: a3 :: a2 :: a1 :: .ref b :: rest) μ o μ' := jr_callV6 hG hb (by simp) rfl rfl hd hc hm ha hx kk
theorem jr_V7_6 {n ci k' N b : Nat} {a1 a2 a3 a4 a5 a6 : Value} {w : Value} {rest : List Value} {μ1 : JMem} (hG : jG k pc (.invokevirtual n) [7, 6, ci, k'] v pc') (hb : jobC ci (μ.1 b) = true) (hd : 1 ≤ d) (hx : jR B SA (d - 1) k' 0 (lv_args 0 (.ref b :: [a1, a2, a3, a4, a5, a6])) [] μ (some w) μ1) (hc : jCats rest ≤ 8) (hm : (jmi k').2.2.1 = N) (ha : jCats (.ref b :: [a1, a2, a3, a4, a5, a6]) ≤ N) (kk : jR B SA d k pc' L (w :: rest) μ1 o μ') : jR B SA d k pc L (a6 :: a5 :: a4 :: a3 :: a2 :: a1 :: .ref b :: rest) μ o μ' := jr_callV7 hG hb (by simp) rfl rfl hd hc hm ha hx kk
theorem jr_V8a_6 {n c1 k1 c2 k2 N b : Nat} {a1 a2 a3 a4 a5 a6 : Value} {w : Value} {rest : List Value} {μ1 : JMem} (hG : jG k pc (.invokevirtual n) [8, 6, c1, k1, c2, k2] v pc') (hb : jobC c1 (μ.1 b) = true) (hd : 1 ≤ d) (hx : jR B SA (d - 1) k1 0 (lv_args 0 (.ref b :: [a1, a2, a3, a4, a5, a6])) [] μ (some w) μ1) (hc : jCats rest ≤ 8) (hm : (jmi k1).2.2.1 = N) (ha : jCats (.ref b :: [a1, a2, a3, a4, a5, a6]) ≤ N) (kk : jR B SA d k pc' L (w :: rest) μ1 o μ') : jR B SA d k pc L (a6 :: a5 :: a4 :: a3 :: a2 :: a1 :: .ref b :: rest) μ o μ' := jr_callV8a hG hb (by simp) rfl rfl hd hc hm ha hx kk
theorem jr_V8b_6 {n c1 k1 c2 k2 N b : Nat} {a1 a2 a3 a4 a5 a6 : Value} {w : Value} {rest : List Value} {μ1 : JMem} (hG : jG k pc (.invokevirtual n) [8, 6, c1, k1, c2, k2] v pc') (hb0 : ¬ jobC c1 (μ.1 b) = true) (hb : jobC c2 (μ.1 b) = true) (hd : 1 ≤ d) (hx : jR B SA (d - 1) k2 0 (lv_args 0 (.ref b :: [a1, a2, a3, a4, a5, a6])) [] μ (some w) μ1) (hc : jCats rest ≤ 8) (hm : (jmi k2).2.2.1 = N) (ha : jCats (.ref b :: [a1, a2, a3, a4, a5, a6]) ≤ N) (kk : jR B SA d k pc' L (w :: rest) μ1 o μ') : jR B SA d k pc L (a6 :: a5 :: a4 :: a3 :: a2 :: a1 :: .ref b :: rest) μ o μ' := jr_callV8b hG hb0 hb (by simp) rfl rfl hd hc hm ha hx kk
theorem jr_V9a_6 {n c1 k1 c2 k2 N b : Nat} {a1 a2 a3 a4 a5 a6 : Value} {w : Value} {rest : List Value} {μ1 : JMem} (hG : jG k pc (.invokevirtual n) [9, 6, c1, k1, c2, k2] v pc') (hb : jobC c1 (μ.1 b) = true) (hd : 1 ≤ d) (hx : jR B SA (d - 1) k1 0 (lv_args 0 (.ref b :: [a1, a2, a3, a4, a5, a6])) [] μ (some w) μ1) (hc : jCats rest ≤ 8) (hm : (jmi k1).2.2.1 = N) (ha : jCats (.ref b :: [a1, a2, a3, a4, a5, a6]) ≤ N) (kk : jR B SA d k pc' L (w :: rest) μ1 o μ') : jR B SA d k pc L (a6 :: a5 :: a4 :: a3 :: a2 :: a1 :: .ref b :: rest) μ o μ' := jr_callV9a hG hb (by simp) rfl rfl hd hc hm ha hx kk
theorem jr_V9b_6 {n c1 k1 c2 k2 N b : Nat} {a1 a2 a3 a4 a5 a6 : Value} {w : Value} {rest : List Value} {μ1 : JMem} (hG : jG k pc (.invokevirtual n) [9, 6, c1, k1, c2, k2] v pc') (hb0 : ¬ jobC c1 (μ.1 b) = true) (hb : jobC c2 (μ.1 b) = true) (hd : 1 ≤ d) (hx : jR B SA (d - 1) k2 0 (lv_args 0 (.ref b :: [a1, a2, a3, a4, a5, a6])) [] μ (some w) μ1) (hc : jCats rest ≤ 8) (hm : (jmi k2).2.2.1 = N) (ha : jCats (.ref b :: [a1, a2, a3, a4, a5, a6]) ≤ N) (kk : jR B SA d k pc' L (w :: rest) μ1 o μ') : jR B SA d k pc L (a6 :: a5 :: a4 :: a3 :: a2 :: a1 :: .ref b :: rest) μ o μ' := jr_callV9b hG hb0 hb (by simp) rfl rfl hd hc hm ha hx kk
theorem jr_S3v_6 {n k' N : Nat} {a1 a2 a3 a4 a5 a6 : Value} {rest : List Value} {μ1 : JMem} (hG : jG k pc (.invokestatic n) [3, k', 6] v pc') (hd : 1 ≤ d) (hx : jR B SA (d - 1) k' 0 (lv_args 0 [a1, a2, a3, a4, a5, a6]) [] μ none μ1) (hc : jCats rest ≤ 8) (hm : (jmi k').2.2.1 = N) (ha : jCats [a1, a2, a3, a4, a5, a6] ≤ N) (kk : jR B SA d k pc' L rest μ1 o μ') : jR B SA d k pc L (a6 :: a5 :: a4 :: a3 :: a2 :: a1 :: rest) μ o μ' := jr_callS3 hG (by simp) rfl rfl hd hc hm ha hx kk
theorem jr_S5v_6 {n k' N : Nat} {a1 a2 a3 a4 a5 a6 : Value} {rest : List Value} {μ1 : JMem} (hG : jG k pc (.invokestatic n) [5, k', 6] v pc') (hd : 1 ≤ d) (hx : jR B SA (d - 1) k' 0 (lv_args 0 [a1, a2, a3, a4, a5, a6]) [] μ none μ1) (hc : jCats rest ≤ 8) (hm : (jmi k').2.2.1 = N) (ha : jCats [a1, a2, a3, a4, a5, a6] ≤ N) (kk : jR B SA d k pc' L rest μ1 o μ') : jR B SA d k pc L (a6 :: a5 :: a4 :: a3 :: a2 :: a1 :: rest) μ o μ' := jr_callS5 hG (by simp) rfl rfl hd hc hm ha hx kk
theorem jr_P1v_6 {n k' N b : Nat} {a1 a2 a3 a4 a5 a6 : Value} {rest : List Value} {μ1 : JMem} (hG : jG k pc (.invokespecial n) [1, k', 6] v pc') (hd : 1 ≤ d) (hx : jR B SA (d - 1) k' 0 (lv_args 0 (.ref b :: [a1, a2, a3, a4, a5, a6])) [] μ none μ1) (hc : jCats rest ≤ 8) (hm : (jmi k').2.2.1 = N) (ha : jCats (.ref b :: [a1, a2, a3, a4, a5, a6]) ≤ N) (kk : jR B SA d k pc' L rest μ1 o μ') : jR B SA d k pc L (a6 :: a5 :: a4 :: a3 :: a2 :: a1 :: .ref b :: rest) μ o μ' := jr_callP1 hG (by simp) rfl rfl hd hc hm ha hx kk
theorem jr_P2v_6 {n k' N b : Nat} {a1 a2 a3 a4 a5 a6 : Value} {rest : List Value} {μ1 : JMem} (hG : jG k pc (.invokespecial n) [2, k', 6] v pc') (hd : 1 ≤ d) (hx : jR B SA (d - 1) k' 0 (lv_args 0 (.ref b :: [a1, a2, a3, a4, a5, a6])) [] μ none μ1) (hc : jCats rest ≤ 8) (hm : (jmi k').2.2.1 = N) (ha : jCats (.ref b :: [a1, a2, a3, a4, a5, a6]) ≤ N) (kk : jR B SA d k pc' L rest μ1 o μ') : jR B SA d k pc L (a6 :: a5 :: a4 :: a3 :: a2 :: a1 :: .ref b :: rest) μ o μ' := jr_callP2 hG (by simp) rfl rfl hd hc hm ha hx kk
theorem jr_V6v_6 {n ci k' N b : Nat} {a1 a2 a3 a4 a5 a6 : Value} {rest : List Value} {μ1 : JMem} (hG : jG k pc (.invokevirtual n) [6, 6, ci, k'] v pc') (hb : jobC ci (μ.1 b) = true) (hd : 1 ≤ d) (hx : jR B SA (d - 1) k' 0 (lv_args 0 (.ref b :: [a1, a2, a3, a4, a5, a6])) [] μ none μ1) (hc : jCats rest ≤ 8) (hm : (jmi k').2.2.1 = N) (ha : jCats (.ref b :: [a1, a2, a3, a4, a5, a6]) ≤ N) (kk : jR B SA d k pc' L rest μ1 o μ') : jR B SA d k pc L (a6 :: a5 :: a4 :: a3 :: a2 :: a1 :: .ref b :: rest) μ o μ' := jr_callV6 hG hb (by simp) rfl rfl hd hc hm ha hx kk
theorem jr_V7v_6 {n ci k' N b : Nat} {a1 a2 a3 a4 a5 a6 : Value} {rest : List Value} {μ1 : JMem} (hG : jG k pc (.invokevirtual n) [7, 6, ci, k'] v pc') (hb : jobC ci (μ.1 b) = true) (hd : 1 ≤ d) (hx : jR B SA (d - 1) k' 0 (lv_args 0 (.ref b :: [a1, a2, a3, a4, a5, a6])) [] μ none μ1) (hc : jCats rest ≤ 8) (hm : (jmi k').2.2.1 = N) (ha : jCats (.ref b :: [a1, a2, a3, a4, a5, a6]) ≤ N) (kk : jR B SA d k pc' L rest μ1 o μ') : jR B SA d k pc L (a6 :: a5 :: a4 :: a3 :: a2 :: a1 :: .ref b :: rest) μ o μ' := jr_callV7 hG hb (by simp) rfl rfl hd hc hm ha hx kk
theorem jr_V8av_6 {n c1 k1 c2 k2 N b : Nat} {a1 a2 a3 a4 a5 a6 : Value} {rest : List Value} {μ1 : JMem} (hG : jG k pc (.invokevirtual n) [8, 6, c1, k1, c2, k2] v pc') (hb : jobC c1 (μ.1 b) = true) (hd : 1 ≤ d) (hx : jR B SA (d - 1) k1 0 (lv_args 0 (.ref b :: [a1, a2, a3, a4, a5, a6])) [] μ none μ1) (hc : jCats rest ≤ 8) (hm : (jmi k1).2.2.1 = N) (ha : jCats (.ref b :: [a1, a2, a3, a4, a5, a6]) ≤ N) (kk : jR B SA d k pc' L rest μ1 o μ') : jR B SA d k pc L (a6 :: a5 :: a4 :: a3 :: a2 :: a1 :: .ref b :: rest) μ o μ' := jr_callV8a hG hb (by simp) rfl rfl hd hc hm ha hx kk
theorem jr_V8bv_6 {n c1 k1 c2 k2 N b : Nat} {a1 a2 a3 a4 a5 a6 : Value} {rest : List Value} {μ1 : JMem} (hG : jG k pc (.invokevirtual n) [8, 6, c1, k1, c2, k2] v pc') (hb0 : ¬ jobC c1 (μ.1 b) = true) (hb : jobC c2 (μ.1 b) = true) (hd : 1 ≤ d) (hx : jR B SA (d - 1) k2 0 (lv_args 0 (.ref b :: [a1, a2, a3, a4, a5, a6])) [] μ none μ1) (hc : jCats rest ≤ 8) (hm : (jmi k2).2.2.1 = N) (ha : jCats (.ref b :: [a1, a2, a3, a4, a5, a6]) ≤ N) (kk : jR B SA d k pc' L rest μ1 o μ') : jR B SA d k pc L (a6 :: a5 :: a4 :: a3 :: a2 :: a1 :: .ref b :: rest) μ o μ' := jr_callV8b hG hb0 hb (by simp) rfl rfl hd hc hm ha hx kk
theorem jr_V9av_6 {n c1 k1 c2 k2 N b : Nat} {a1 a2 a3 a4 a5 a6 : Value} {rest : List Value} {μ1 : JMem} (hG : jG k pc (.invokevirtual n) [9, 6, c1, k1, c2, k2] v pc') (hb : jobC c1 (μ.1 b) = true) (hd : 1 ≤ d) (hx : jR B SA (d - 1) k1 0 (lv_args 0 (.ref b :: [a1, a2, a3, a4, a5, a6])) [] μ none μ1) (hc : jCats rest ≤ 8) (hm : (jmi k1).2.2.1 = N) (ha : jCats (.ref b :: [a1, a2, a3, a4, a5, a6]) ≤ N) (kk : jR B SA d k pc' L rest μ1 o μ') : jR B SA d k pc L (a6 :: a5 :: a4 :: a3 :: a2 :: a1 :: .ref b :: rest) μ o μ' := jr_callV9a hG hb (by simp) rfl rfl hd hc hm ha hx kk
theorem jr_V9bv_6 {n c1 k1 c2 k2 N b : Nat} {a1 a2 a3 a4 a5 a6 : Value} {rest : List Value} {μ1 : JMem} (hG : jG k pc (.invokevirtual n) [9, 6, c1, k1, c2, k2] v pc') (hb0 : ¬ jobC c1 (μ.1 b) = true) (hb : jobC c2 (μ.1 b) = true) (hd : 1 ≤ d) (hx : jR B SA (d - 1) k2 0 (lv_args 0 (.ref b :: [a1, a2, a3, a4, a5, a6])) [] μ none μ1) (hc : jCats rest ≤ 8) (hm : (jmi k2).2.2.1 = N) (ha : jCats (.ref b :: [a1, a2, a3, a4, a5, a6]) ≤ N) (kk : jR B SA d k pc' L rest μ1 o μ') : jR B SA d k pc L (a6 :: a5 :: a4 :: a3 :: a2 :: a1 :: .ref b :: rest) μ o μ' := jr_callV9b hG hb0 hb (by simp) rfl rfl hd hc hm ha hx kk
theorem jr_ret {i : Instr} {o1 : Option Value} (hG : jG k pc i r v pc') (h : jRet (jmi k).2.2.2.1 i st = some o1) : jR B SA d k pc L st μ o1 μ := ⟨1, by simp only [jex, hG.1, h]⟩
theorem jr_return (hG : jG k pc .return_ r v pc') (ht : (jmi k).2.2.2.1 = none) : jR B SA d k pc L [] μ none μ := jr_ret hG (by rw [ht]; rfl)
theorem jr_retI {x : Int32} (hG : jG k pc .ireturn r v pc') (ht : (jmi k).2.2.2.1 = some .int) : jR B SA d k pc L [.int x] μ (some (.int x)) μ := jr_ret hG (by rw [ht]; simp [jRet, narrow])
theorem jr_retZ {x : Bool} (hG : jG k pc .ireturn r v pc') (ht : (jmi k).2.2.2.1 = some .boolean) : jR B SA d k pc L [.int (jb x)] μ (some (.int (jb x))) μ := jr_ret hG (by rw [ht]; cases x <;> decide)
theorem jr_retJ {x : Int64} (hG : jG k pc .lreturn r v pc') (ht : (jmi k).2.2.2.1 = some .long) : jR B SA d k pc L [.long x] μ (some (.long x)) μ := jr_ret hG (by rw [ht]; rfl)
theorem jr_retD {x : UInt64} (hG : jG k pc .dreturn r v pc') (ht : (jmi k).2.2.2.1 = some .double) : jR B SA d k pc L [.double x] μ (some (.double x)) μ := jr_ret hG (by rw [ht]; rfl)
theorem jr_retA {x : Option Nat} {q : String} (hG : jG k pc .areturn r v pc') (ht : (jmi k).2.2.2.1 = some (.object q)) : jR B SA d k pc L [rv x] μ (some (rv x)) μ := jr_ret hG (by rw [ht]; cases x <;> rfl)
end STEPS
theorem jcats_nil : jCats [] = 0 := rfl
theorem jcats_cons (v : Value) (st : List Value) : jCats (v :: st) = v.category + jCats st := by simp [jCats]
theorem cat_int (x : Int32) : (Value.int x).category = 1 := rfl
theorem cat_long (x : Int64) : (Value.long x).category = 2 := rfl
theorem cat_double (x : UInt64) : (Value.double x).category = 2 := rfl
theorem cat_float (x : UInt32) : (Value.float x).category = 1 := rfl
theorem cat_ref (x : Nat) : (Value.ref x).category = 1 := rfl
theorem cat_null : (Value.null).category = 1 := rfl
