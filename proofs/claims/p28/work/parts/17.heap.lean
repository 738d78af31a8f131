/-! THE CLASS'S HEAP, typed: what lies at an address, its fields and cells; the memory that holds it (printed by wip/whole/cls.py) -/
abbrev CT : Type := (Nat → Nat) × (Nat → Nat) × (Nat → Nat → Nat → Int32) × (Nat → Nat → Nat → Int64) × (Nat → Nat → Nat → Option Nat) × (Nat → Bool) × (Nat × Nat)
def ck (C : CT) : Nat × Nat := C.2.2.2.2.2.2
def up1 {α : Type} (f : Nat → α) (a : Nat) (v : α) : Nat → α := fun q => if q = a then v else f q
def up3 {α : Type} (f : Nat → Nat → Nat → α) (k a j : Nat) (v : α) : Nat → Nat → Nat → α := fun x y z => if x = k ∧ y = a ∧ z = j then v else f x y z
def csI (C : CT) (k a j : Nat) (v : Int32) : CT := (C.1, C.2.1, up3 C.2.2.1 k a j v, C.2.2.2)
def csJ (C : CT) (k a j : Nat) (v : Int64) : CT := (C.1, C.2.1, C.2.2.1, up3 C.2.2.2.1 k a j v, C.2.2.2.2)
def csA (C : CT) (k a j : Nat) (v : Option Nat) : CT := (C.1, C.2.1, C.2.2.1, C.2.2.2.1, up3 C.2.2.2.2.1 k a j v, C.2.2.2.2.2)
def csZ (C : CT) (a : Nat) (v : Bool) : CT := (C.1, C.2.1, C.2.2.1, C.2.2.2.1, C.2.2.2.2.1, up1 C.2.2.2.2.2.1 a v, C.2.2.2.2.2.2)
def cfr (C : CT) (t n s : Nat) : CT := (up1 C.1 (ck C).1 t, up1 C.2.1 (ck C).1 n, C.2.2.1, C.2.2.2.1, C.2.2.2.2.1, C.2.2.2.2.2.1, ((ck C).1 + 1, (ck C).2 + s))
def cob (C : CT) (a ci : Nat) : Bool := C.1 a == ci + 1
def cgI (C : CT) (a ci k : Nat) : Option Int32 := if C.1 a = ci + 1 then some (C.2.2.1 (16 * ci + k) a 0) else none
def cgJ (C : CT) (a ci k : Nat) : Option Int64 := if C.1 a = ci + 1 then some (C.2.2.2.1 (16 * ci + k) a 0) else none
def cgA (C : CT) (a ci k : Nat) : Option (Option Nat) := if C.1 a = ci + 1 then some (C.2.2.2.2.1 (16 * ci + k) a 0) else none
def cgZ (C : CT) (a ci k : Nat) : Option Bool := if C.1 a = ci + 1 ∧ ci = 2 ∧ k = 0 then some (C.2.2.2.2.2.1 a) else none
def cpI (C : CT) (a ci k : Nat) (v : Int32) : Option CT := if C.1 a = ci + 1 ∧ ci < 9 ∧ k < 16 then some (csI C (16 * ci + k) a 0 v) else none
def cpJ (C : CT) (a ci k : Nat) (v : Int64) : Option CT := if C.1 a = ci + 1 ∧ ci < 9 ∧ k < 16 then some (csJ C (16 * ci + k) a 0 v) else none
def cpA (C : CT) (a ci k : Nat) (v : Option Nat) : Option CT := if C.1 a = ci + 1 ∧ ci < 9 ∧ k < 16 then some (csA C (16 * ci + k) a 0 v) else none
def cpZ (C : CT) (a ci k : Nat) (v : Bool) : Option CT := if C.1 a = ci + 1 ∧ ci = 2 ∧ k = 0 then some (csZ C a v) else none
def caI (C : CT) (a : Nat) (j : Int32) : Option Int32 := if C.1 a = 20 then (jrg (C.2.1 a) j).map (fun n => C.2.2.1 900 a n) else none
def caJ (C : CT) (a : Nat) (j : Int32) : Option Int64 := if C.1 a = 21 then (jrg (C.2.1 a) j).map (fun n => C.2.2.2.1 900 a n) else none
def caA (C : CT) (a ci : Nat) (j : Int32) : Option (Option Nat) := if C.1 a = 30 + ci ∧ ci < 10 then (jrg (C.2.1 a) j).map (fun n => C.2.2.2.2.1 900 a n) else none
def cal (C : CT) (a : Nat) : Option Int32 := if 20 ≤ C.1 a then some (Int32.ofNat (C.2.1 a)) else none
def cqI (C : CT) (a : Nat) (j : Int32) (v : Int32) : Option CT := if C.1 a = 20 then (jrg (C.2.1 a) j).map (fun n => csI C 900 a n v) else none
def cqJ (C : CT) (a : Nat) (j : Int32) (v : Int64) : Option CT := if C.1 a = 21 then (jrg (C.2.1 a) j).map (fun n => csJ C 900 a n v) else none
def cqA (C : CT) (a ci : Nat) (j : Int32) (b : Nat) : Option CT := if C.1 a = 30 + ci ∧ ci < 9 ∧ C.1 b = ci + 1 then (jrg (C.2.1 a) j).map (fun n => csA C 900 a n (some b)) else none
def cnew {β : Type} (ci : Nat) (C : CT) (f : Nat → CT → β) : β := f (ck C).1 (cfr C (ci + 1) 0 (jnfl ci))
def cnI (n : Int32) (C : CT) : Option (Nat × CT) := if ¬ n < 0 ∧ n.toNatClampNeg * 4 ≤ 536870912 then some ((ck C).1, cfr C 20 n.toNatClampNeg n.toNatClampNeg) else none
def cnJ (n : Int32) (C : CT) : Option (Nat × CT) := if ¬ n < 0 ∧ n.toNatClampNeg * 8 ≤ 536870912 then some ((ck C).1, cfr C 21 n.toNatClampNeg n.toNatClampNeg) else none
def cnR (ci : Nat) (n : Int32) (C : CT) : Option (Nat × CT) := if ¬ n < 0 ∧ n.toNatClampNeg * 4 ≤ 536870912 ∧ ci < 9 then some ((ck C).1, cfr C (30 + ci) n.toNatClampNeg n.toNatClampNeg) else none
def cbd2 {α β : Type} (o : Option (α × CT)) (f : α → CT → Option β) : Option β := o.bind fun q => f q.1 q.2
theorem cbd2_some {α β : Type} (x : α) (C : CT) (f : α → CT → Option β) : cbd2 (some (x, C)) f = f x C := rfl
theorem cbd2_of {α β : Type} {o : Option (α × CT)} {f : α → CT → Option β} {r : β} (h : cbd2 o f = some r) : ∃ x C, o = some (x, C) ∧ f x C = some r := by
  cases o with
  | none => cases h
  | some x => exact ⟨x.1, x.2, rfl, h⟩
theorem cnew_of {β : Type} {ci : Nat} {C : CT} {f : Nat → CT → β} {r : β} (h : cnew ci C f = r) : f (ck C).1 (cfr C (ci + 1) 0 (jnfl ci)) = r := h
/-! the static rows -/
def sFAC (j : Nat) : Int32 := match j with | 0 => 1 | 1 => 2 | 2 => 5 | 3 => 5 | 4 => 5 | 5 => 1 | 6 => 0 | 7 => 1 | 8 => 1 | 9 => 1 | 10 => 1 | 11 => 1 | 12 => 0 | 13 => 0 | 14 => 0 | _ => 2
def sCEL (j : Nat) : Int32 := match j with | 0 => 0 | 1 => 1 | 2 => 4 | 3 => 2 | 4 => 2 | 5 => 1 | 6 => -1 | 7 => -1 | 8 => -1 | 9 => 0 | 10 => 0 | 11 => 1 | 12 => 1 | _ => 0
def sSHO (j : Nat) : Int32 := match j with | 6 => 1 | 7 => 1 | 8 => 1 | 12 => 2 | 13 => 2 | 14 => 2 | _ => 0
def sLON (j : Nat) : Int32 := match j with | 6 => 64 | 7 => 32 | 8 => 64 | 12 => 8 | 13 => 8 | 14 => 8 | _ => 0
def sST (k j : Nat) : Int32 := match k with | 0 => sFAC j | 1 => sCEL j | 2 => sSHO j | _ => sLON j
def jsr (k : Nat) (j : Int32) : Option Int32 := if k < 4 then (jrg 16 j).map (fun n => sST k n) else none
def jsl (k : Nat) : Option Int32 := if k < 4 then some 16 else none
def cval (C : CT) (ci a k : Nat) : Value := match jfty ci k with
  | .int => .int (C.2.2.1 (16 * ci + k) a 0)
  | .long => .long (C.2.2.2.1 (16 * ci + k) a 0)
  | .boolean => .int (jb (C.2.2.2.2.2.1 a))
  | _ => rv (C.2.2.2.2.1 (16 * ci + k) a 0)
def ccell (C : CT) (a : Nat) : JCell :=
  if C.1 a < 20 then .inl (C.1 a - 1, cval C (C.1 a - 1) a)
  else if C.1 a = 20 then .inr (.int, C.2.1 a, fun j => .int (C.2.2.1 900 a j))
  else if C.1 a = 21 then .inr (.long, C.2.1 a, fun j => .long (C.2.2.2.1 900 a j))
  else .inr (.object (jclsN (C.1 a - 30)), C.2.1 a, fun j => rv (C.2.2.2.2.1 900 a j))
def ovC (C : CT) (h0 : Nat → Option JCell) : Nat → Option JCell := fun a => if C.1 a = 0 then h0 a else some (ccell C a)
/-- tags lie between the ground and the counter; what lies beyond is fresh -/
def CW (B : Nat) (C : CT) : Prop := B ≤ (ck C).1 ∧ (∀ a, C.1 a ≠ 0 → B ≤ a ∧ a < (ck C).1) ∧ (∀ a, (ck C).1 ≤ a → ∀ k j, C.2.2.1 k a j = 0 ∧ C.2.2.2.1 k a j = 0 ∧ C.2.2.2.2.1 k a j = none ∧ C.2.2.2.2.2.1 a = false)
/-- the static rows lie below the ground, as they are -/
def CS (B : Nat) (SA : Nat → Nat) (h0 : Nat → Option JCell) : Prop := ∀ k, k < 4 → SA k < B ∧ ∃ n f, h0 (SA k) = some (.inr (.int, n, f)) ∧ n = 16 ∧ ∀ j, j < 16 → f j = .int (sST k j)
theorem obd_go {α β : Type} {o : Option α} {f : α → Option β} {y : α} {r : Option β} {Q : Prop} (h : o = some y) (k : f y = r ∧ Q) : obd o f = r ∧ Q := by subst h; exact k
theorem jbd2_go {α β : Type} {o : Option (α × JMem)} {f : α → JMem → Option β} {y : α} {μ : JMem} {r : Option β} {Q : Prop} (h : o = some (y, μ)) (k : f y μ = r ∧ Q) : jbd2 o f = r ∧ Q := by subst h; exact k
theorem jgd_go {α : Type} {b : Bool} {x r : Option α} {Q : Prop} (h : b = true) (k : x = r ∧ Q) : jgd b x = r ∧ Q := by subst h; exact k
theorem ite_goT {β : Type} {c : Prop} {i : Decidable c} {x y r : β} {Q : Prop} (h : c) (k : x = r ∧ Q) : (@ite β c i x y) = r ∧ Q := by rw [if_pos h]; exact k
theorem ite_goF {β : Type} {c : Prop} {i : Decidable c} {x y r : β} {Q : Prop} (h : ¬ c) (k : y = r ∧ Q) : (@ite β c i x y) = r ∧ Q := by rw [if_neg h]; exact k
theorem jon_goN {β : Type} {x r : β} {f : Nat → β} {Q : Prop} (k : x = r ∧ Q) : jon none x f = r ∧ Q := k
theorem jon_goS {β : Type} {x r : β} {a : Nat} {f : Nat → β} {Q : Prop} (k : f a = r ∧ Q) : jon (some a) x f = r ∧ Q := k
theorem jlet_go {α β : Type} {x : α} {f : α → β} {r : β} {Q : Prop} (k : f x = r ∧ Q) : jlet x f = r ∧ Q := k
section CHEAP
variable {B : Nat} {SA : Nat → Nat} {h0 : Nat → Option JCell} {C : CT} {a ci k : Nat}
theorem ovC_at (h : C.1 a ≠ 0) : ovC C h0 a = some (ccell C a) := if_neg h
theorem ovC_obj {t : Nat} (h : C.1 a = t + 1) (ht : t < 19) : ovC C h0 a = some (.inl (t, cval C t a)) := by
  rw [ovC_at (by omega)]
  unfold ccell
  rw [if_pos (by omega), h, Nat.add_sub_cancel]
theorem cgF_at (h : C.1 a = ci + 1) (hc : ci < 19) : jgF (ovC C h0) a ci k = some (cval C ci a k) := by
  unfold jgF
  rw [ovC_obj h hc]
  simp
theorem c_job (h : cob C a ci = true) (hc : ci < 19 := by decide) : jobC ci (ovC C h0 a) = true := by
  rw [ovC_obj (beq_iff_eq.mp h) hc]
  simp [jobC]
theorem c_job_ne {c2 : Nat} (h : cob C a ci = true) (hn : (c2 == ci) = false) (hc : ci < 19 := by decide) : ¬ jobC c2 (ovC C h0 a) = true := by
  rw [ovC_obj (beq_iff_eq.mp h) hc]
  simp only [jobC, beq_iff_eq]
  intro q
  rw [q] at hn
  simp at hn
theorem cg_I {x : Int32} (ht : jfty ci k = .int) (h : cgI C a ci k = some x) (hc : ci < 19 := by decide) : jgI (ovC C h0) a ci k = some x := by
  unfold cgI at h
  split at h
  · rename_i q
    cases h
    unfold jgI
    rw [cgF_at q hc]
    unfold cval
    rw [ht]
    rfl
  · cases h
theorem cg_J {x : Int64} (ht : jfty ci k = .long) (h : cgJ C a ci k = some x) (hc : ci < 19 := by decide) : jgJ (ovC C h0) a ci k = some x := by
  unfold cgJ at h
  split at h
  · rename_i q
    cases h
    unfold jgJ
    rw [cgF_at q hc]
    unfold cval
    rw [ht]
    rfl
  · cases h
theorem jvA_rv (x : Option Nat) : jvA (rv x) = some x := by cases x <;> rfl
theorem cval_A (ht : jrty (jfty ci k) = true) : cval C ci a k = rv (C.2.2.2.2.1 (16 * ci + k) a 0) := by
  unfold cval
  generalize jfty ci k = t at ht
  cases t <;> first | rfl | cases ht
theorem cg_A {x : Option Nat} (ht : jrty (jfty ci k) = true) (h : cgA C a ci k = some x) (hc : ci < 19 := by decide) : jgA (ovC C h0) a ci k = some x := by
  unfold cgA at h
  split at h
  · rename_i q
    cases h
    unfold jgA
    rw [cgF_at q hc, cval_A ht]
    exact jvA_rv _
  · cases h
theorem cg_Z {x : Bool} (ht : jfty ci k = .boolean) (h : cgZ C a ci k = some x) (hc : ci < 19 := by decide) : jgZ (ovC C h0) a ci k = some x := by
  unfold cgZ at h
  split at h
  · rename_i q
    cases h
    unfold jgZ
    rw [cgF_at q.1 hc]
    unfold cval
    rw [ht]
    exact jvZ_jb _
  · cases h
theorem ovC_set {C1 : CT} {x : JCell} (h : C.1 a ≠ 0) (e1 : C1.1 = C.1) (e2 : ccell C1 a = x) (e3 : ∀ q, q ≠ a → ccell C1 q = ccell C q) : jup (ovC C h0) a x = ovC C1 h0 := by
  funext q
  unfold jup
  by_cases hq : q = a
  · subst hq; rw [if_pos rfl]; unfold ovC; rw [e1, if_neg h, e2]
  · rw [if_neg hq]; unfold ovC; rw [e1, e3 q hq]
theorem cput {C1 : CT} {w : Value} (hw : CW B C) (ht : C.1 a = ci + 1) (hc : ci < 9) (e1 : C1.1 = C.1) (e2 : updV (cval C ci a) k w = cval C1 ci a) (e3 : ∀ q, q ≠ a → ccell C1 q = ccell C q) (e4 : ck C1 = ck C) : jpF B ci k a w (ovC C h0, ck C) = some (ovC C1 h0, ck C1) := by
  unfold jpF
  dsimp only
  rw [ovC_obj ht (by omega)]
  dsimp only
  rw [if_pos ⟨rfl, (hw.2.1 a (by omega)).1⟩, e4]
  rw [ovC_set (C1 := C1) (by omega) e1 (by unfold ccell; rw [e1, ht, if_pos (by omega), Nat.add_sub_cancel, ← e2]) e3]
theorem ccell_oth {C1 : CT} {q : Nat} (e1 : C1.1 = C.1) (e0 : C1.2.1 = C.2.1) (eI : ∀ x z, C1.2.2.1 x q z = C.2.2.1 x q z) (eJ : ∀ x z, C1.2.2.2.1 x q z = C.2.2.2.1 x q z) (eA : ∀ x z, C1.2.2.2.2.1 x q z = C.2.2.2.2.1 x q z) (eZ : C1.2.2.2.2.2.1 q = C.2.2.2.2.2.1 q) : ccell C1 q = ccell C q := by
  unfold ccell
  have ev : ∀ t, cval C1 t q = cval C t q := fun t => by funext z; unfold cval; rw [eI, eJ, eA, eZ]
  simp only [e1, e0, ev, eI, eJ, eA]
theorem k16 {x y u v : Nat} (hu : u < 16) (hv : v < 16) (h : 16 * x + u = 16 * y + v) : u = v := by omega
theorem cp_I {C1 : CT} {v : Int32} (ht : jfty ci k = .int) (hw : CW B C) (h : cpI C a ci k v = some C1) : jpF B ci k a (.int v) (ovC C h0, ck C) = some (ovC C1 h0, ck C1) ∧ CW B C1 := by
  unfold cpI at h
  split at h
  · rename_i q
    cases h
    refine ⟨cput hw q.1 q.2.1 rfl ?_ (fun x hx => ccell_oth rfl rfl (fun y z => by simp [csI, up3, hx]) (fun _ _ => rfl) (fun _ _ => rfl) rfl) rfl, hw.1, hw.2.1, fun x hx y z => ?_⟩
    · funext z
      by_cases e : z = k
      · subst e; simp [updV, cval, ht, csI, up3]
      · simp only [updV, cval, csI, up3, if_neg e]
        simp [e]
    · have h1 := hw.2.1 a (by omega)
      have h2 := hw.2.2 x hx y z
      refine ⟨?_, h2.2.1, h2.2.2.1, h2.2.2.2⟩
      have hx' : (ck C).1 ≤ x := hx
      have : x ≠ a := by omega
      simp [csI, up3, this, h2.1]
  · cases h
theorem cp_J {C1 : CT} {v : Int64} (ht : jfty ci k = .long) (hw : CW B C) (h : cpJ C a ci k v = some C1) : jpF B ci k a (.long v) (ovC C h0, ck C) = some (ovC C1 h0, ck C1) ∧ CW B C1 := by
  unfold cpJ at h
  split at h
  · rename_i q
    cases h
    refine ⟨cput hw q.1 q.2.1 rfl ?_ (fun x hx => ccell_oth rfl rfl (fun _ _ => rfl) (fun y z => by simp [csJ, up3, hx]) (fun _ _ => rfl) rfl) rfl, hw.1, hw.2.1, fun x hx y z => ?_⟩
    · funext z
      by_cases e : z = k
      · subst e; simp [updV, cval, ht, csJ, up3]
      · simp only [updV, cval, csJ, up3, if_neg e]
        simp [e]
    · have h1 := hw.2.1 a (by omega)
      have h2 := hw.2.2 x hx y z
      refine ⟨h2.1, ?_, h2.2.2.1, h2.2.2.2⟩
      have hx' : (ck C).1 ≤ x := hx
      have : x ≠ a := by omega
      simp [csJ, up3, this, h2.2.1]
  · cases h
theorem cp_A {C1 : CT} {v : Option Nat} (ht : jrty (jfty ci k) = true) (hw : CW B C) (h : cpA C a ci k v = some C1) : jpF B ci k a (rv v) (ovC C h0, ck C) = some (ovC C1 h0, ck C1) ∧ CW B C1 := by
  unfold cpA at h
  split at h
  · rename_i q
    cases h
    refine ⟨cput hw q.1 q.2.1 rfl ?_ (fun x hx => ccell_oth rfl rfl (fun _ _ => rfl) (fun _ _ => rfl) (fun y z => by simp [csA, up3, hx]) rfl) rfl, hw.1, hw.2.1, fun x hx y z => ?_⟩
    · funext z
      by_cases e : z = k
      · subst e; rw [cval_A ht]; simp [updV, csA, up3]
      · simp only [updV, cval, csA, up3, if_neg e]
        simp [e]
    · have h1 := hw.2.1 a (by omega)
      have h2 := hw.2.2 x hx y z
      refine ⟨h2.1, h2.2.1, ?_, h2.2.2.2⟩
      have hx' : (ck C).1 ≤ x := hx
      have : x ≠ a := by omega
      simp [csA, up3, this, h2.2.2.1]
  · cases h
theorem jfty_Z : ∀ z, z ≠ 0 → jfty 2 z ≠ .boolean := by
  intro z hz
  unfold jfty
  show jTy_2 z ≠ .boolean
  match z with
  | 0 => exact absurd rfl hz
  | 1 => decide
  | 2 => decide
  | 3 => decide
  | 4 => decide
  | 5 => decide
  | n + 6 => intro q; cases q
theorem cp_Z {C1 : CT} {v : Bool} (ht : jfty ci k = .boolean) (hw : CW B C) (h : cpZ C a ci k v = some C1) : jpF B ci k a (.int (jb v)) (ovC C h0, ck C) = some (ovC C1 h0, ck C1) ∧ CW B C1 := by
  unfold cpZ at h
  split at h
  · rename_i q
    obtain ⟨q1, q2, q3⟩ := q
    subst q2; subst q3
    cases h
    refine ⟨cput hw q1 (by omega) rfl ?_ (fun x hx => ccell_oth rfl rfl (fun _ _ => rfl) (fun _ _ => rfl) (fun _ _ => rfl) (by simp [csZ, up1, hx])) rfl, hw.1, hw.2.1, fun x hx y z => ?_⟩
    · funext z
      by_cases e : z = 0
      · subst e; simp [updV, cval, ht, csZ, up1]
      · have hz := jfty_Z z e
        simp only [updV, cval, csZ, if_neg e]
        generalize jfty 2 z = t at hz
        cases t <;> first | rfl | exact absurd rfl hz
    · have h1 := hw.2.1 a (by omega)
      have h2 := hw.2.2 x hx y z
      refine ⟨h2.1, h2.2.1, h2.2.2.1, ?_⟩
      have hx' : (ck C).1 ≤ x := hx
      have : x ≠ a := by omega
      simp [csZ, up1, this, h2.2.2.2]
  · cases h
theorem ovC_I (h : C.1 a = 20) : ovC C h0 a = some (.inr (.int, C.2.1 a, fun j => .int (C.2.2.1 900 a j))) := by
  rw [ovC_at (by omega)]; unfold ccell; rw [if_neg (by omega), if_pos h]
theorem ovC_J (h : C.1 a = 21) : ovC C h0 a = some (.inr (.long, C.2.1 a, fun j => .long (C.2.2.2.1 900 a j))) := by
  rw [ovC_at (by omega)]; unfold ccell; rw [if_neg (by omega), if_neg (by omega), if_pos h]
theorem ovC_A (h : C.1 a = 30 + ci) : ovC C h0 a = some (.inr (.object (jclsN ci), C.2.1 a, fun j => rv (C.2.2.2.2.1 900 a j))) := by
  rw [ovC_at (by omega)]; unfold ccell; rw [if_neg (by omega), if_neg (by omega), if_neg (by omega), h, Nat.add_sub_cancel_left]
theorem jrg_of {n q : Nat} {j : Int32} (h : jrg n j = some q) : ¬ (j < 0 ∨ n ≤ j.toNatClampNeg) ∧ j.toNatClampNeg = q := by
  unfold jrg at h
  split at h
  · rename_i e; cases h; exact ⟨e, rfl⟩
  · cases h
theorem ca_I {x : Int32} {j : Int32} (h : caI C a j = some x) : jaI (ovC C h0) a j = some x := by
  unfold caI at h
  split at h
  · rename_i q
    obtain ⟨n, hn, e⟩ := Option.map_eq_some_iff.mp h
    obtain ⟨h1, rfl⟩ := jrg_of hn
    subst e
    unfold jaI jaV
    rw [ovC_I q]
    dsimp only
    rw [if_pos ⟨rfl, h1⟩]
    rfl
  · cases h
theorem ca_J {x : Int64} {j : Int32} (h : caJ C a j = some x) : jaJ (ovC C h0) a j = some x := by
  unfold caJ at h
  split at h
  · rename_i q
    obtain ⟨n, hn, e⟩ := Option.map_eq_some_iff.mp h
    obtain ⟨h1, rfl⟩ := jrg_of hn
    subst e
    unfold jaJ jaV
    rw [ovC_J q]
    dsimp only
    rw [if_pos ⟨rfl, h1⟩]
    rfl
  · cases h
theorem ca_A {x : Option Nat} {j : Int32} (h : caA C a ci j = some x) : jaA (ovC C h0) a j = some x := by
  unfold caA at h
  split at h
  · rename_i q
    obtain ⟨n, hn, e⟩ := Option.map_eq_some_iff.mp h
    obtain ⟨h1, rfl⟩ := jrg_of hn
    subst e
    unfold jaA jaR
    rw [ovC_A q.1]
    simp only [if_pos h1]
    exact jvA_rv _
  · cases h
theorem ca_len {x : Int32} (h : cal C a = some x) : jal (ovC C h0) a = some x := by
  unfold cal at h
  split at h
  · rename_i q
    cases h
    unfold jal
    rw [ovC_at (by omega)]
    unfold ccell
    rw [if_neg (by omega)]
    by_cases e1 : C.1 a = 20
    · rw [if_pos e1]
    · rw [if_neg e1]
      by_cases e2 : C.1 a = 21
      · rw [if_pos e2]
      · rw [if_neg e2]
  · cases h
theorem cs_at (hs : CS B SA h0) (hw : CW B C) (hk : k < 4) : ovC C h0 (SA k) = h0 (SA k) := by
  unfold ovC
  rw [if_pos]
  by_cases e : C.1 (SA k) = 0
  · exact e
  · exact absurd (hw.2.1 _ e).1 (by have := (hs k hk).1; omega)
theorem cs_I {x : Int32} {j : Int32} (hs : CS B SA h0) (hw : CW B C) (h : jsr k j = some x) : jaI (ovC C h0) (SA k) j = some x := by
  unfold jsr at h
  split at h
  · rename_i hk
    obtain ⟨n, hn, e⟩ := Option.map_eq_some_iff.mp h
    obtain ⟨h1, rfl⟩ := jrg_of hn
    subst e
    obtain ⟨h2, n, f, h3, rfl, h4⟩ := hs k hk
    unfold jaI jaV
    rw [cs_at hs hw hk, h3]
    dsimp only
    rw [if_pos ⟨rfl, h1⟩]
    show jvI (f _) = _
    rw [h4 _ (by have := h1; omega)]
    rfl
  · cases h
theorem cs_len {x : Int32} (hs : CS B SA h0) (hw : CW B C) (h : jsl k = some x) : jal (ovC C h0) (SA k) = some x := by
  unfold jsl at h
  split at h
  · rename_i hk
    cases h
    obtain ⟨h2, n, f, h3, rfl, h4⟩ := hs k hk
    unfold jal
    rw [cs_at hs hw hk, h3]
    rfl
  · cases h
theorem cqput {C1 : CT} {w : Value} {ty : FieldType} {n : Nat} {f : Nat → Value} {j : Int32} (hw : CW B C) (ht : C.1 a ≠ 0) (e0 : ccell C a = .inr (ty, n, f)) (hj : ¬ (j < 0 ∨ n ≤ j.toNatClampNeg)) (e1 : C1.1 = C.1) (e2 : ccell C1 a = .inr (ty, n, updV f j.toNatClampNeg w)) (e3 : ∀ q, q ≠ a → ccell C1 q = ccell C q) (e4 : ck C1 = ck C) : jpA B ty a j w (ovC C h0, ck C) = some (ovC C1 h0, ck C1) := by
  unfold jpA
  dsimp only
  rw [ovC_at ht, e0]
  dsimp only
  rw [if_pos ⟨rfl, (hw.2.1 a ht).1, hj⟩, e4, ovC_set ht e1 e2 e3]
theorem cq_I {C1 : CT} {v : Int32} {j : Int32} (hw : CW B C) (h : cqI C a j v = some C1) : jpA B .int a j (.int v) (ovC C h0, ck C) = some (ovC C1 h0, ck C1) ∧ CW B C1 := by
  unfold cqI at h
  split at h
  · rename_i q
    obtain ⟨n, hn, e⟩ := Option.map_eq_some_iff.mp h
    obtain ⟨h1, rfl⟩ := jrg_of hn
    subst e
    refine ⟨cqput hw (by omega) (by unfold ccell; rw [if_neg (by omega), if_pos q]) h1 rfl ?_ (fun x hx => ccell_oth rfl rfl (fun y z => by simp [csI, up3, hx]) (fun _ _ => rfl) (fun _ _ => rfl) rfl) rfl, hw.1, hw.2.1, fun x hx y z => ?_⟩
    · unfold ccell
      have q' : (csI C 900 a j.toNatClampNeg v).1 a = 20 := q
      rw [if_neg (by omega), if_pos q']
      congr 3
      funext z
      by_cases e : z = j.toNatClampNeg <;> simp [csI, up3, updV, e]
    · have h3 := hw.2.1 a (by omega)
      have h2 := hw.2.2 x hx y z
      refine ⟨?_, h2.2.1, h2.2.2.1, h2.2.2.2⟩
      have hx' : (ck C).1 ≤ x := hx
      have : x ≠ a := by omega
      simp [csI, up3, this, h2.1]
  · cases h
theorem cq_J {C1 : CT} {v : Int64} {j : Int32} (hw : CW B C) (h : cqJ C a j v = some C1) : jpA B .long a j (.long v) (ovC C h0, ck C) = some (ovC C1 h0, ck C1) ∧ CW B C1 := by
  unfold cqJ at h
  split at h
  · rename_i q
    obtain ⟨n, hn, e⟩ := Option.map_eq_some_iff.mp h
    obtain ⟨h1, rfl⟩ := jrg_of hn
    subst e
    refine ⟨cqput hw (by omega) (by unfold ccell; rw [if_neg (by omega), if_neg (by omega), if_pos q]) h1 rfl ?_ (fun x hx => ccell_oth rfl rfl (fun _ _ => rfl) (fun y z => by simp [csJ, up3, hx]) (fun _ _ => rfl) rfl) rfl, hw.1, hw.2.1, fun x hx y z => ?_⟩
    · unfold ccell
      have q' : (csJ C 900 a j.toNatClampNeg v).1 a = 21 := q
      rw [if_neg (by omega), if_neg (by omega), if_pos q']
      congr 3
      funext z
      by_cases e : z = j.toNatClampNeg <;> simp [csJ, up3, updV, e]
    · have h3 := hw.2.1 a (by omega)
      have h2 := hw.2.2 x hx y z
      refine ⟨h2.1, ?_, h2.2.2.1, h2.2.2.2⟩
      have hx' : (ck C).1 ≤ x := hx
      have : x ≠ a := by omega
      simp [csJ, up3, this, h2.2.1]
  · cases h
theorem cq_A {C1 : CT} {b : Nat} {j : Int32} (hw : CW B C) (h : cqA C a ci j b = some C1) : jpO B a j b (ovC C h0, ck C) = some (ovC C1 h0, ck C1) ∧ CW B C1 := by
  unfold cqA at h
  split at h
  · rename_i q
    obtain ⟨q, q0, qb⟩ := q
    obtain ⟨n, hn, e⟩ := Option.map_eq_some_iff.mp h
    obtain ⟨h1, rfl⟩ := jrg_of hn
    subst e
    refine ⟨?_, hw.1, hw.2.1, fun x hx y z => ?_⟩
    · unfold jpO
      dsimp only
      rw [ovC_obj qb (by omega)]
      dsimp only
      refine cqput hw (by omega) (by unfold ccell; rw [if_neg (by omega), if_neg (by omega), if_neg (by omega), q, Nat.add_sub_cancel_left]) h1 rfl ?_ (fun x hx => ccell_oth rfl rfl (fun _ _ => rfl) (fun _ _ => rfl) (fun y z => by simp [csA, up3, hx]) rfl) rfl
      unfold ccell
      have q' : (csA C 900 a j.toNatClampNeg (some b)).1 a = 30 + ci := q
      rw [if_neg (by omega), if_neg (by omega), if_neg (by omega), q', Nat.add_sub_cancel_left]
      congr 3
      funext z
      by_cases e : z = j.toNatClampNeg <;> simp [csA, up3, updV, e, rv]
    · have h3 := hw.2.1 a (by omega)
      have h2 := hw.2.2 x hx y z
      refine ⟨h2.1, h2.2.1, ?_, h2.2.2.2⟩
      have hx' : (ck C).1 ≤ x := hx
      have : x ≠ a := by omega
      simp [csA, up3, this, h2.2.2.1]
  · cases h
theorem cw_fr {t n s : Nat} (hw : CW B C) : CW B (cfr C t n s) := by
  refine ⟨?_, fun x hx => ?_, fun x hx y z => hw.2.2 x ?_ y z⟩
  · show B ≤ (ck C).1 + 1
    have := hw.1; omega
  · show B ≤ x ∧ x < (ck C).1 + 1
    by_cases e : x = (ck C).1
    · have := hw.1; omega
    · have h1 : C.1 x ≠ 0 := by simpa [cfr, up1, e] using hx
      have := hw.2.1 x h1; omega
  · have : (ck C).1 + 1 ≤ x := hx
    omega
theorem ovC_fr {t n s : Nat} {x : JCell} (hw : CW B C) (h0t : t ≠ 0) (hx : ccell (cfr C t n s) (ck C).1 = x) : jup (ovC C h0) (ck C).1 x = ovC (cfr C t n s) h0 := by
  funext q
  unfold jup
  by_cases hq : q = (ck C).1
  · rw [if_pos hq]
    subst hq
    unfold ovC
    have : (cfr C t n s).1 (ck C).1 = t := by simp [cfr, up1]
    rw [this, if_neg h0t, hx]
  · rw [if_neg hq]
    unfold ovC
    have e1 : (cfr C t n s).1 q = C.1 q := by simp [cfr, up1, hq]
    have e2 : (cfr C t n s).2.1 q = C.2.1 q := by simp [cfr, up1, hq]
    rw [e1]
    by_cases e : C.1 q = 0
    · rw [if_pos e, if_pos e]
    · rw [if_neg e, if_neg e]
      congr 1
      unfold ccell
      rw [e1, e2]
      rfl
def jok1 (t : FieldType) : Bool := match t with | .int => true | .long => true | .boolean => true | .object _ => true | .array _ => true | _ => false
theorem jfty_ok (hc : ci < 9) : jok1 (jfty ci k) = true := by
  match ci, hc with
  | 0, _ => show jok1 (jTy_0 k) = true; unfold jTy_0; split <;> rfl
  | 1, _ => show jok1 (jTy_1 k) = true; unfold jTy_1; split <;> rfl
  | 2, _ => show jok1 (jTy_2 k) = true; unfold jTy_2; split <;> rfl
  | 3, _ => show jok1 (jTy_3 k) = true; unfold jTy_3; split <;> rfl
  | 4, _ => show jok1 (jTy_4 k) = true; unfold jTy_4; split <;> rfl
  | 5, _ => show jok1 (jTy_5 k) = true; unfold jTy_5; split <;> rfl
  | 6, _ => show jok1 (jTy_6 k) = true; unfold jTy_6; split <;> rfl
  | 7, _ => show jok1 (jTy_7 k) = true; unfold jTy_7; split <;> rfl
  | 8, _ => show jok1 (jTy_8 k) = true; unfold jTy_8; rfl
theorem jnew_go {β : Type} {f : Nat → JMem → β} {r : β} {Q : Prop} (hw : CW B C) (hc : ci < 9) (kk : f (ck C).1 (ovC (cfr C (ci + 1) 0 (jnfl ci)) h0, ck (cfr C (ci + 1) 0 (jnfl ci))) = r ∧ Q) : jnew ci (ovC C h0, ck C) f = r ∧ Q := by
  unfold jnew
  have e : jnO ci (ovC C h0, ck C) = (ovC (cfr C (ci + 1) 0 (jnfl ci)) h0, ck (cfr C (ci + 1) 0 (jnfl ci))) := by
    unfold jnO
    dsimp only
    rw [ovC_fr (t := ci + 1) (n := 0) (s := jnfl ci) hw (by omega)]
    · rfl
    · unfold ccell
      have e1 : (cfr C (ci + 1) 0 (jnfl ci)).1 (ck C).1 = ci + 1 := by simp [cfr, up1]
      rw [e1, if_pos (by omega), Nat.add_sub_cancel]
      congr 2
      funext z
      have h1 := hw.2.2 _ (Nat.le_refl (ck C).1) (16 * ci + z) 0
      have h2 := jfty_ok (k := z) hc
      unfold cval
      generalize jfty ci z = t at h2
      cases t with
      | int => exact congrArg Value.int h1.1
      | long => exact congrArg Value.long h1.2.1
      | boolean => exact congrArg (fun q => Value.int (jb q)) h1.2.2.2
      | object _ => exact congrArg rv h1.2.2.1
      | array _ => exact congrArg rv h1.2.2.1
      | _ => cases h2
  rw [e]
  exact kk
theorem cw_new (hw : CW B C) (hc : ci < 9) : CW B (cfr C (ci + 1) 0 (jnfl ci)) := cw_fr hw
theorem cn_I {n : Int32} {C1 : CT} {b : Nat} (hw : CW B C) (h : cnI n C = some (b, C1)) : jnA .int n (ovC C h0, ck C) = some (b, (ovC C1 h0, ck C1)) ∧ CW B C1 := by
  unfold cnI at h
  split at h
  · rename_i q
    cases h
    refine ⟨?_, cw_fr hw⟩
    unfold jnA
    rw [show componentBytes FieldType.int = 4 from rfl, if_pos q]
    dsimp only
    rw [ovC_fr (t := 20) (n := n.toNatClampNeg) (s := n.toNatClampNeg) hw (by decide)]
    · rfl
    · unfold ccell
      have e1 : (cfr C 20 n.toNatClampNeg n.toNatClampNeg).1 (ck C).1 = 20 := by simp [cfr, up1]
      have e2 : (cfr C 20 n.toNatClampNeg n.toNatClampNeg).2.1 (ck C).1 = n.toNatClampNeg := by simp [cfr, up1]
      rw [e1, e2, if_neg (by decide), if_pos rfl]
      congr 3
      funext z
      exact congrArg Value.int (hw.2.2 _ (Nat.le_refl _) 900 z).1
  · cases h
theorem cn_J {n : Int32} {C1 : CT} {b : Nat} (hw : CW B C) (h : cnJ n C = some (b, C1)) : jnA .long n (ovC C h0, ck C) = some (b, (ovC C1 h0, ck C1)) ∧ CW B C1 := by
  unfold cnJ at h
  split at h
  · rename_i q
    cases h
    refine ⟨?_, cw_fr hw⟩
    unfold jnA
    rw [show componentBytes FieldType.long = 8 from rfl, if_pos q]
    dsimp only
    rw [ovC_fr (t := 21) (n := n.toNatClampNeg) (s := n.toNatClampNeg) hw (by decide)]
    · rfl
    · unfold ccell
      have e1 : (cfr C 21 n.toNatClampNeg n.toNatClampNeg).1 (ck C).1 = 21 := by simp [cfr, up1]
      have e2 : (cfr C 21 n.toNatClampNeg n.toNatClampNeg).2.1 (ck C).1 = n.toNatClampNeg := by simp [cfr, up1]
      rw [e1, e2, if_neg (by decide), if_neg (by decide), if_pos rfl]
      congr 3
      funext z
      exact congrArg Value.long (hw.2.2 _ (Nat.le_refl _) 900 z).2.1
  · cases h
theorem cn_R {n : Int32} {C1 : CT} {b : Nat} (hw : CW B C) (h : cnR ci n C = some (b, C1)) : jnR ci n (ovC C h0, ck C) = some (b, (ovC C1 h0, ck C1)) ∧ CW B C1 := by
  unfold cnR at h
  split at h
  · rename_i q
    cases h
    refine ⟨?_, cw_fr hw⟩
    unfold jnR
    rw [if_pos ⟨q.1, q.2.1⟩]
    dsimp only
    rw [ovC_fr (t := 30 + ci) (n := n.toNatClampNeg) (s := n.toNatClampNeg) hw (by omega)]
    · rfl
    · unfold ccell
      have e1 : (cfr C (30 + ci) n.toNatClampNeg n.toNatClampNeg).1 (ck C).1 = 30 + ci := by simp [cfr, up1]
      have e2 : (cfr C (30 + ci) n.toNatClampNeg n.toNatClampNeg).2.1 (ck C).1 = n.toNatClampNeg := by simp [cfr, up1]
      rw [e1, e2, if_neg (by omega), if_neg (by omega), if_neg (by omega), Nat.add_sub_cancel_left]
      congr 3
      funext z
      exact congrArg rv (hw.2.2 _ (Nat.le_refl _) 900 z).2.2.1
  · cases h
end CHEAP
