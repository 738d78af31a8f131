/-! what the small machine's cells are in the heap; the heap's instructions -/
abbrev jAts : List FieldType := [.int, .long, .object "FilterBench$Section", .object "FilterBench$Chain", .object "FilterBench$Kept", .object "FilterBench$Loop"]
def jsn (k : Nat) : String := match k with | 0 => "FACTORS" | 1 => "CELLS" | 2 => "SHORTEST" | _ => "LONGEST"
def jCell (D : va_G) (E : FieldType → ClassId) (B : Nat) (U : State) (a : Nat) (c : JCell) (H : Heap) : Prop := match c with
  | .inl (ci, f) => ∃ r, jCs[ci]? = some r ∧ t_OB a (D.1 ci) r.2.2 (D.2 ci) H f
  | .inr (ty, n, f) => (B ≤ a → ty ∈ jAts ∧ H[a]? = some (arrV (E ty) n f)) ∧ ∃ cell : Cell, H[a]? = some cell ∧ U.isArrayOf cell ty ∧ cell.vm ≠ .unknown ∧ n ≤ cell.slots.size ∧ cell.slots.size.toInt32 = Int32.ofNat n ∧ ∀ j, j < n → cell.slots[j]? = some (f j)
def jRel (D : va_G) (E : FieldType → ClassId) (B : Nat) (H0 : Heap) (μ : JMem) (U : State) (H : Heap) : Prop :=
  H.size = μ.2.1 ∧ B ≤ μ.2.1 ∧ (∀ q : Nat, q < B → H[q]? = H0[q]?) ∧ ∀ (a : Nat) (c : JCell), μ.1 a = some c → jCell D E B U a c H
def jKn (D : va_G) (E : FieldType → ClassId) (SA : Nat → Nat) (B : Nat) (H0 : Heap) (U : State) : Prop :=
  va_K D jCs [] U ∧ (∀ ty ∈ jAts, U.vm.findClass ("[" ++ ty.toString) = some (E ty) ∧ ArrOfT U (E ty) ty ∧ va_RA U (E ty) ty) ∧ ∀ k, k < 4 → va_Z "FilterBench" (jsn k) "[I" (.ref (SA k)) (fun q => B ≤ q) U H0
theorem jCell.kept {D : va_G} {E : FieldType → ClassId} {B : Nat} {U : State} {a : Nat} {c : JCell} {H H1 : Heap} (h : jCell D E B U a c H) (hq : H1[a]? = H[a]?) : jCell D E B U a c H1 := by
  cases c with
  | inl o => obtain ⟨r, h1, h2⟩ := h; exact ⟨r, h1, h2.kept hq⟩
  | inr o =>
    obtain ⟨h1, cell, h2, h3⟩ := h
    exact ⟨fun q => ⟨(h1 q).1, hq.trans (h1 q).2⟩, cell, hq.trans h2, h3⟩
theorem jCell.moved {D : va_G} {E : FieldType → ClassId} {B : Nat} {u U : State} (hvm : u.vm.Alike U.vm) {a : Nat} {c : JCell} {H : Heap} (h : jCell D E B u a c H) : jCell D E B U a c H := by
  cases c with
  | inl o => exact h
  | inr o =>
    obtain ⟨h1, cell, h2, h3, h4⟩ := h
    exact ⟨h1, cell, h2, State.isArrayOf_alike hvm h3, h4⟩
theorem jCell.lt {D : va_G} {E : FieldType → ClassId} {B : Nat} {U : State} {a : Nat} {c : JCell} {H : Heap} (h : jCell D E B U a c H) : a < H.size := by
  cases c with
  | inl o => obtain ⟨r, -, cell, h2, -⟩ := h; exact (Array.getElem?_eq_some_iff.mp h2).1
  | inr o => obtain ⟨-, cell, h2, -⟩ := h; exact (Array.getElem?_eq_some_iff.mp h2).1
theorem jRel.moved {D : va_G} {E : FieldType → ClassId} {B : Nat} {H0 H : Heap} {μ : JMem} {u U : State} (hvm : u.vm.Alike U.vm) (h : jRel D E B H0 μ u H) : jRel D E B H0 μ U H :=
  ⟨h.1, h.2.1, h.2.2.1, fun a c q => (h.2.2.2 a c q).moved hvm⟩
theorem jKn.moved {D : va_G} {E : FieldType → ClassId} {SA : Nat → Nat} {B : Nat} {H0 : Heap} {u U : State} (hvm : u.vm.Alike U.vm) (h : jKn D E SA B H0 u) : jKn D E SA B H0 U :=
  ⟨va_K.moved hvm h.1, fun ty q => ⟨by rw [hvm.findClass]; exact (h.2.1 ty q).1, arrOfT_moved hvm (h.2.1 ty q).2.1, (h.2.1 ty q).2.2.moved hvm⟩, fun k q => (h.2.2 k q).moved hvm⟩
theorem jRel.set {D : va_G} {E : FieldType → ClassId} {B : Nat} {H0 H H' : Heap} {μ : JMem} {U : State} (h : jRel D E B H0 μ U H) {a : Nat} (hB : B ≤ a) {c : JCell} (e : jCell D E B U a c H') (z : H'.size = H.size) (o : ∀ q : Nat, q ≠ a → H'[q]? = H[q]?) : jRel D E B H0 (jup μ.1 a c, μ.2) U H' := by
  refine ⟨z.trans h.1, h.2.1, fun q hq => (o q (by omega)).trans (h.2.2.1 q hq), fun q c' hq => ?_⟩
  simp only [jup] at hq
  split at hq
  · rename_i e2
    subst e2; cases hq; exact e
  · rename_i e2
    exact (h.2.2.2 q c' hq).kept (o q e2)
theorem jRel.push {D : va_G} {E : FieldType → ClassId} {B : Nat} {H0 H H' : Heap} {μ : JMem} {U : State} (h : jRel D E B H0 μ U H) {c : JCell} {n : Nat} (e : jCell D E B U μ.2.1 c H') (z : H'.size = μ.2.1 + 1) (o : ∀ q : Nat, q < μ.2.1 → H'[q]? = H[q]?) : jRel D E B H0 (jup μ.1 μ.2.1 c, μ.2.1 + 1, μ.2.2 + n) U H' := by
  refine ⟨z, Nat.le_succ_of_le h.2.1, fun q hq => (o q (Nat.lt_of_lt_of_le hq h.2.1)).trans (h.2.2.1 q hq), fun q c' hq => ?_⟩
  simp only [jup] at hq
  split at hq
  · rename_i e2
    subst e2; cases hq; exact e
  · rename_i e2
    exact (h.2.2.2 q c' hq).kept (o q (by rw [← h.1]; exact (h.2.2.2 q c' hq).lt))
/-- the classes' words are among the tables', their fields' types are known, their names differ -/
theorem jC_in : ∀ (ci : Nat) (q : vw_C), jCs[ci]? = some q → ∀ w ∈ u_ws q.1 q.2.1 q.2.2, w ∈ lw_tbl := by
  have h : jCs.all (fun q => (u_ws q.1 q.2.1 q.2.2).all (fun w => decide (w ∈ lw_tbl))) = true := by decide +kernel
  intro ci q hq w hw
  have h1 := List.all_eq_true.mp h q (List.mem_of_getElem? hq)
  exact of_decide_eq_true (List.all_eq_true.mp h1 w hw)
theorem jC_ty : ∀ (ci : Nat) (q : vw_C), jCs[ci]? = some q → ∀ k, k < q.2.2 → parseFieldDescriptor (q.2.1 k).2.2.1 = some (jfty ci k) := by
  have h : (List.range 9).all (fun ci => match jCs[ci]? with | some q => (List.range q.2.2).all (fun k => decide (parseFieldDescriptor (q.2.1 k).2.2.1 = some (jfty ci k))) | none => true) = true := by decide +kernel
  intro ci q hq k hk
  have hci : ci < 9 := (List.getElem?_eq_some_iff.mp hq).1
  have h1 := List.all_eq_true.mp h ci (List.mem_range.mpr hci)
  rw [hq] at h1
  exact of_decide_eq_true (List.all_eq_true.mp h1 k (List.mem_range.mpr hk))
theorem jC_nm : ∀ (ci : Nat) (q : vw_C), jCs[ci]? = some q → ∀ a, a < q.2.2 → ∀ b, b < q.2.2 → a ≠ b → (q.2.1 a).2.1 ≠ (q.2.1 b).2.1 := by
  have h : jCs.all (fun q => (List.range q.2.2).all (fun a => (List.range q.2.2).all (fun b => decide (a ≠ b → (q.2.1 a).2.1 ≠ (q.2.1 b).2.1)))) = true := by decide +kernel
  intro ci q hq a ha b hb
  have h1 := List.all_eq_true.mp h q (List.mem_of_getElem? hq)
  exact of_decide_eq_true (List.all_eq_true.mp (List.all_eq_true.mp h1 a (List.mem_range.mpr ha)) b (List.mem_range.mpr hb))
/-- what the tables say of an instruction that goes to the heap -/
def jhepOK (own nm : String) (i : Instr) (r : List Nat) (args : Array Value) (s : State) : Prop := match i with
  | .getfield x => ∀ ci k, r = [ci, k] → ∃ q, jCs[ci]? = some q ∧ k < q.2.2 ∧ (Jvm.Cond.fieldLink own x (q.2.1 k).1 (q.2.1 k).2.1 (q.2.1 k).2.2.1).before args s = true
  | .putfield x => ∀ ci k, r = [ci, k] → ∃ q, jCs[ci]? = some q ∧ k < q.2.2 ∧ (Jvm.Cond.fieldLink own x (q.2.1 k).1 (q.2.1 k).2.1 (q.2.1 k).2.2.1).before args s = true ∧ ((q.2.1 k).2.2.2 = false ∨ ((q.2.1 k).2.2.2 = true ∧ nm = "<init>" ∧ (q.2.1 k).1 = own))
  | .getstatic x => ∀ k, r = [k] → k < 4 ∧ ((Jvm.Cond.fieldLink own x "FilterBench" (jsn k) "[I").before args s = true ∨ (Jvm.Cond.fieldLinkNest own x "FilterBench" (jsn k) "[I" "FilterBench").before args s = true)
  | .new x => ∀ ci, r = [ci] → ∃ q, jCs[ci]? = some q ∧ (Jvm.Cond.classLink own x q.1).before args s = true ∧ (Jvm.Cond.instantiable q.1 q.2.2).before args s = true ∧ (Jvm.Cond.initialized q.1).before args s = true
  | .newarray t => (Jvm.Cond.arrayClass (Op.newarray.typeOf t)).before args s = true ∧ Op.newarray.typeOf t ∈ jAts
  | .anewarray x => ∀ ci, r = [ci] → ∃ q, jCs[ci]? = some q ∧ (Jvm.Cond.classLink own x q.1).before args s = true ∧ (Jvm.Cond.arrayOver (.object q.1)).before args s = true ∧ .object q.1 ∈ jAts
  | _ => True
section SIM2
variable {p : Program} {l : Launch} {e : Env} {R : Room} {s : State} {m : MethodId} {args : Array Value} {below : List Frame} {meth : Method} {c : Code} {H : Heap} {locs : List Loc} {cells slots : Nat} {Q : State → Prop}
variable {cc : ByteArray} {pc : Nat} {ls : Array Slot} {D : va_G} {E : FieldType → ClassId} {B : Nat} {H0 : Heap} {SA : Nat → Nat} {μ μ' : JMem}
theorem j_locs {B a k : Nat} {locs : List Loc} (h : ∀ q ∈ locs, B ≤ q.base) (ha : B ≤ a) : ∀ q ∈ locs ++ [⟨a, k⟩], B ≤ q.base := by
  intro q hq
  rcases List.mem_append.mp hq with h1 | h1
  · exact h q h1
  · rw [List.mem_singleton] at h1
    subst h1
    exact ha
theorem jarr_new {cA : ClassId} {ty : FieldType} {a n : Nat} {f : Nat → Value} {s : State} {H : Heap} (hE : E ty = cA) (hty : ty ∈ jAts) (hA : ArrOfT s cA ty) (e : H[a]? = some (arrV cA n f)) : jCell D E B s a (.inr (ty, n, f)) H := by
  subst hE
  refine ⟨fun _ => ⟨hty, e⟩, _, e, hA n f, (fun q => by cases q), (by rw [arrV_size]; exact Nat.le_refl _), (by rw [arrV_size]), fun j hj => arrV_read _ _ hj⟩
/-- a store into an array -/
theorem jarS_spec {ty : FieldType} {a : Nat} {j : Int32} {v : Value} {st st' : List Value} (h : jarS B ty a j v st μ = some (st', μ')) (hK : jKn D E SA B H0 s) (hR : jRel D E B H0 μ s H) :
    st' = st ∧ ∃ (cell : Cell) (n : Nat) (f : Nat → Value), ty ∈ jAts ∧ H[a]? = some cell ∧ cell = arrV (E ty) n f ∧ ¬ (j < 0 ∨ cell.slots.size ≤ j.toNatClampNeg) ∧ B ≤ a ∧ μ'.2 = μ.2 ∧
      ∀ H' : Heap, H'[a]? = some (cell.setSlot j.toNatClampNeg v) → H'.size = H.size → (∀ q : Nat, q ≠ a → H'[q]? = H[q]?) → jRel D E B H0 μ' s H' := by
  unfold jarS at h
  split at h
  · rename_i t n f e
    split at h
    · rename_i hc
      obtain ⟨rfl, hB, hin⟩ := hc
      cases h
      obtain ⟨h1, -⟩ := hR.2.2.2 a _ e
      obtain ⟨hty, e1⟩ := h1 hB
      refine ⟨rfl, _, n, f, hty, e1, rfl, by rw [arrV_size]; exact hin, hB, rfl, fun H' e2 z o => hR.set hB ?_ z o⟩
      exact jarr_new rfl hty (hK.2.1 _ hty).2.1 (by rw [e2, arrV_store])
    · cases h
  · cases h
set_option maxHeartbeats 4000000 in
theorem sim_hep (hx : p.tables.exec = Jvm.exec) (hb : c.code = cc) {own nm : String} (hown : s.vm.findClass own = some m.cls) (hnm : meth.name = nm) (hts : ∀ w ∈ lw_tbl, w.before args s = true) {i : Instr} {r : List Nat} {st st' : List Value} (h : jHep B SA i r st μ = some (st', μ')) (hdg : decode cc pc = .ok (i, jlen i))
    (hok : jhepOK own nm i r args s) (hK : jKn D E SA B H0 s) (hR : jRel D E B H0 μ s H) (hB0 : H0.size = B) (hL : ∀ q ∈ locs, B ≤ q.base) (hc : cells + (μ'.2.1 - μ.2.1) ≤ R.cells) (hs : slots + (μ'.2.2 - μ.2.2) ≤ R.slots)
    (k : ∀ (H' : Heap) (locs' : List Loc), jRel D E B H0 μ' s H' → (∀ q ∈ locs', B ≤ q.base) → W p l e R s m args below meth c H' locs' (cells + (μ'.2.1 - μ.2.1)) (slots + (μ'.2.2 - μ.2.2)) Q (F0 m (pc + jlen i) ls st')) : W p l e R s m args below meth c H locs cells slots Q (F0 m pc ls st) := by
  have arr : ∀ {ty : FieldType} {a : Nat} {n : Nat} {f : Nat → Value} {j : Int32}, μ.1 a = some (.inr (ty, n, f)) → ¬ (j < 0 ∨ n ≤ j.toNatClampNeg) → ∃ cell : Cell, H[a]? = some cell ∧ s.isArrayOf cell ty ∧ cell.vm ≠ .unknown ∧ ¬ (j < 0 ∨ cell.slots.size ≤ j.toNatClampNeg) ∧ cell.slots[j.toNatClampNeg]? = some (f j.toNatClampNeg) := by
    intro ty a n f j e hj
    obtain ⟨-, cell, h1, h2, h3, h4, -, h6⟩ := hR.2.2.2 a _ e
    exact ⟨cell, h1, h2, h3, fun q => hj (q.imp id (fun q => by omega)), h6 _ (by rcases Nat.lt_or_ge j.toNatClampNeg n with q | q; exact q; exact absurd (Or.inr q) hj)⟩
  cases i with
  | getfield x =>
    simp only [jHep] at h
    split at h
    · rename_i ci kf
      split at h
      · rename_i a r0
        split at h
        · rename_i c0 f e
          split at h
          · rename_i hcc
            subst hcc
            cases h
            simp only [Nat.sub_self, Nat.add_zero] at k
            obtain ⟨q, h1, h2, h3⟩ := hok _ _ rfl
            obtain ⟨q', h1', cell, q1, q2, q3, q4⟩ := hR.2.2.2 a _ e
            cases h1.symm.trans h1'
            obtain ⟨hS, hfc, kC, hkC, hkind⟩ := hK.1.1 _ _ h1
            obtain ⟨cf, kf, fi, fd, hi, hsl⟩ := hS _ h2
            exact W.getf hx hb hown h3 hi (u_facts hfc hkC (u_lays hts (jC_in _ _ h1) h2) hi).1 q1 (by rw [q3]; exact fun h => by cases h) (by rw [hsl]; exact q4 _ h2) rfl rfl hdg (k H locs hR hL)
          · cases h
        · cases h
      · cases h
    · cases h
  | putfield x =>
    simp only [jHep] at h
    split at h
    · rename_i ci kf
      split at h
      · rename_i v a r0
        split at h
        · rename_i c0 f e
          split at h
          · rename_i hcc
            obtain ⟨hcc, hB, hn, hfit⟩ := hcc
            subst hcc
            cases h
            simp only [Nat.sub_self, Nat.add_zero] at k
            obtain ⟨q, h1, h2, h3, h4⟩ := hok _ _ rfl
            obtain ⟨q', h1', cell, q1, q2, q3, q4⟩ := hR.2.2.2 a _ e
            cases h1.symm.trans h1'
            have hap := va_apart (own := own) hts (jC_in _ _ h1) (jfty c0) (jC_ty _ _ h1) (jC_nm _ _ h1) hK.1 h1
            obtain ⟨hS, hfc, kC, hkC, hkind⟩ := hK.1.1 _ _ h1
            obtain ⟨cf, kf', fi, fd, hi, hsl⟩ := hS _ h2
            have hlay := hts _ (jC_in _ _ h1 _ (u_in_lay h2))
            have hd := jC_ty _ _ h1 _ h2
            have hst := (u_facts hfc hkC (u_lays hts (jC_in _ _ h1) h2) hi).1
            unfold u_lay at hlay
            have fin : ∀ H' : Heap, H'[a]? = some (cell.setSlot fd.slot v) → H'.size = H.size → (∀ q : Nat, q ≠ a → H'[q]? = H[q]?) → jRel D E B H0 (jup μ.1 a (.inl (c0, updV f kf v)), μ.2) s H' := by
              intro H' e1 e2 e3
              rw [hsl] at e1
              exact hR.set hB ⟨_, h1, _, e1, q2, q3, t_set q4 hap h2 v⟩ e2 e3
            rcases h4 with h4 | ⟨h4, h5, h6⟩
            · rw [if_neg (by rw [h4]; decide)] at hlay
              have h6 := u_store hfc hkC hkind hlay hi hd hn hfit
              refine W.putK hx hb (f := fd) ⟨hown, h3, ⟨_, _, _, hi⟩, hst⟩ (by rw [q2]; exact h6) q1 q3 (by rw [hsl]; exact k2_hasslot (q4 _ h2)) rfl rfl hdg fun H' e1 e2 e3 => ?_
              exact k H' _ (fin H' e1 e2 e3) (j_locs hL hB)
            · rw [if_pos h4] at hlay
              have hcf : m.cls = cf := by
                obtain ⟨_, _, c', _, _, _, -, -, hf', -, -, -, hown2, -⟩ := Cond.laysFinal_spec hlay
                have e1 : c' = cf := by have := hi.symm.trans hf'; simp at this; exact this.1.symm
                rw [h6] at hown2
                rw [← e1]; exact Option.some.inj (hown.symm.trans hown2)
              have h7 := u_fits hfc hkC hkind (Or.inr hlay) hi hd hn hfit
              refine W.putFinK hx hb hown h3 hi hst hcf (by rw [hnm]; exact h5) (by rw [q2]; exact h7) q1 q3 (by rw [hsl]; exact k2_hasslot (q4 _ h2)) rfl rfl hdg fun H' e1 e2 e3 => ?_
              exact k H' _ (fin H' e1 e2 e3) (j_locs hL hB)
          · cases h
        · cases h
      · cases h
    · cases h
  | getstatic x =>
    simp only [jHep] at h
    split at h
    · rename_i sid
      cases h
      simp only [Nat.sub_self, Nat.add_zero] at k
      obtain ⟨h1, h2⟩ := hok _ rfl
      obtain ⟨cf, kf, fi, f, a, cell, z1, z2, z3, z4, z5, z6, z7, z8⟩ := hK.2.2 sid h1
      have haB : a < B := Nat.not_le.mp z8
      have z5' : H[a]? = some cell := (hR.2.2.1 a haB).trans z5
      rcases h2 with h2 | h2
      · exact W.gets hx hb hown h2 z1 z2 z3 z4 z5' (fun e => by rw [e] at z6; cases z6) z7 rfl hdg (k H locs hR hL)
      · exact va_WgetsN hx hb hown h2 z1 z2 z3 z4 z5' (fun e => by rw [e] at z6; cases z6) z7 rfl hdg (k H locs hR hL)
    · cases h
  | iaload =>
    simp only [jHep, jald] at h
    split at h
    · split at h
      · split at h
        · rename_i e hc'
          obtain ⟨rfl, hj⟩ := hc'
          cases h
          simp only [Nat.sub_self, Nat.add_zero] at k
          obtain ⟨cell, h1, h2, h3, h4, h5⟩ := arr e hj
          exact W.iald hx hb h1 h2 h3 h4 h5 rfl rfl hdg (k H locs hR hL)
        · cases h
      · cases h
    · cases h
  | laload =>
    simp only [jHep, jald] at h
    split at h
    · split at h
      · split at h
        · rename_i e hc'
          obtain ⟨rfl, hj⟩ := hc'
          cases h
          simp only [Nat.sub_self, Nat.add_zero] at k
          obtain ⟨cell, h1, h2, h3, h4, h5⟩ := arr e hj
          exact W.lald hx hb h1 h2 h3 h4 h5 rfl rfl hdg (k H locs hR hL)
        · cases h
      · cases h
    · cases h
  | daload =>
    simp only [jHep, jald] at h
    split at h
    · split at h
      · split at h
        · rename_i e hc'
          obtain ⟨rfl, hj⟩ := hc'
          cases h
          simp only [Nat.sub_self, Nat.add_zero] at k
          obtain ⟨cell, h1, h2, h3, h4, h5⟩ := arr e hj
          exact W.dald hx hb h1 h2 h3 h4 h5 rfl rfl hdg (k H locs hR hL)
        · cases h
      · cases h
    · cases h
  | aaload =>
    simp only [jHep] at h
    split at h
    · split at h
      · split at h
        · rename_i e hj
          cases h
          simp only [Nat.sub_self, Nat.add_zero] at k
          obtain ⟨cell, h1, h2, h3, h4, h5⟩ := arr e hj
          exact W.aald hx hb h1 h2 rfl h3 h4 h5 rfl rfl hdg (k H locs hR hL)
        · cases h
      · cases h
    · cases h
  | iastore =>
    simp only [jHep] at h
    split at h
    · obtain ⟨rfl, cell, n, f, hty, e1, rfl, hin, hB, hμ, fin⟩ := jarS_spec h hK hR
      rw [hμ] at k
      simp only [Nat.sub_self, Nat.add_zero] at k
      exact W.iast hx hb e1 ((hK.2.1 _ hty).2.1 n f) (fun q => by cases q) hin rfl rfl hdg fun H' e z o => k H' _ (fin H' e z o) (j_locs hL hB)
    · cases h
  | lastore =>
    simp only [jHep] at h
    split at h
    · obtain ⟨rfl, cell, n, f, hty, e1, rfl, hin, hB, hμ, fin⟩ := jarS_spec h hK hR
      rw [hμ] at k
      simp only [Nat.sub_self, Nat.add_zero] at k
      exact W.last hx hb e1 ((hK.2.1 _ hty).2.1 n f) (fun q => by cases q) hin rfl rfl hdg fun H' e z o => k H' _ (fin H' e z o) (j_locs hL hB)
    · cases h
  | dastore =>
    simp only [jHep] at h
    split at h
    · obtain ⟨rfl, cell, n, f, hty, e1, rfl, hin, hB, hμ, fin⟩ := jarS_spec h hK hR
      rw [hμ] at k
      simp only [Nat.sub_self, Nat.add_zero] at k
      exact W.dast hx hb e1 ((hK.2.1 _ hty).2.1 n f) (fun q => by cases q) hin rfl rfl hdg fun H' e z o => k H' _ (fin H' e z o) (j_locs hL hB)
    · cases h
  | aastore =>
    simp only [jHep] at h
    split at h
    · rename_i b j a r0
      split at h
      · rename_i c0 f0 e0
        obtain ⟨rfl, cell, n, f, hty, e1, rfl, hin, hB, hμ, fin⟩ := jarS_spec h hK hR
        rw [hμ] at k
        simp only [Nat.sub_self, Nat.add_zero] at k
        obtain ⟨q, h1, cv, g1, g2, g3, -⟩ := hR.2.2.2 b _ e0
        have hcl := (hK.1.1 _ _ h1).2
        have hnm2 : jclsN c0 = q.1 := by unfold jclsN; rw [h1]
        rw [hnm2] at hty e1 hin fin
        obtain ⟨kA, comp, k1, k2, k3, -⟩ := (hK.2.1 _ hty).2.2
        have hcomp : comp = D.1 c0 := Option.some.inj (k3.symm.trans hcl.1)
        subst hcomp
        obtain ⟨kC, hkC, -⟩ := hcl.2
        have h0 : ¬ j < 0 := fun q => hin (Or.inl q)
        have hlt : j.toNatClampNeg < (arrV (E (.object q.1)) n f).slots.size := Nat.not_le.mp fun q => hin (Or.inr q)
        exact W.aast hx hb e1 (fun q h => by cases h) (fun h => by cases h) k1 k2 rfl hkC ⟨h0, hlt⟩ g1 (fun q h => by rw [g3] at h; cases h) (by rw [g2]; exact hkC) (by rw [g2]; exact va_assign hcl) rfl rfl hdg fun H' e z o => k H' _ (fin H' e z o) (j_locs hL hB)
      · cases h
    · cases h
  | arraylength =>
    simp only [jHep] at h
    split at h
    · split at h
      · rename_i e
        cases h
        simp only [Nat.sub_self, Nat.add_zero] at k
        obtain ⟨-, cell, h1, h2, h3, h4, h5, -⟩ := hR.2.2.2 _ _ e
        exact W.alen hx hb h1 h2 h5 rfl rfl hdg (k H locs hR hL)
      · cases h
    · cases h
  | new x =>
    simp only [jHep] at h
    split at h
    · rename_i ci
      cases h
      obtain ⟨q, h1, h2, h3, h4⟩ := hok _ rfl
      have hn : jnfl ci = q.2.2 := by unfold jnfl; rw [h1]
      rw [hn] at k hs
      simp only [Nat.add_sub_cancel_left] at k hc hs
      have hKn := hK.1.1 _ _ h1
      refine W.newcK hx hb hown h2 h3 h4 rfl hdg hc hs hKn.2.1 hR.1 fun H' kC hkC e1 z o => ?_
      exact k H' _ (hR.push ⟨q, h1, u_born (jfty ci) hts (jC_in _ _ h1) hKn hkC e1 (jC_ty _ _ h1)⟩ z o) hL
    · cases h
  | newarray t =>
    simp only [jHep] at h
    split at h
    · split at h
      · rename_i hcnd
        cases h
        obtain ⟨h1, h2⟩ := hok
        simp only [Nat.add_sub_cancel_left] at k hc hs
        refine va_newaK hx hb h1 rfl hdg rfl hcnd.1 rfl hcnd.2 hc hs hR.1 fun H' cA e z o hA hN => ?_
        have hE : E (Op.newarray.typeOf t) = cA := Option.some.inj ((hK.2.1 _ h2).1.symm.trans hN)
        exact k H' _ (hR.push (jarr_new hE h2 hA e) z o) hL
      · cases h
    · cases h
  | anewarray x =>
    simp only [jHep] at h
    split at h
    · rename_i ci
      split at h
      · rename_i n r0
        split at h
        · rename_i hcnd
          cases h
          obtain ⟨q, h1, h2, h3, h4⟩ := hok _ rfl
          have hnm2 : jclsN ci = q.1 := by unfold jclsN; rw [h1]
          rw [hnm2] at k
          simp only [Nat.add_sub_cancel_left] at k hc hs
          refine W.anew hx hb hown h2 h3 rfl hdg rfl hcnd.1 hcnd.2 hc hs fun cA kA comp f1 f2 f3 f4 => ?_
          have hE : E (.object q.1) = cA := Option.some.inj ((hK.2.1 _ h4).1.symm.trans f1)
          have z1 := hR.1
          rw [z1]
          refine k _ _ (hR.push (jarr_new hE h4 (by rw [← hE]; exact (hK.2.1 _ h4).2.1) ?_) (by rw [Array.size_push, z1]) (fun q hq => by rw [Array.getElem?_push, if_neg (by omega)])) hL
          rw [← z1, Array.getElem?_push_size, ← arrV_new]
        · cases h
      · cases h
    · cases h
  | _ => simp [jHep] at h
end SIM2
