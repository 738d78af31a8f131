/-! THE REFERENCE'S STATE: its fields and arrays as functions; the memory that holds it (printed by wip/whole/mod.py) -/
abbrev MT : Type := (Nat → Nat → Int32) × (Nat → Nat → Int64) × (Nat → Nat → UInt64) × (Nat → Bool)
def up2 {α : Type} (f : Nat → Nat → α) (k j : Nat) (v : α) : Nat → Nat → α := fun a b => if a = k ∧ b = j then v else f a b
def tsI (T : MT) (k j : Nat) (v : Int32) : MT := (up2 T.1 k j v, T.2)
def tsJ (T : MT) (k j : Nat) (v : Int64) : MT := (T.1, up2 T.2.1 k j v, T.2.2)
def tsD (T : MT) (k j : Nat) (v : UInt64) : MT := (T.1, T.2.1, up2 T.2.2.1 k j v, T.2.2.2)
def tsZ (T : MT) (k : Nat) (v : Bool) : MT := (T.1, T.2.1, T.2.2.1, fun a => if a = k then v else T.2.2.2 a)
def tbd2 {α β : Type} (o : Option (α × MT)) (f : α → MT → Option β) : Option β := o.bind fun q => f q.1 q.2
theorem tbd2_some {α β : Type} (x : α) (T : MT) (f : α → MT → Option β) : tbd2 (some (x, T)) f = f x T := rfl
/-- an index of a row of n, as a number -/
def jrg (n : Nat) (j : Int32) : Option Nat := if ¬ (j < 0 ∨ n ≤ j.toNatClampNeg) then some j.toNatClampNeg else none
def mty (k : Nat) : Nat := match k with
  | 0 => 0
  | 1 => 0
  | 2 => 4
  | 3 => 4
  | 4 => 4
  | 5 => 4
  | 6 => 4
  | 7 => 6
  | 8 => 4
  | 9 => 4
  | 10 => 4
  | 11 => 4
  | 12 => 4
  | 13 => 6
  | 14 => 4
  | 15 => 5
  | 16 => 0
  | 17 => 4
  | 18 => 4
  | 19 => 4
  | 20 => 4
  | 21 => 4
  | 22 => 4
  | 23 => 4
  | 24 => 6
  | 25 => 6
  | 26 => 4
  | 27 => 6
  | 28 => 4
  | 29 => 0
  | 30 => 0
  | 31 => 2
  | 32 => 1
  | 33 => 2
  | 34 => 0
  | 35 => 4
  | 36 => 4
  | 37 => 4
  | 38 => 6
  | 39 => 0
  | 40 => 0
  | 41 => 2
  | 42 => 0
  | 43 => 4
  | 44 => 0
  | 45 => 4
  | 46 => 6
  | 47 => 4
  | 48 => 5
  | 49 => 6
  | 50 => 4
  | 51 => 4
  | 52 => 4
  | 53 => 4
  | 54 => 0
  | 55 => 0
  | 56 => 4
  | 57 => 4
  | 58 => 4
  | 59 => 4
  | 60 => 4
  | 61 => 0
  | 62 => 0
  | 63 => 3
  | 64 => 4
  | 65 => 4
  | 66 => 4
  | 67 => 4
  | _ => 0
def mlen (k : Nat) : Nat := match k with
  | 2 => 60
  | 3 => 60
  | 4 => 60
  | 5 => 60
  | 6 => 60
  | 7 => 300
  | 8 => 60
  | 9 => 60
  | 10 => 60
  | 11 => 60
  | 12 => 60
  | 13 => 3840
  | 14 => 60
  | 15 => 60
  | 17 => 20
  | 18 => 200
  | 19 => 20
  | 20 => 20
  | 21 => 60
  | 22 => 60
  | 23 => 60
  | 24 => 60
  | 25 => 3840
  | 26 => 60
  | 27 => 8000
  | 28 => 20
  | 35 => 40
  | 36 => 40
  | 37 => 40
  | 38 => 40
  | 43 => 20
  | 45 => 8
  | 46 => 30720
  | 47 => 480
  | 48 => 480
  | 49 => 30720
  | 50 => 480
  | 51 => 160
  | 52 => 160
  | 53 => 480
  | 56 => 65536
  | 57 => 65536
  | 58 => 65536
  | 59 => 65536
  | 60 => 65536
  | 64 => 60
  | 65 => 20
  | 66 => 20
  | 67 => 20
  | _ => 0
def mval (T : MT) (ad : Nat → Nat) (k : Nat) : Value := match mty k with
  | 0 => .int (T.1 k 0)
  | 1 => .long (T.2.1 k 0)
  | 2 => .double (T.2.2.1 k 0)
  | 3 => .int (jb (T.2.2.2 k))
  | _ => .ref (ad k)
def marr (T : MT) (k : Nat) : JCell := match mty k with
  | 4 => .inr (.int, mlen k, fun j => .int (T.1 k j))
  | 5 => .inr (.long, mlen k, fun j => .long (T.2.1 k j))
  | _ => .inr (.double, mlen k, fun j => .double (T.2.2.1 k j))
/-- the fields of the object beyond those that it has: as the constructor's cell has them -/
def mobj (T : MT) (ad : Nat → Nat) : Nat → Value := mval T ad
def marrs : List Nat := [2, 3, 4, 5, 6, 7, 8, 9, 10, 11, 12, 13, 14, 15, 17, 18, 19, 20, 21, 22, 23, 24, 25, 26, 27, 28, 35, 36, 37, 38, 43, 45, 46, 47, 48, 49, 50, 51, 52, 53, 56, 57, 58, 59, 60, 64, 65, 66, 67]
def ov (m : Nat) (ad : Nat → Nat) (T : MT) (h0 : Nat → Option JCell) : Nat → Option JCell := fun a =>
  if a = m then some (.inl (9, mobj T ad)) else match marrs.find? (fun k => ad k == a) with | some k => some (marr T k) | none => h0 a
/-- where the object and its rows lie -/
def MA (B m : Nat) (ad : Nat → Nat) : Prop := B ≤ m ∧ (∀ k ∈ marrs, B ≤ ad k ∧ ad k ≠ m) ∧ ∀ k ∈ marrs, ∀ k' ∈ marrs, ad k = ad k' → k = k'
def mF {α : Type} (m : Nat) (ad : Nat → Nat) (h0 : Nat → Option JCell) (c : Nat × Nat) : α × MT → α × JMem := fun q => (q.1, (ov m ad q.2 h0, c))
def mV (m : Nat) (ad : Nat → Nat) (h0 : Nat → Option JCell) (c : Nat × Nat) : MT → JMem := fun T => (ov m ad T h0, c)
theorem map_obd {α β γ : Type} (F : β → γ) (o : Option α) (f : α → Option β) : Option.map F (obd o f) = obd o (fun x => Option.map F (f x)) := by cases o <;> rfl
theorem map_tbd2 {α β γ : Type} (F : β → γ) (o : Option (α × MT)) (f : α → MT → Option β) : Option.map F (tbd2 o f) = tbd2 o (fun x T => Option.map F (f x T)) := by cases o <;> rfl
theorem map_ite {β γ : Type} (F : β → γ) (p : Prop) {i : Decidable p} (x y : Option β) : Option.map F (@ite _ p i x y) = @ite _ p i (Option.map F x) (Option.map F y) := by by_cases h : p <;> simp [h]
theorem map_jlet {α β γ : Type} (F : β → γ) (x : α) (f : α → Option β) : Option.map F (jlet x f) = jlet x (fun q => Option.map F (f q)) := rfl
theorem map_someV {m : Nat} {ad : Nat → Nat} {h0 : Nat → Option JCell} {c : Nat × Nat} (T : MT) : Option.map (mV m ad h0 c) (some T) = some (ov m ad T h0, c) := rfl
theorem map_someF {α : Type} {m : Nat} {ad : Nat → Nat} {h0 : Nat → Option JCell} {c : Nat × Nat} (x : α) (T : MT) : Option.map (mF m ad h0 c) (some (x, T)) = some (x, (ov m ad T h0, c)) := rfl
theorem obd_assoc {α β γ : Type} (o : Option α) (f : α → Option β) (g : β → Option γ) : obd (obd o f) g = obd o (fun x => obd (f x) g) := by cases o <;> rfl
theorem obd_mapV {β : Type} {m : Nat} {ad : Nat → Nat} {h0 : Nat → Option JCell} {c : Nat × Nat} (o : Option MT) (f : JMem → Option β) : obd (Option.map (mV m ad h0 c) o) f = obd o (fun T => f (ov m ad T h0, c)) := by cases o <;> rfl
theorem jbd2_mapF {α β : Type} {m : Nat} {ad : Nat → Nat} {h0 : Nat → Option JCell} {c : Nat × Nat} (o : Option (α × MT)) (f : α → JMem → Option β) : jbd2 (Option.map (mF m ad h0 c) o) f = tbd2 o (fun x T => f x (ov m ad T h0, c)) := by cases o <;> rfl
section OV
variable {B m : Nat} {ad : Nat → Nat} {T : MT} {h0 : Nat → Option JCell} {c : Nat × Nat}
theorem ov_obj : ov m ad T h0 m = some (.inl (9, mobj T ad)) := by simp [ov]
theorem ov_arr (hA : MA B m ad) {k : Nat} (hk : k ∈ marrs) : ov m ad T h0 (ad k) = some (marr T k) := by
  unfold ov
  rw [if_neg (hA.2.1 k hk).2]
  have h : marrs.find? (fun q => ad q == ad k) = some k := by
    cases e : marrs.find? (fun q => ad q == ad k) with
    | none => exact absurd (List.find?_eq_none.mp e k hk) (by simp)
    | some q =>
      have h1 := List.find?_some e
      have h2 := List.mem_of_find?_eq_some e
      rw [hA.2.2 q h2 k hk (by simpa using h1)]
  rw [h]
theorem ov_job : jobC 9 (ov m ad T h0 m) = true := by rw [ov_obj]; rfl
theorem ov_gF (k : Nat) : jgF (ov m ad T h0) m 9 k = some (mval T ad k) := by unfold jgF; rw [ov_obj]; simp [mobj]
theorem ov_same {T' : MT} {a : Nat} {x : JCell} (hA : MA B m ad) (h1 : a ≠ m → ∃ k ∈ marrs, ad k = a ∧ marr T' k = x ∧ ∀ k' ∈ marrs, k' ≠ k → marr T' k' = marr T k') (h2 : a = m → x = .inl (9, mobj T' ad) ∧ ∀ k' ∈ marrs, marr T' k' = marr T k') (h3 : a ≠ m → mobj T' ad = mobj T ad) : jup (ov m ad T h0) a x = ov m ad T' h0 := by
  funext q
  unfold jup
  by_cases hm : a = m
  · obtain ⟨e1, e2⟩ := h2 hm
    subst hm
    by_cases hq : q = a
    · subst hq; rw [if_pos rfl, ov_obj, e1]
    · rw [if_neg hq]
      unfold ov
      rw [if_neg hq, if_neg hq]
      cases e : marrs.find? (fun k => ad k == q) with
      | none => rfl
      | some k => simp only; rw [e2 k (List.mem_of_find?_eq_some e)]
  · obtain ⟨k, hk, e1, e2, e3⟩ := h1 hm
    have e4 := h3 hm
    by_cases hq : q = a
    · subst hq
      rw [if_pos rfl, ← e1, ov_arr hA hk, e2]
    · rw [if_neg hq]
      unfold ov
      rw [e4]
      by_cases hqm : q = m
      · rw [if_pos hqm, if_pos hqm]
      · rw [if_neg hqm, if_neg hqm]
        cases e : marrs.find? (fun k => ad k == q) with
        | none => rfl
        | some k' =>
          simp only
          have h5 : ad k' = q := by simpa using List.find?_some e
          rw [e3 k' (List.mem_of_find?_eq_some e) (fun e6 => hq (by rw [← h5, e6, e1]))]
theorem ov_putF (hA : MA B m ad) {k : Nat} {w : Value} {T' : MT} (h1 : updV (mobj T ad) k w = mobj T' ad) (h2 : ∀ k' ∈ marrs, marr T' k' = marr T k') : jpF B 9 k m w (ov m ad T h0, c) = some (ov m ad T' h0, c) := by
  unfold jpF
  dsimp only
  rw [ov_obj]
  dsimp only
  rw [if_pos ⟨rfl, hA.1⟩]
  rw [ov_same (T' := T') hA (fun q => absurd rfl q) (fun _ => ⟨by rw [h1], h2⟩) (fun q => absurd rfl q)]
theorem ov_aV (hA : MA B m ad) {k n : Nat} (hk : k ∈ marrs) {ty : FieldType} {f : Nat → Value} (hm : marr T k = .inr (ty, n, f)) (j : Int32) : jaV (ov m ad T h0) ty (ad k) j = obd (jrg n j) (fun q => some (f q)) := by
  unfold jaV jrg
  rw [ov_arr hA hk, hm]
  dsimp only
  by_cases h : ¬ (j < 0 ∨ n ≤ j.toNatClampNeg)
  · rw [if_pos ⟨rfl, h⟩, if_pos h]; rfl
  · rw [if_neg (fun q => h q.2), if_neg h]; rfl
theorem ov_putA (hA : MA B m ad) {k n : Nat} (hk : k ∈ marrs) {ty : FieldType} {f : Nat → Value} (hm : marr T k = .inr (ty, n, f)) (j : Int32) (w : Value) (T' : Nat → MT) (h1 : ∀ q, marr (T' q) k = .inr (ty, n, updV f q w)) (h2 : ∀ q, ∀ k' ∈ marrs, k' ≠ k → marr (T' q) k' = marr T k') (h3 : ∀ q, mobj (T' q) ad = mobj T ad) :
    jpA B ty (ad k) j w (ov m ad T h0, c) = obd (jrg n j) (fun q => some (ov m ad (T' q) h0, c)) := by
  unfold jpA jrg
  dsimp only
  rw [ov_arr hA hk, hm]
  dsimp only
  by_cases h : ¬ (j < 0 ∨ n ≤ j.toNatClampNeg)
  · rw [if_pos ⟨rfl, (hA.2.1 k hk).1, h⟩, if_pos h, obd_some]
    rw [ov_same (T' := T' j.toNatClampNeg) hA (fun _ => ⟨k, hk, rfl, h1 _, h2 _⟩) (fun q => absurd q (hA.2.1 k hk).2) (fun _ => h3 _)]
  · rw [if_neg (fun q => h q.2.2), if_neg h]; rfl
theorem mobj_I {k j : Nat} {v : Int32} (hk : 4 ≤ mty k) : mobj (tsI T k j v) ad = mobj T ad := by
  funext q
  by_cases e : q = k
  · subst e
    unfold mobj mval
    generalize mty q = t at hk
    match t, hk with
    | t + 4, _ => rfl
  · simp [mobj, mval, tsI, up2, e]
theorem mobj_J {k j : Nat} {v : Int64} (hk : 4 ≤ mty k) : mobj (tsJ T k j v) ad = mobj T ad := by
  funext q
  by_cases e : q = k
  · subst e
    unfold mobj mval
    generalize mty q = t at hk
    match t, hk with
    | t + 4, _ => rfl
  · simp [mobj, mval, tsJ, up2, e]
theorem mobj_D {k j : Nat} {v : UInt64} (hk : 4 ≤ mty k) : mobj (tsD T k j v) ad = mobj T ad := by
  funext q
  by_cases e : q = k
  · subst e
    unfold mobj mval
    generalize mty q = t at hk
    match t, hk with
    | t + 4, _ => rfl
  · simp [mobj, mval, tsD, up2, e]
theorem marr_I {k j k' : Nat} {v : Int32} (h : k' ≠ k) : marr (tsI T k j v) k' = marr T k' := by simp [marr, tsI, up2, h]
theorem marr_J {k j k' : Nat} {v : Int64} (h : k' ≠ k) : marr (tsJ T k j v) k' = marr T k' := by simp [marr, tsJ, up2, h]
theorem marr_D {k j k' : Nat} {v : UInt64} (h : k' ≠ k) : marr (tsD T k j v) k' = marr T k' := by simp [marr, tsD, up2, h]
theorem mput_I {k : Nat} (hk : mty k = 0) {v : Int32} : updV (mobj T ad) k (.int v) = mobj (tsI T k 0 v) ad := by
  funext q
  by_cases e : q = k
  · subst e; simp [updV, mobj, mval, hk, tsI, up2]
  · simp [updV, mobj, mval, tsI, up2, e]
theorem mput_J {k : Nat} (hk : mty k = 1) {v : Int64} : updV (mobj T ad) k (.long v) = mobj (tsJ T k 0 v) ad := by
  funext q
  by_cases e : q = k
  · subst e; simp [updV, mobj, mval, hk, tsJ, up2]
  · simp [updV, mobj, mval, tsJ, up2, e]
theorem mput_D {k : Nat} (hk : mty k = 2) {v : UInt64} : updV (mobj T ad) k (.double v) = mobj (tsD T k 0 v) ad := by
  funext q
  by_cases e : q = k
  · subst e; simp [updV, mobj, mval, hk, tsD, up2]
  · simp [updV, mobj, mval, tsD, up2, e]
theorem mput_Z {k : Nat} (hk : mty k = 3) {v : Bool} : updV (mobj T ad) k (.int (jb v)) = mobj (tsZ T k v) ad := by
  funext q
  by_cases e : q = k
  · subst e; simp [updV, mobj, mval, hk, tsZ]
  · simp [updV, mobj, mval, tsZ, e]
theorem jvZ_jb (x : Bool) : jvZ (.int (jb x)) = some x := by cases x <;> rfl
theorem ov_g_0 : jgI (ov m ad T h0) m 9 0 = some (T.1 0 0) := by unfold jgI; rw [ov_gF]; rfl
theorem ov_p_0 (hA : MA B m ad) (x : Int32) : jpF B 9 0 m (.int x) (ov m ad T h0, c) = some (ov m ad (tsI T 0 0 x) h0, c) := ov_putF hA (mput_I rfl) (fun k' h => marr_I (by rintro rfl; revert h; decide))
theorem ov_g_1 : jgI (ov m ad T h0) m 9 1 = some (T.1 1 0) := by unfold jgI; rw [ov_gF]; rfl
theorem ov_p_1 (hA : MA B m ad) (x : Int32) : jpF B 9 1 m (.int x) (ov m ad T h0, c) = some (ov m ad (tsI T 1 0 x) h0, c) := ov_putF hA (mput_I rfl) (fun k' h => marr_I (by rintro rfl; revert h; decide))
theorem ov_g_2 : jgA (ov m ad T h0) m 9 2 = some (some (ad 2)) := by unfold jgA; rw [ov_gF]; rfl
theorem ov_a_2 (hA : MA B m ad) (j : Int32) : jaI (ov m ad T h0) (ad 2) j = obd (jrg 60 j) (fun q => some (T.1 2 q)) := by unfold jaI; rw [ov_aV hA (k := 2) (n := 60) (by decide) rfl j]; cases jrg 60 j <;> rfl
theorem ov_s_2 (hA : MA B m ad) (j : Int32) (x : Int32) : jpA B .int (ad 2) j (.int x) (ov m ad T h0, c) = obd (jrg 60 j) (fun q => some (ov m ad (tsI T 2 q x) h0, c)) := ov_putA hA (k := 2) (by decide) rfl j _ (fun q => tsI T 2 q x) (fun q => by simp only [marr, mty, mlen, tsI]; congr 3; funext z; by_cases e : z = q <;> simp [updV, up2, e]) (fun q k' _ h => marr_I h) (fun q => mobj_I (by decide))
theorem ov_g_3 : jgA (ov m ad T h0) m 9 3 = some (some (ad 3)) := by unfold jgA; rw [ov_gF]; rfl
theorem ov_a_3 (hA : MA B m ad) (j : Int32) : jaI (ov m ad T h0) (ad 3) j = obd (jrg 60 j) (fun q => some (T.1 3 q)) := by unfold jaI; rw [ov_aV hA (k := 3) (n := 60) (by decide) rfl j]; cases jrg 60 j <;> rfl
theorem ov_s_3 (hA : MA B m ad) (j : Int32) (x : Int32) : jpA B .int (ad 3) j (.int x) (ov m ad T h0, c) = obd (jrg 60 j) (fun q => some (ov m ad (tsI T 3 q x) h0, c)) := ov_putA hA (k := 3) (by decide) rfl j _ (fun q => tsI T 3 q x) (fun q => by simp only [marr, mty, mlen, tsI]; congr 3; funext z; by_cases e : z = q <;> simp [updV, up2, e]) (fun q k' _ h => marr_I h) (fun q => mobj_I (by decide))
theorem ov_g_4 : jgA (ov m ad T h0) m 9 4 = some (some (ad 4)) := by unfold jgA; rw [ov_gF]; rfl
theorem ov_a_4 (hA : MA B m ad) (j : Int32) : jaI (ov m ad T h0) (ad 4) j = obd (jrg 60 j) (fun q => some (T.1 4 q)) := by unfold jaI; rw [ov_aV hA (k := 4) (n := 60) (by decide) rfl j]; cases jrg 60 j <;> rfl
theorem ov_s_4 (hA : MA B m ad) (j : Int32) (x : Int32) : jpA B .int (ad 4) j (.int x) (ov m ad T h0, c) = obd (jrg 60 j) (fun q => some (ov m ad (tsI T 4 q x) h0, c)) := ov_putA hA (k := 4) (by decide) rfl j _ (fun q => tsI T 4 q x) (fun q => by simp only [marr, mty, mlen, tsI]; congr 3; funext z; by_cases e : z = q <;> simp [updV, up2, e]) (fun q k' _ h => marr_I h) (fun q => mobj_I (by decide))
theorem ov_g_5 : jgA (ov m ad T h0) m 9 5 = some (some (ad 5)) := by unfold jgA; rw [ov_gF]; rfl
theorem ov_a_5 (hA : MA B m ad) (j : Int32) : jaI (ov m ad T h0) (ad 5) j = obd (jrg 60 j) (fun q => some (T.1 5 q)) := by unfold jaI; rw [ov_aV hA (k := 5) (n := 60) (by decide) rfl j]; cases jrg 60 j <;> rfl
theorem ov_s_5 (hA : MA B m ad) (j : Int32) (x : Int32) : jpA B .int (ad 5) j (.int x) (ov m ad T h0, c) = obd (jrg 60 j) (fun q => some (ov m ad (tsI T 5 q x) h0, c)) := ov_putA hA (k := 5) (by decide) rfl j _ (fun q => tsI T 5 q x) (fun q => by simp only [marr, mty, mlen, tsI]; congr 3; funext z; by_cases e : z = q <;> simp [updV, up2, e]) (fun q k' _ h => marr_I h) (fun q => mobj_I (by decide))
theorem ov_g_6 : jgA (ov m ad T h0) m 9 6 = some (some (ad 6)) := by unfold jgA; rw [ov_gF]; rfl
theorem ov_a_6 (hA : MA B m ad) (j : Int32) : jaI (ov m ad T h0) (ad 6) j = obd (jrg 60 j) (fun q => some (T.1 6 q)) := by unfold jaI; rw [ov_aV hA (k := 6) (n := 60) (by decide) rfl j]; cases jrg 60 j <;> rfl
theorem ov_s_6 (hA : MA B m ad) (j : Int32) (x : Int32) : jpA B .int (ad 6) j (.int x) (ov m ad T h0, c) = obd (jrg 60 j) (fun q => some (ov m ad (tsI T 6 q x) h0, c)) := ov_putA hA (k := 6) (by decide) rfl j _ (fun q => tsI T 6 q x) (fun q => by simp only [marr, mty, mlen, tsI]; congr 3; funext z; by_cases e : z = q <;> simp [updV, up2, e]) (fun q k' _ h => marr_I h) (fun q => mobj_I (by decide))
theorem ov_g_7 : jgA (ov m ad T h0) m 9 7 = some (some (ad 7)) := by unfold jgA; rw [ov_gF]; rfl
theorem ov_a_7 (hA : MA B m ad) (j : Int32) : jaD (ov m ad T h0) (ad 7) j = obd (jrg 300 j) (fun q => some (T.2.2.1 7 q)) := by unfold jaD; rw [ov_aV hA (k := 7) (n := 300) (by decide) rfl j]; cases jrg 300 j <;> rfl
theorem ov_s_7 (hA : MA B m ad) (j : Int32) (x : UInt64) : jpA B .double (ad 7) j (.double x) (ov m ad T h0, c) = obd (jrg 300 j) (fun q => some (ov m ad (tsD T 7 q x) h0, c)) := ov_putA hA (k := 7) (by decide) rfl j _ (fun q => tsD T 7 q x) (fun q => by simp only [marr, mty, mlen, tsD]; congr 3; funext z; by_cases e : z = q <;> simp [updV, up2, e]) (fun q k' _ h => marr_D h) (fun q => mobj_D (by decide))
theorem ov_g_8 : jgA (ov m ad T h0) m 9 8 = some (some (ad 8)) := by unfold jgA; rw [ov_gF]; rfl
theorem ov_a_8 (hA : MA B m ad) (j : Int32) : jaI (ov m ad T h0) (ad 8) j = obd (jrg 60 j) (fun q => some (T.1 8 q)) := by unfold jaI; rw [ov_aV hA (k := 8) (n := 60) (by decide) rfl j]; cases jrg 60 j <;> rfl
theorem ov_s_8 (hA : MA B m ad) (j : Int32) (x : Int32) : jpA B .int (ad 8) j (.int x) (ov m ad T h0, c) = obd (jrg 60 j) (fun q => some (ov m ad (tsI T 8 q x) h0, c)) := ov_putA hA (k := 8) (by decide) rfl j _ (fun q => tsI T 8 q x) (fun q => by simp only [marr, mty, mlen, tsI]; congr 3; funext z; by_cases e : z = q <;> simp [updV, up2, e]) (fun q k' _ h => marr_I h) (fun q => mobj_I (by decide))
theorem ov_g_9 : jgA (ov m ad T h0) m 9 9 = some (some (ad 9)) := by unfold jgA; rw [ov_gF]; rfl
theorem ov_a_9 (hA : MA B m ad) (j : Int32) : jaI (ov m ad T h0) (ad 9) j = obd (jrg 60 j) (fun q => some (T.1 9 q)) := by unfold jaI; rw [ov_aV hA (k := 9) (n := 60) (by decide) rfl j]; cases jrg 60 j <;> rfl
theorem ov_s_9 (hA : MA B m ad) (j : Int32) (x : Int32) : jpA B .int (ad 9) j (.int x) (ov m ad T h0, c) = obd (jrg 60 j) (fun q => some (ov m ad (tsI T 9 q x) h0, c)) := ov_putA hA (k := 9) (by decide) rfl j _ (fun q => tsI T 9 q x) (fun q => by simp only [marr, mty, mlen, tsI]; congr 3; funext z; by_cases e : z = q <;> simp [updV, up2, e]) (fun q k' _ h => marr_I h) (fun q => mobj_I (by decide))
theorem ov_g_10 : jgA (ov m ad T h0) m 9 10 = some (some (ad 10)) := by unfold jgA; rw [ov_gF]; rfl
theorem ov_a_10 (hA : MA B m ad) (j : Int32) : jaI (ov m ad T h0) (ad 10) j = obd (jrg 60 j) (fun q => some (T.1 10 q)) := by unfold jaI; rw [ov_aV hA (k := 10) (n := 60) (by decide) rfl j]; cases jrg 60 j <;> rfl
theorem ov_s_10 (hA : MA B m ad) (j : Int32) (x : Int32) : jpA B .int (ad 10) j (.int x) (ov m ad T h0, c) = obd (jrg 60 j) (fun q => some (ov m ad (tsI T 10 q x) h0, c)) := ov_putA hA (k := 10) (by decide) rfl j _ (fun q => tsI T 10 q x) (fun q => by simp only [marr, mty, mlen, tsI]; congr 3; funext z; by_cases e : z = q <;> simp [updV, up2, e]) (fun q k' _ h => marr_I h) (fun q => mobj_I (by decide))
theorem ov_g_11 : jgA (ov m ad T h0) m 9 11 = some (some (ad 11)) := by unfold jgA; rw [ov_gF]; rfl
theorem ov_a_11 (hA : MA B m ad) (j : Int32) : jaI (ov m ad T h0) (ad 11) j = obd (jrg 60 j) (fun q => some (T.1 11 q)) := by unfold jaI; rw [ov_aV hA (k := 11) (n := 60) (by decide) rfl j]; cases jrg 60 j <;> rfl
theorem ov_s_11 (hA : MA B m ad) (j : Int32) (x : Int32) : jpA B .int (ad 11) j (.int x) (ov m ad T h0, c) = obd (jrg 60 j) (fun q => some (ov m ad (tsI T 11 q x) h0, c)) := ov_putA hA (k := 11) (by decide) rfl j _ (fun q => tsI T 11 q x) (fun q => by simp only [marr, mty, mlen, tsI]; congr 3; funext z; by_cases e : z = q <;> simp [updV, up2, e]) (fun q k' _ h => marr_I h) (fun q => mobj_I (by decide))
theorem ov_g_12 : jgA (ov m ad T h0) m 9 12 = some (some (ad 12)) := by unfold jgA; rw [ov_gF]; rfl
theorem ov_a_12 (hA : MA B m ad) (j : Int32) : jaI (ov m ad T h0) (ad 12) j = obd (jrg 60 j) (fun q => some (T.1 12 q)) := by unfold jaI; rw [ov_aV hA (k := 12) (n := 60) (by decide) rfl j]; cases jrg 60 j <;> rfl
theorem ov_s_12 (hA : MA B m ad) (j : Int32) (x : Int32) : jpA B .int (ad 12) j (.int x) (ov m ad T h0, c) = obd (jrg 60 j) (fun q => some (ov m ad (tsI T 12 q x) h0, c)) := ov_putA hA (k := 12) (by decide) rfl j _ (fun q => tsI T 12 q x) (fun q => by simp only [marr, mty, mlen, tsI]; congr 3; funext z; by_cases e : z = q <;> simp [updV, up2, e]) (fun q k' _ h => marr_I h) (fun q => mobj_I (by decide))
theorem ov_g_13 : jgA (ov m ad T h0) m 9 13 = some (some (ad 13)) := by unfold jgA; rw [ov_gF]; rfl
theorem ov_a_13 (hA : MA B m ad) (j : Int32) : jaD (ov m ad T h0) (ad 13) j = obd (jrg 3840 j) (fun q => some (T.2.2.1 13 q)) := by unfold jaD; rw [ov_aV hA (k := 13) (n := 3840) (by decide) rfl j]; cases jrg 3840 j <;> rfl
theorem ov_s_13 (hA : MA B m ad) (j : Int32) (x : UInt64) : jpA B .double (ad 13) j (.double x) (ov m ad T h0, c) = obd (jrg 3840 j) (fun q => some (ov m ad (tsD T 13 q x) h0, c)) := ov_putA hA (k := 13) (by decide) rfl j _ (fun q => tsD T 13 q x) (fun q => by simp only [marr, mty, mlen, tsD]; congr 3; funext z; by_cases e : z = q <;> simp [updV, up2, e]) (fun q k' _ h => marr_D h) (fun q => mobj_D (by decide))
theorem ov_g_14 : jgA (ov m ad T h0) m 9 14 = some (some (ad 14)) := by unfold jgA; rw [ov_gF]; rfl
theorem ov_a_14 (hA : MA B m ad) (j : Int32) : jaI (ov m ad T h0) (ad 14) j = obd (jrg 60 j) (fun q => some (T.1 14 q)) := by unfold jaI; rw [ov_aV hA (k := 14) (n := 60) (by decide) rfl j]; cases jrg 60 j <;> rfl
theorem ov_s_14 (hA : MA B m ad) (j : Int32) (x : Int32) : jpA B .int (ad 14) j (.int x) (ov m ad T h0, c) = obd (jrg 60 j) (fun q => some (ov m ad (tsI T 14 q x) h0, c)) := ov_putA hA (k := 14) (by decide) rfl j _ (fun q => tsI T 14 q x) (fun q => by simp only [marr, mty, mlen, tsI]; congr 3; funext z; by_cases e : z = q <;> simp [updV, up2, e]) (fun q k' _ h => marr_I h) (fun q => mobj_I (by decide))
theorem ov_g_15 : jgA (ov m ad T h0) m 9 15 = some (some (ad 15)) := by unfold jgA; rw [ov_gF]; rfl
theorem ov_a_15 (hA : MA B m ad) (j : Int32) : jaJ (ov m ad T h0) (ad 15) j = obd (jrg 60 j) (fun q => some (T.2.1 15 q)) := by unfold jaJ; rw [ov_aV hA (k := 15) (n := 60) (by decide) rfl j]; cases jrg 60 j <;> rfl
theorem ov_s_15 (hA : MA B m ad) (j : Int32) (x : Int64) : jpA B .long (ad 15) j (.long x) (ov m ad T h0, c) = obd (jrg 60 j) (fun q => some (ov m ad (tsJ T 15 q x) h0, c)) := ov_putA hA (k := 15) (by decide) rfl j _ (fun q => tsJ T 15 q x) (fun q => by simp only [marr, mty, mlen, tsJ]; congr 3; funext z; by_cases e : z = q <;> simp [updV, up2, e]) (fun q k' _ h => marr_J h) (fun q => mobj_J (by decide))
theorem ov_g_16 : jgI (ov m ad T h0) m 9 16 = some (T.1 16 0) := by unfold jgI; rw [ov_gF]; rfl
theorem ov_p_16 (hA : MA B m ad) (x : Int32) : jpF B 9 16 m (.int x) (ov m ad T h0, c) = some (ov m ad (tsI T 16 0 x) h0, c) := ov_putF hA (mput_I rfl) (fun k' h => marr_I (by rintro rfl; revert h; decide))
theorem ov_g_17 : jgA (ov m ad T h0) m 9 17 = some (some (ad 17)) := by unfold jgA; rw [ov_gF]; rfl
theorem ov_a_17 (hA : MA B m ad) (j : Int32) : jaI (ov m ad T h0) (ad 17) j = obd (jrg 20 j) (fun q => some (T.1 17 q)) := by unfold jaI; rw [ov_aV hA (k := 17) (n := 20) (by decide) rfl j]; cases jrg 20 j <;> rfl
theorem ov_s_17 (hA : MA B m ad) (j : Int32) (x : Int32) : jpA B .int (ad 17) j (.int x) (ov m ad T h0, c) = obd (jrg 20 j) (fun q => some (ov m ad (tsI T 17 q x) h0, c)) := ov_putA hA (k := 17) (by decide) rfl j _ (fun q => tsI T 17 q x) (fun q => by simp only [marr, mty, mlen, tsI]; congr 3; funext z; by_cases e : z = q <;> simp [updV, up2, e]) (fun q k' _ h => marr_I h) (fun q => mobj_I (by decide))
theorem ov_g_18 : jgA (ov m ad T h0) m 9 18 = some (some (ad 18)) := by unfold jgA; rw [ov_gF]; rfl
theorem ov_a_18 (hA : MA B m ad) (j : Int32) : jaI (ov m ad T h0) (ad 18) j = obd (jrg 200 j) (fun q => some (T.1 18 q)) := by unfold jaI; rw [ov_aV hA (k := 18) (n := 200) (by decide) rfl j]; cases jrg 200 j <;> rfl
theorem ov_s_18 (hA : MA B m ad) (j : Int32) (x : Int32) : jpA B .int (ad 18) j (.int x) (ov m ad T h0, c) = obd (jrg 200 j) (fun q => some (ov m ad (tsI T 18 q x) h0, c)) := ov_putA hA (k := 18) (by decide) rfl j _ (fun q => tsI T 18 q x) (fun q => by simp only [marr, mty, mlen, tsI]; congr 3; funext z; by_cases e : z = q <;> simp [updV, up2, e]) (fun q k' _ h => marr_I h) (fun q => mobj_I (by decide))
theorem ov_g_19 : jgA (ov m ad T h0) m 9 19 = some (some (ad 19)) := by unfold jgA; rw [ov_gF]; rfl
theorem ov_a_19 (hA : MA B m ad) (j : Int32) : jaI (ov m ad T h0) (ad 19) j = obd (jrg 20 j) (fun q => some (T.1 19 q)) := by unfold jaI; rw [ov_aV hA (k := 19) (n := 20) (by decide) rfl j]; cases jrg 20 j <;> rfl
theorem ov_s_19 (hA : MA B m ad) (j : Int32) (x : Int32) : jpA B .int (ad 19) j (.int x) (ov m ad T h0, c) = obd (jrg 20 j) (fun q => some (ov m ad (tsI T 19 q x) h0, c)) := ov_putA hA (k := 19) (by decide) rfl j _ (fun q => tsI T 19 q x) (fun q => by simp only [marr, mty, mlen, tsI]; congr 3; funext z; by_cases e : z = q <;> simp [updV, up2, e]) (fun q k' _ h => marr_I h) (fun q => mobj_I (by decide))
theorem ov_g_20 : jgA (ov m ad T h0) m 9 20 = some (some (ad 20)) := by unfold jgA; rw [ov_gF]; rfl
theorem ov_a_20 (hA : MA B m ad) (j : Int32) : jaI (ov m ad T h0) (ad 20) j = obd (jrg 20 j) (fun q => some (T.1 20 q)) := by unfold jaI; rw [ov_aV hA (k := 20) (n := 20) (by decide) rfl j]; cases jrg 20 j <;> rfl
theorem ov_s_20 (hA : MA B m ad) (j : Int32) (x : Int32) : jpA B .int (ad 20) j (.int x) (ov m ad T h0, c) = obd (jrg 20 j) (fun q => some (ov m ad (tsI T 20 q x) h0, c)) := ov_putA hA (k := 20) (by decide) rfl j _ (fun q => tsI T 20 q x) (fun q => by simp only [marr, mty, mlen, tsI]; congr 3; funext z; by_cases e : z = q <;> simp [updV, up2, e]) (fun q k' _ h => marr_I h) (fun q => mobj_I (by decide))
theorem ov_g_21 : jgA (ov m ad T h0) m 9 21 = some (some (ad 21)) := by unfold jgA; rw [ov_gF]; rfl
theorem ov_a_21 (hA : MA B m ad) (j : Int32) : jaI (ov m ad T h0) (ad 21) j = obd (jrg 60 j) (fun q => some (T.1 21 q)) := by unfold jaI; rw [ov_aV hA (k := 21) (n := 60) (by decide) rfl j]; cases jrg 60 j <;> rfl
theorem ov_s_21 (hA : MA B m ad) (j : Int32) (x : Int32) : jpA B .int (ad 21) j (.int x) (ov m ad T h0, c) = obd (jrg 60 j) (fun q => some (ov m ad (tsI T 21 q x) h0, c)) := ov_putA hA (k := 21) (by decide) rfl j _ (fun q => tsI T 21 q x) (fun q => by simp only [marr, mty, mlen, tsI]; congr 3; funext z; by_cases e : z = q <;> simp [updV, up2, e]) (fun q k' _ h => marr_I h) (fun q => mobj_I (by decide))
theorem ov_g_22 : jgA (ov m ad T h0) m 9 22 = some (some (ad 22)) := by unfold jgA; rw [ov_gF]; rfl
theorem ov_a_22 (hA : MA B m ad) (j : Int32) : jaI (ov m ad T h0) (ad 22) j = obd (jrg 60 j) (fun q => some (T.1 22 q)) := by unfold jaI; rw [ov_aV hA (k := 22) (n := 60) (by decide) rfl j]; cases jrg 60 j <;> rfl
theorem ov_s_22 (hA : MA B m ad) (j : Int32) (x : Int32) : jpA B .int (ad 22) j (.int x) (ov m ad T h0, c) = obd (jrg 60 j) (fun q => some (ov m ad (tsI T 22 q x) h0, c)) := ov_putA hA (k := 22) (by decide) rfl j _ (fun q => tsI T 22 q x) (fun q => by simp only [marr, mty, mlen, tsI]; congr 3; funext z; by_cases e : z = q <;> simp [updV, up2, e]) (fun q k' _ h => marr_I h) (fun q => mobj_I (by decide))
theorem ov_g_23 : jgA (ov m ad T h0) m 9 23 = some (some (ad 23)) := by unfold jgA; rw [ov_gF]; rfl
theorem ov_a_23 (hA : MA B m ad) (j : Int32) : jaI (ov m ad T h0) (ad 23) j = obd (jrg 60 j) (fun q => some (T.1 23 q)) := by unfold jaI; rw [ov_aV hA (k := 23) (n := 60) (by decide) rfl j]; cases jrg 60 j <;> rfl
theorem ov_s_23 (hA : MA B m ad) (j : Int32) (x : Int32) : jpA B .int (ad 23) j (.int x) (ov m ad T h0, c) = obd (jrg 60 j) (fun q => some (ov m ad (tsI T 23 q x) h0, c)) := ov_putA hA (k := 23) (by decide) rfl j _ (fun q => tsI T 23 q x) (fun q => by simp only [marr, mty, mlen, tsI]; congr 3; funext z; by_cases e : z = q <;> simp [updV, up2, e]) (fun q k' _ h => marr_I h) (fun q => mobj_I (by decide))
theorem ov_g_24 : jgA (ov m ad T h0) m 9 24 = some (some (ad 24)) := by unfold jgA; rw [ov_gF]; rfl
theorem ov_a_24 (hA : MA B m ad) (j : Int32) : jaD (ov m ad T h0) (ad 24) j = obd (jrg 60 j) (fun q => some (T.2.2.1 24 q)) := by unfold jaD; rw [ov_aV hA (k := 24) (n := 60) (by decide) rfl j]; cases jrg 60 j <;> rfl
theorem ov_s_24 (hA : MA B m ad) (j : Int32) (x : UInt64) : jpA B .double (ad 24) j (.double x) (ov m ad T h0, c) = obd (jrg 60 j) (fun q => some (ov m ad (tsD T 24 q x) h0, c)) := ov_putA hA (k := 24) (by decide) rfl j _ (fun q => tsD T 24 q x) (fun q => by simp only [marr, mty, mlen, tsD]; congr 3; funext z; by_cases e : z = q <;> simp [updV, up2, e]) (fun q k' _ h => marr_D h) (fun q => mobj_D (by decide))
theorem ov_g_25 : jgA (ov m ad T h0) m 9 25 = some (some (ad 25)) := by unfold jgA; rw [ov_gF]; rfl
theorem ov_a_25 (hA : MA B m ad) (j : Int32) : jaD (ov m ad T h0) (ad 25) j = obd (jrg 3840 j) (fun q => some (T.2.2.1 25 q)) := by unfold jaD; rw [ov_aV hA (k := 25) (n := 3840) (by decide) rfl j]; cases jrg 3840 j <;> rfl
theorem ov_s_25 (hA : MA B m ad) (j : Int32) (x : UInt64) : jpA B .double (ad 25) j (.double x) (ov m ad T h0, c) = obd (jrg 3840 j) (fun q => some (ov m ad (tsD T 25 q x) h0, c)) := ov_putA hA (k := 25) (by decide) rfl j _ (fun q => tsD T 25 q x) (fun q => by simp only [marr, mty, mlen, tsD]; congr 3; funext z; by_cases e : z = q <;> simp [updV, up2, e]) (fun q k' _ h => marr_D h) (fun q => mobj_D (by decide))
theorem ov_g_26 : jgA (ov m ad T h0) m 9 26 = some (some (ad 26)) := by unfold jgA; rw [ov_gF]; rfl
theorem ov_a_26 (hA : MA B m ad) (j : Int32) : jaI (ov m ad T h0) (ad 26) j = obd (jrg 60 j) (fun q => some (T.1 26 q)) := by unfold jaI; rw [ov_aV hA (k := 26) (n := 60) (by decide) rfl j]; cases jrg 60 j <;> rfl
theorem ov_s_26 (hA : MA B m ad) (j : Int32) (x : Int32) : jpA B .int (ad 26) j (.int x) (ov m ad T h0, c) = obd (jrg 60 j) (fun q => some (ov m ad (tsI T 26 q x) h0, c)) := ov_putA hA (k := 26) (by decide) rfl j _ (fun q => tsI T 26 q x) (fun q => by simp only [marr, mty, mlen, tsI]; congr 3; funext z; by_cases e : z = q <;> simp [updV, up2, e]) (fun q k' _ h => marr_I h) (fun q => mobj_I (by decide))
theorem ov_g_27 : jgA (ov m ad T h0) m 9 27 = some (some (ad 27)) := by unfold jgA; rw [ov_gF]; rfl
theorem ov_a_27 (hA : MA B m ad) (j : Int32) : jaD (ov m ad T h0) (ad 27) j = obd (jrg 8000 j) (fun q => some (T.2.2.1 27 q)) := by unfold jaD; rw [ov_aV hA (k := 27) (n := 8000) (by decide) rfl j]; cases jrg 8000 j <;> rfl
theorem ov_s_27 (hA : MA B m ad) (j : Int32) (x : UInt64) : jpA B .double (ad 27) j (.double x) (ov m ad T h0, c) = obd (jrg 8000 j) (fun q => some (ov m ad (tsD T 27 q x) h0, c)) := ov_putA hA (k := 27) (by decide) rfl j _ (fun q => tsD T 27 q x) (fun q => by simp only [marr, mty, mlen, tsD]; congr 3; funext z; by_cases e : z = q <;> simp [updV, up2, e]) (fun q k' _ h => marr_D h) (fun q => mobj_D (by decide))
theorem ov_g_28 : jgA (ov m ad T h0) m 9 28 = some (some (ad 28)) := by unfold jgA; rw [ov_gF]; rfl
theorem ov_a_28 (hA : MA B m ad) (j : Int32) : jaI (ov m ad T h0) (ad 28) j = obd (jrg 20 j) (fun q => some (T.1 28 q)) := by unfold jaI; rw [ov_aV hA (k := 28) (n := 20) (by decide) rfl j]; cases jrg 20 j <;> rfl
theorem ov_s_28 (hA : MA B m ad) (j : Int32) (x : Int32) : jpA B .int (ad 28) j (.int x) (ov m ad T h0, c) = obd (jrg 20 j) (fun q => some (ov m ad (tsI T 28 q x) h0, c)) := ov_putA hA (k := 28) (by decide) rfl j _ (fun q => tsI T 28 q x) (fun q => by simp only [marr, mty, mlen, tsI]; congr 3; funext z; by_cases e : z = q <;> simp [updV, up2, e]) (fun q k' _ h => marr_I h) (fun q => mobj_I (by decide))
theorem ov_g_29 : jgI (ov m ad T h0) m 9 29 = some (T.1 29 0) := by unfold jgI; rw [ov_gF]; rfl
theorem ov_p_29 (hA : MA B m ad) (x : Int32) : jpF B 9 29 m (.int x) (ov m ad T h0, c) = some (ov m ad (tsI T 29 0 x) h0, c) := ov_putF hA (mput_I rfl) (fun k' h => marr_I (by rintro rfl; revert h; decide))
theorem ov_g_30 : jgI (ov m ad T h0) m 9 30 = some (T.1 30 0) := by unfold jgI; rw [ov_gF]; rfl
theorem ov_p_30 (hA : MA B m ad) (x : Int32) : jpF B 9 30 m (.int x) (ov m ad T h0, c) = some (ov m ad (tsI T 30 0 x) h0, c) := ov_putF hA (mput_I rfl) (fun k' h => marr_I (by rintro rfl; revert h; decide))
theorem ov_g_31 : jgD (ov m ad T h0) m 9 31 = some (T.2.2.1 31 0) := by unfold jgD; rw [ov_gF]; rfl
theorem ov_p_31 (hA : MA B m ad) (x : UInt64) : jpF B 9 31 m (.double x) (ov m ad T h0, c) = some (ov m ad (tsD T 31 0 x) h0, c) := ov_putF hA (mput_D rfl) (fun k' h => marr_D (by rintro rfl; revert h; decide))
theorem ov_g_32 : jgJ (ov m ad T h0) m 9 32 = some (T.2.1 32 0) := by unfold jgJ; rw [ov_gF]; rfl
theorem ov_p_32 (hA : MA B m ad) (x : Int64) : jpF B 9 32 m (.long x) (ov m ad T h0, c) = some (ov m ad (tsJ T 32 0 x) h0, c) := ov_putF hA (mput_J rfl) (fun k' h => marr_J (by rintro rfl; revert h; decide))
theorem ov_g_33 : jgD (ov m ad T h0) m 9 33 = some (T.2.2.1 33 0) := by unfold jgD; rw [ov_gF]; rfl
theorem ov_p_33 (hA : MA B m ad) (x : UInt64) : jpF B 9 33 m (.double x) (ov m ad T h0, c) = some (ov m ad (tsD T 33 0 x) h0, c) := ov_putF hA (mput_D rfl) (fun k' h => marr_D (by rintro rfl; revert h; decide))
theorem ov_g_34 : jgI (ov m ad T h0) m 9 34 = some (T.1 34 0) := by unfold jgI; rw [ov_gF]; rfl
theorem ov_p_34 (hA : MA B m ad) (x : Int32) : jpF B 9 34 m (.int x) (ov m ad T h0, c) = some (ov m ad (tsI T 34 0 x) h0, c) := ov_putF hA (mput_I rfl) (fun k' h => marr_I (by rintro rfl; revert h; decide))
theorem ov_g_35 : jgA (ov m ad T h0) m 9 35 = some (some (ad 35)) := by unfold jgA; rw [ov_gF]; rfl
theorem ov_a_35 (hA : MA B m ad) (j : Int32) : jaI (ov m ad T h0) (ad 35) j = obd (jrg 40 j) (fun q => some (T.1 35 q)) := by unfold jaI; rw [ov_aV hA (k := 35) (n := 40) (by decide) rfl j]; cases jrg 40 j <;> rfl
theorem ov_s_35 (hA : MA B m ad) (j : Int32) (x : Int32) : jpA B .int (ad 35) j (.int x) (ov m ad T h0, c) = obd (jrg 40 j) (fun q => some (ov m ad (tsI T 35 q x) h0, c)) := ov_putA hA (k := 35) (by decide) rfl j _ (fun q => tsI T 35 q x) (fun q => by simp only [marr, mty, mlen, tsI]; congr 3; funext z; by_cases e : z = q <;> simp [updV, up2, e]) (fun q k' _ h => marr_I h) (fun q => mobj_I (by decide))
theorem ov_g_36 : jgA (ov m ad T h0) m 9 36 = some (some (ad 36)) := by unfold jgA; rw [ov_gF]; rfl
theorem ov_a_36 (hA : MA B m ad) (j : Int32) : jaI (ov m ad T h0) (ad 36) j = obd (jrg 40 j) (fun q => some (T.1 36 q)) := by unfold jaI; rw [ov_aV hA (k := 36) (n := 40) (by decide) rfl j]; cases jrg 40 j <;> rfl
theorem ov_s_36 (hA : MA B m ad) (j : Int32) (x : Int32) : jpA B .int (ad 36) j (.int x) (ov m ad T h0, c) = obd (jrg 40 j) (fun q => some (ov m ad (tsI T 36 q x) h0, c)) := ov_putA hA (k := 36) (by decide) rfl j _ (fun q => tsI T 36 q x) (fun q => by simp only [marr, mty, mlen, tsI]; congr 3; funext z; by_cases e : z = q <;> simp [updV, up2, e]) (fun q k' _ h => marr_I h) (fun q => mobj_I (by decide))
theorem ov_g_37 : jgA (ov m ad T h0) m 9 37 = some (some (ad 37)) := by unfold jgA; rw [ov_gF]; rfl
theorem ov_a_37 (hA : MA B m ad) (j : Int32) : jaI (ov m ad T h0) (ad 37) j = obd (jrg 40 j) (fun q => some (T.1 37 q)) := by unfold jaI; rw [ov_aV hA (k := 37) (n := 40) (by decide) rfl j]; cases jrg 40 j <;> rfl
theorem ov_s_37 (hA : MA B m ad) (j : Int32) (x : Int32) : jpA B .int (ad 37) j (.int x) (ov m ad T h0, c) = obd (jrg 40 j) (fun q => some (ov m ad (tsI T 37 q x) h0, c)) := ov_putA hA (k := 37) (by decide) rfl j _ (fun q => tsI T 37 q x) (fun q => by simp only [marr, mty, mlen, tsI]; congr 3; funext z; by_cases e : z = q <;> simp [updV, up2, e]) (fun q k' _ h => marr_I h) (fun q => mobj_I (by decide))
theorem ov_g_38 : jgA (ov m ad T h0) m 9 38 = some (some (ad 38)) := by unfold jgA; rw [ov_gF]; rfl
theorem ov_a_38 (hA : MA B m ad) (j : Int32) : jaD (ov m ad T h0) (ad 38) j = obd (jrg 40 j) (fun q => some (T.2.2.1 38 q)) := by unfold jaD; rw [ov_aV hA (k := 38) (n := 40) (by decide) rfl j]; cases jrg 40 j <;> rfl
theorem ov_s_38 (hA : MA B m ad) (j : Int32) (x : UInt64) : jpA B .double (ad 38) j (.double x) (ov m ad T h0, c) = obd (jrg 40 j) (fun q => some (ov m ad (tsD T 38 q x) h0, c)) := ov_putA hA (k := 38) (by decide) rfl j _ (fun q => tsD T 38 q x) (fun q => by simp only [marr, mty, mlen, tsD]; congr 3; funext z; by_cases e : z = q <;> simp [updV, up2, e]) (fun q k' _ h => marr_D h) (fun q => mobj_D (by decide))
theorem ov_g_39 : jgI (ov m ad T h0) m 9 39 = some (T.1 39 0) := by unfold jgI; rw [ov_gF]; rfl
theorem ov_p_39 (hA : MA B m ad) (x : Int32) : jpF B 9 39 m (.int x) (ov m ad T h0, c) = some (ov m ad (tsI T 39 0 x) h0, c) := ov_putF hA (mput_I rfl) (fun k' h => marr_I (by rintro rfl; revert h; decide))
theorem ov_g_40 : jgI (ov m ad T h0) m 9 40 = some (T.1 40 0) := by unfold jgI; rw [ov_gF]; rfl
theorem ov_p_40 (hA : MA B m ad) (x : Int32) : jpF B 9 40 m (.int x) (ov m ad T h0, c) = some (ov m ad (tsI T 40 0 x) h0, c) := ov_putF hA (mput_I rfl) (fun k' h => marr_I (by rintro rfl; revert h; decide))
theorem ov_g_41 : jgD (ov m ad T h0) m 9 41 = some (T.2.2.1 41 0) := by unfold jgD; rw [ov_gF]; rfl
theorem ov_p_41 (hA : MA B m ad) (x : UInt64) : jpF B 9 41 m (.double x) (ov m ad T h0, c) = some (ov m ad (tsD T 41 0 x) h0, c) := ov_putF hA (mput_D rfl) (fun k' h => marr_D (by rintro rfl; revert h; decide))
theorem ov_g_42 : jgI (ov m ad T h0) m 9 42 = some (T.1 42 0) := by unfold jgI; rw [ov_gF]; rfl
theorem ov_p_42 (hA : MA B m ad) (x : Int32) : jpF B 9 42 m (.int x) (ov m ad T h0, c) = some (ov m ad (tsI T 42 0 x) h0, c) := ov_putF hA (mput_I rfl) (fun k' h => marr_I (by rintro rfl; revert h; decide))
theorem ov_g_43 : jgA (ov m ad T h0) m 9 43 = some (some (ad 43)) := by unfold jgA; rw [ov_gF]; rfl
theorem ov_a_43 (hA : MA B m ad) (j : Int32) : jaI (ov m ad T h0) (ad 43) j = obd (jrg 20 j) (fun q => some (T.1 43 q)) := by unfold jaI; rw [ov_aV hA (k := 43) (n := 20) (by decide) rfl j]; cases jrg 20 j <;> rfl
theorem ov_s_43 (hA : MA B m ad) (j : Int32) (x : Int32) : jpA B .int (ad 43) j (.int x) (ov m ad T h0, c) = obd (jrg 20 j) (fun q => some (ov m ad (tsI T 43 q x) h0, c)) := ov_putA hA (k := 43) (by decide) rfl j _ (fun q => tsI T 43 q x) (fun q => by simp only [marr, mty, mlen, tsI]; congr 3; funext z; by_cases e : z = q <;> simp [updV, up2, e]) (fun q k' _ h => marr_I h) (fun q => mobj_I (by decide))
theorem ov_g_44 : jgI (ov m ad T h0) m 9 44 = some (T.1 44 0) := by unfold jgI; rw [ov_gF]; rfl
theorem ov_p_44 (hA : MA B m ad) (x : Int32) : jpF B 9 44 m (.int x) (ov m ad T h0, c) = some (ov m ad (tsI T 44 0 x) h0, c) := ov_putF hA (mput_I rfl) (fun k' h => marr_I (by rintro rfl; revert h; decide))
theorem ov_g_45 : jgA (ov m ad T h0) m 9 45 = some (some (ad 45)) := by unfold jgA; rw [ov_gF]; rfl
theorem ov_a_45 (hA : MA B m ad) (j : Int32) : jaI (ov m ad T h0) (ad 45) j = obd (jrg 8 j) (fun q => some (T.1 45 q)) := by unfold jaI; rw [ov_aV hA (k := 45) (n := 8) (by decide) rfl j]; cases jrg 8 j <;> rfl
theorem ov_s_45 (hA : MA B m ad) (j : Int32) (x : Int32) : jpA B .int (ad 45) j (.int x) (ov m ad T h0, c) = obd (jrg 8 j) (fun q => some (ov m ad (tsI T 45 q x) h0, c)) := ov_putA hA (k := 45) (by decide) rfl j _ (fun q => tsI T 45 q x) (fun q => by simp only [marr, mty, mlen, tsI]; congr 3; funext z; by_cases e : z = q <;> simp [updV, up2, e]) (fun q k' _ h => marr_I h) (fun q => mobj_I (by decide))
theorem ov_g_46 : jgA (ov m ad T h0) m 9 46 = some (some (ad 46)) := by unfold jgA; rw [ov_gF]; rfl
theorem ov_a_46 (hA : MA B m ad) (j : Int32) : jaD (ov m ad T h0) (ad 46) j = obd (jrg 30720 j) (fun q => some (T.2.2.1 46 q)) := by unfold jaD; rw [ov_aV hA (k := 46) (n := 30720) (by decide) rfl j]; cases jrg 30720 j <;> rfl
theorem ov_s_46 (hA : MA B m ad) (j : Int32) (x : UInt64) : jpA B .double (ad 46) j (.double x) (ov m ad T h0, c) = obd (jrg 30720 j) (fun q => some (ov m ad (tsD T 46 q x) h0, c)) := ov_putA hA (k := 46) (by decide) rfl j _ (fun q => tsD T 46 q x) (fun q => by simp only [marr, mty, mlen, tsD]; congr 3; funext z; by_cases e : z = q <;> simp [updV, up2, e]) (fun q k' _ h => marr_D h) (fun q => mobj_D (by decide))
theorem ov_g_47 : jgA (ov m ad T h0) m 9 47 = some (some (ad 47)) := by unfold jgA; rw [ov_gF]; rfl
theorem ov_a_47 (hA : MA B m ad) (j : Int32) : jaI (ov m ad T h0) (ad 47) j = obd (jrg 480 j) (fun q => some (T.1 47 q)) := by unfold jaI; rw [ov_aV hA (k := 47) (n := 480) (by decide) rfl j]; cases jrg 480 j <;> rfl
theorem ov_s_47 (hA : MA B m ad) (j : Int32) (x : Int32) : jpA B .int (ad 47) j (.int x) (ov m ad T h0, c) = obd (jrg 480 j) (fun q => some (ov m ad (tsI T 47 q x) h0, c)) := ov_putA hA (k := 47) (by decide) rfl j _ (fun q => tsI T 47 q x) (fun q => by simp only [marr, mty, mlen, tsI]; congr 3; funext z; by_cases e : z = q <;> simp [updV, up2, e]) (fun q k' _ h => marr_I h) (fun q => mobj_I (by decide))
theorem ov_g_48 : jgA (ov m ad T h0) m 9 48 = some (some (ad 48)) := by unfold jgA; rw [ov_gF]; rfl
theorem ov_a_48 (hA : MA B m ad) (j : Int32) : jaJ (ov m ad T h0) (ad 48) j = obd (jrg 480 j) (fun q => some (T.2.1 48 q)) := by unfold jaJ; rw [ov_aV hA (k := 48) (n := 480) (by decide) rfl j]; cases jrg 480 j <;> rfl
theorem ov_s_48 (hA : MA B m ad) (j : Int32) (x : Int64) : jpA B .long (ad 48) j (.long x) (ov m ad T h0, c) = obd (jrg 480 j) (fun q => some (ov m ad (tsJ T 48 q x) h0, c)) := ov_putA hA (k := 48) (by decide) rfl j _ (fun q => tsJ T 48 q x) (fun q => by simp only [marr, mty, mlen, tsJ]; congr 3; funext z; by_cases e : z = q <;> simp [updV, up2, e]) (fun q k' _ h => marr_J h) (fun q => mobj_J (by decide))
theorem ov_g_49 : jgA (ov m ad T h0) m 9 49 = some (some (ad 49)) := by unfold jgA; rw [ov_gF]; rfl
theorem ov_a_49 (hA : MA B m ad) (j : Int32) : jaD (ov m ad T h0) (ad 49) j = obd (jrg 30720 j) (fun q => some (T.2.2.1 49 q)) := by unfold jaD; rw [ov_aV hA (k := 49) (n := 30720) (by decide) rfl j]; cases jrg 30720 j <;> rfl
theorem ov_s_49 (hA : MA B m ad) (j : Int32) (x : UInt64) : jpA B .double (ad 49) j (.double x) (ov m ad T h0, c) = obd (jrg 30720 j) (fun q => some (ov m ad (tsD T 49 q x) h0, c)) := ov_putA hA (k := 49) (by decide) rfl j _ (fun q => tsD T 49 q x) (fun q => by simp only [marr, mty, mlen, tsD]; congr 3; funext z; by_cases e : z = q <;> simp [updV, up2, e]) (fun q k' _ h => marr_D h) (fun q => mobj_D (by decide))
theorem ov_g_50 : jgA (ov m ad T h0) m 9 50 = some (some (ad 50)) := by unfold jgA; rw [ov_gF]; rfl
theorem ov_a_50 (hA : MA B m ad) (j : Int32) : jaI (ov m ad T h0) (ad 50) j = obd (jrg 480 j) (fun q => some (T.1 50 q)) := by unfold jaI; rw [ov_aV hA (k := 50) (n := 480) (by decide) rfl j]; cases jrg 480 j <;> rfl
theorem ov_s_50 (hA : MA B m ad) (j : Int32) (x : Int32) : jpA B .int (ad 50) j (.int x) (ov m ad T h0, c) = obd (jrg 480 j) (fun q => some (ov m ad (tsI T 50 q x) h0, c)) := ov_putA hA (k := 50) (by decide) rfl j _ (fun q => tsI T 50 q x) (fun q => by simp only [marr, mty, mlen, tsI]; congr 3; funext z; by_cases e : z = q <;> simp [updV, up2, e]) (fun q k' _ h => marr_I h) (fun q => mobj_I (by decide))
theorem ov_g_51 : jgA (ov m ad T h0) m 9 51 = some (some (ad 51)) := by unfold jgA; rw [ov_gF]; rfl
theorem ov_a_51 (hA : MA B m ad) (j : Int32) : jaI (ov m ad T h0) (ad 51) j = obd (jrg 160 j) (fun q => some (T.1 51 q)) := by unfold jaI; rw [ov_aV hA (k := 51) (n := 160) (by decide) rfl j]; cases jrg 160 j <;> rfl
theorem ov_s_51 (hA : MA B m ad) (j : Int32) (x : Int32) : jpA B .int (ad 51) j (.int x) (ov m ad T h0, c) = obd (jrg 160 j) (fun q => some (ov m ad (tsI T 51 q x) h0, c)) := ov_putA hA (k := 51) (by decide) rfl j _ (fun q => tsI T 51 q x) (fun q => by simp only [marr, mty, mlen, tsI]; congr 3; funext z; by_cases e : z = q <;> simp [updV, up2, e]) (fun q k' _ h => marr_I h) (fun q => mobj_I (by decide))
theorem ov_g_52 : jgA (ov m ad T h0) m 9 52 = some (some (ad 52)) := by unfold jgA; rw [ov_gF]; rfl
theorem ov_a_52 (hA : MA B m ad) (j : Int32) : jaI (ov m ad T h0) (ad 52) j = obd (jrg 160 j) (fun q => some (T.1 52 q)) := by unfold jaI; rw [ov_aV hA (k := 52) (n := 160) (by decide) rfl j]; cases jrg 160 j <;> rfl
theorem ov_s_52 (hA : MA B m ad) (j : Int32) (x : Int32) : jpA B .int (ad 52) j (.int x) (ov m ad T h0, c) = obd (jrg 160 j) (fun q => some (ov m ad (tsI T 52 q x) h0, c)) := ov_putA hA (k := 52) (by decide) rfl j _ (fun q => tsI T 52 q x) (fun q => by simp only [marr, mty, mlen, tsI]; congr 3; funext z; by_cases e : z = q <;> simp [updV, up2, e]) (fun q k' _ h => marr_I h) (fun q => mobj_I (by decide))
theorem ov_g_53 : jgA (ov m ad T h0) m 9 53 = some (some (ad 53)) := by unfold jgA; rw [ov_gF]; rfl
theorem ov_a_53 (hA : MA B m ad) (j : Int32) : jaI (ov m ad T h0) (ad 53) j = obd (jrg 480 j) (fun q => some (T.1 53 q)) := by unfold jaI; rw [ov_aV hA (k := 53) (n := 480) (by decide) rfl j]; cases jrg 480 j <;> rfl
theorem ov_s_53 (hA : MA B m ad) (j : Int32) (x : Int32) : jpA B .int (ad 53) j (.int x) (ov m ad T h0, c) = obd (jrg 480 j) (fun q => some (ov m ad (tsI T 53 q x) h0, c)) := ov_putA hA (k := 53) (by decide) rfl j _ (fun q => tsI T 53 q x) (fun q => by simp only [marr, mty, mlen, tsI]; congr 3; funext z; by_cases e : z = q <;> simp [updV, up2, e]) (fun q k' _ h => marr_I h) (fun q => mobj_I (by decide))
theorem ov_g_54 : jgI (ov m ad T h0) m 9 54 = some (T.1 54 0) := by unfold jgI; rw [ov_gF]; rfl
theorem ov_p_54 (hA : MA B m ad) (x : Int32) : jpF B 9 54 m (.int x) (ov m ad T h0, c) = some (ov m ad (tsI T 54 0 x) h0, c) := ov_putF hA (mput_I rfl) (fun k' h => marr_I (by rintro rfl; revert h; decide))
theorem ov_g_55 : jgI (ov m ad T h0) m 9 55 = some (T.1 55 0) := by unfold jgI; rw [ov_gF]; rfl
theorem ov_p_55 (hA : MA B m ad) (x : Int32) : jpF B 9 55 m (.int x) (ov m ad T h0, c) = some (ov m ad (tsI T 55 0 x) h0, c) := ov_putF hA (mput_I rfl) (fun k' h => marr_I (by rintro rfl; revert h; decide))
theorem ov_g_56 : jgA (ov m ad T h0) m 9 56 = some (some (ad 56)) := by unfold jgA; rw [ov_gF]; rfl
theorem ov_a_56 (hA : MA B m ad) (j : Int32) : jaI (ov m ad T h0) (ad 56) j = obd (jrg 65536 j) (fun q => some (T.1 56 q)) := by unfold jaI; rw [ov_aV hA (k := 56) (n := 65536) (by decide) rfl j]; cases jrg 65536 j <;> rfl
theorem ov_s_56 (hA : MA B m ad) (j : Int32) (x : Int32) : jpA B .int (ad 56) j (.int x) (ov m ad T h0, c) = obd (jrg 65536 j) (fun q => some (ov m ad (tsI T 56 q x) h0, c)) := ov_putA hA (k := 56) (by decide) rfl j _ (fun q => tsI T 56 q x) (fun q => by simp only [marr, mty, mlen, tsI]; congr 3; funext z; by_cases e : z = q <;> simp [updV, up2, e]) (fun q k' _ h => marr_I h) (fun q => mobj_I (by decide))
theorem ov_g_57 : jgA (ov m ad T h0) m 9 57 = some (some (ad 57)) := by unfold jgA; rw [ov_gF]; rfl
theorem ov_a_57 (hA : MA B m ad) (j : Int32) : jaI (ov m ad T h0) (ad 57) j = obd (jrg 65536 j) (fun q => some (T.1 57 q)) := by unfold jaI; rw [ov_aV hA (k := 57) (n := 65536) (by decide) rfl j]; cases jrg 65536 j <;> rfl
theorem ov_s_57 (hA : MA B m ad) (j : Int32) (x : Int32) : jpA B .int (ad 57) j (.int x) (ov m ad T h0, c) = obd (jrg 65536 j) (fun q => some (ov m ad (tsI T 57 q x) h0, c)) := ov_putA hA (k := 57) (by decide) rfl j _ (fun q => tsI T 57 q x) (fun q => by simp only [marr, mty, mlen, tsI]; congr 3; funext z; by_cases e : z = q <;> simp [updV, up2, e]) (fun q k' _ h => marr_I h) (fun q => mobj_I (by decide))
theorem ov_g_58 : jgA (ov m ad T h0) m 9 58 = some (some (ad 58)) := by unfold jgA; rw [ov_gF]; rfl
theorem ov_a_58 (hA : MA B m ad) (j : Int32) : jaI (ov m ad T h0) (ad 58) j = obd (jrg 65536 j) (fun q => some (T.1 58 q)) := by unfold jaI; rw [ov_aV hA (k := 58) (n := 65536) (by decide) rfl j]; cases jrg 65536 j <;> rfl
theorem ov_s_58 (hA : MA B m ad) (j : Int32) (x : Int32) : jpA B .int (ad 58) j (.int x) (ov m ad T h0, c) = obd (jrg 65536 j) (fun q => some (ov m ad (tsI T 58 q x) h0, c)) := ov_putA hA (k := 58) (by decide) rfl j _ (fun q => tsI T 58 q x) (fun q => by simp only [marr, mty, mlen, tsI]; congr 3; funext z; by_cases e : z = q <;> simp [updV, up2, e]) (fun q k' _ h => marr_I h) (fun q => mobj_I (by decide))
theorem ov_g_59 : jgA (ov m ad T h0) m 9 59 = some (some (ad 59)) := by unfold jgA; rw [ov_gF]; rfl
theorem ov_a_59 (hA : MA B m ad) (j : Int32) : jaI (ov m ad T h0) (ad 59) j = obd (jrg 65536 j) (fun q => some (T.1 59 q)) := by unfold jaI; rw [ov_aV hA (k := 59) (n := 65536) (by decide) rfl j]; cases jrg 65536 j <;> rfl
theorem ov_s_59 (hA : MA B m ad) (j : Int32) (x : Int32) : jpA B .int (ad 59) j (.int x) (ov m ad T h0, c) = obd (jrg 65536 j) (fun q => some (ov m ad (tsI T 59 q x) h0, c)) := ov_putA hA (k := 59) (by decide) rfl j _ (fun q => tsI T 59 q x) (fun q => by simp only [marr, mty, mlen, tsI]; congr 3; funext z; by_cases e : z = q <;> simp [updV, up2, e]) (fun q k' _ h => marr_I h) (fun q => mobj_I (by decide))
theorem ov_g_60 : jgA (ov m ad T h0) m 9 60 = some (some (ad 60)) := by unfold jgA; rw [ov_gF]; rfl
theorem ov_a_60 (hA : MA B m ad) (j : Int32) : jaI (ov m ad T h0) (ad 60) j = obd (jrg 65536 j) (fun q => some (T.1 60 q)) := by unfold jaI; rw [ov_aV hA (k := 60) (n := 65536) (by decide) rfl j]; cases jrg 65536 j <;> rfl
theorem ov_s_60 (hA : MA B m ad) (j : Int32) (x : Int32) : jpA B .int (ad 60) j (.int x) (ov m ad T h0, c) = obd (jrg 65536 j) (fun q => some (ov m ad (tsI T 60 q x) h0, c)) := ov_putA hA (k := 60) (by decide) rfl j _ (fun q => tsI T 60 q x) (fun q => by simp only [marr, mty, mlen, tsI]; congr 3; funext z; by_cases e : z = q <;> simp [updV, up2, e]) (fun q k' _ h => marr_I h) (fun q => mobj_I (by decide))
theorem ov_g_61 : jgI (ov m ad T h0) m 9 61 = some (T.1 61 0) := by unfold jgI; rw [ov_gF]; rfl
theorem ov_p_61 (hA : MA B m ad) (x : Int32) : jpF B 9 61 m (.int x) (ov m ad T h0, c) = some (ov m ad (tsI T 61 0 x) h0, c) := ov_putF hA (mput_I rfl) (fun k' h => marr_I (by rintro rfl; revert h; decide))
theorem ov_g_62 : jgI (ov m ad T h0) m 9 62 = some (T.1 62 0) := by unfold jgI; rw [ov_gF]; rfl
theorem ov_p_62 (hA : MA B m ad) (x : Int32) : jpF B 9 62 m (.int x) (ov m ad T h0, c) = some (ov m ad (tsI T 62 0 x) h0, c) := ov_putF hA (mput_I rfl) (fun k' h => marr_I (by rintro rfl; revert h; decide))
theorem ov_g_63 : jgZ (ov m ad T h0) m 9 63 = some (T.2.2.2 63) := by unfold jgZ; rw [ov_gF]; exact jvZ_jb _
theorem ov_p_63 (hA : MA B m ad) (x : Bool) : jpF B 9 63 m (.int (jb x)) (ov m ad T h0, c) = some (ov m ad (tsZ T 63 x) h0, c) := ov_putF hA (mput_Z rfl) (fun k' h => rfl)
theorem ov_g_64 : jgA (ov m ad T h0) m 9 64 = some (some (ad 64)) := by unfold jgA; rw [ov_gF]; rfl
theorem ov_a_64 (hA : MA B m ad) (j : Int32) : jaI (ov m ad T h0) (ad 64) j = obd (jrg 60 j) (fun q => some (T.1 64 q)) := by unfold jaI; rw [ov_aV hA (k := 64) (n := 60) (by decide) rfl j]; cases jrg 60 j <;> rfl
theorem ov_s_64 (hA : MA B m ad) (j : Int32) (x : Int32) : jpA B .int (ad 64) j (.int x) (ov m ad T h0, c) = obd (jrg 60 j) (fun q => some (ov m ad (tsI T 64 q x) h0, c)) := ov_putA hA (k := 64) (by decide) rfl j _ (fun q => tsI T 64 q x) (fun q => by simp only [marr, mty, mlen, tsI]; congr 3; funext z; by_cases e : z = q <;> simp [updV, up2, e]) (fun q k' _ h => marr_I h) (fun q => mobj_I (by decide))
theorem ov_g_65 : jgA (ov m ad T h0) m 9 65 = some (some (ad 65)) := by unfold jgA; rw [ov_gF]; rfl
theorem ov_a_65 (hA : MA B m ad) (j : Int32) : jaI (ov m ad T h0) (ad 65) j = obd (jrg 20 j) (fun q => some (T.1 65 q)) := by unfold jaI; rw [ov_aV hA (k := 65) (n := 20) (by decide) rfl j]; cases jrg 20 j <;> rfl
theorem ov_s_65 (hA : MA B m ad) (j : Int32) (x : Int32) : jpA B .int (ad 65) j (.int x) (ov m ad T h0, c) = obd (jrg 20 j) (fun q => some (ov m ad (tsI T 65 q x) h0, c)) := ov_putA hA (k := 65) (by decide) rfl j _ (fun q => tsI T 65 q x) (fun q => by simp only [marr, mty, mlen, tsI]; congr 3; funext z; by_cases e : z = q <;> simp [updV, up2, e]) (fun q k' _ h => marr_I h) (fun q => mobj_I (by decide))
theorem ov_g_66 : jgA (ov m ad T h0) m 9 66 = some (some (ad 66)) := by unfold jgA; rw [ov_gF]; rfl
theorem ov_a_66 (hA : MA B m ad) (j : Int32) : jaI (ov m ad T h0) (ad 66) j = obd (jrg 20 j) (fun q => some (T.1 66 q)) := by unfold jaI; rw [ov_aV hA (k := 66) (n := 20) (by decide) rfl j]; cases jrg 20 j <;> rfl
theorem ov_s_66 (hA : MA B m ad) (j : Int32) (x : Int32) : jpA B .int (ad 66) j (.int x) (ov m ad T h0, c) = obd (jrg 20 j) (fun q => some (ov m ad (tsI T 66 q x) h0, c)) := ov_putA hA (k := 66) (by decide) rfl j _ (fun q => tsI T 66 q x) (fun q => by simp only [marr, mty, mlen, tsI]; congr 3; funext z; by_cases e : z = q <;> simp [updV, up2, e]) (fun q k' _ h => marr_I h) (fun q => mobj_I (by decide))
theorem ov_g_67 : jgA (ov m ad T h0) m 9 67 = some (some (ad 67)) := by unfold jgA; rw [ov_gF]; rfl
theorem ov_a_67 (hA : MA B m ad) (j : Int32) : jaI (ov m ad T h0) (ad 67) j = obd (jrg 20 j) (fun q => some (T.1 67 q)) := by unfold jaI; rw [ov_aV hA (k := 67) (n := 20) (by decide) rfl j]; cases jrg 20 j <;> rfl
theorem ov_s_67 (hA : MA B m ad) (j : Int32) (x : Int32) : jpA B .int (ad 67) j (.int x) (ov m ad T h0, c) = obd (jrg 20 j) (fun q => some (ov m ad (tsI T 67 q x) h0, c)) := ov_putA hA (k := 67) (by decide) rfl j _ (fun q => tsI T 67 q x) (fun q => by simp only [marr, mty, mlen, tsI]; congr 3; funext z; by_cases e : z = q <;> simp [updV, up2, e]) (fun q k' _ h => marr_I h) (fun q => mobj_I (by decide))
end OV
