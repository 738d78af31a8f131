/-! THE SMALL MACHINE: cells by address, locals as a list, one step an instruction -/
abbrev JCell : Type := (Nat × (Nat → Value)) ⊕ (FieldType × Nat × (Nat → Value))
abbrev JMem : Type := (Nat → Option JCell) × Nat × Nat
abbrev JLoc : Type := List (Nat × Value)
def jup (h : Nat → Option JCell) (a : Nat) (c : JCell) : Nat → Option JCell := fun q => if q = a then some c else h q
def jget : JLoc → Nat → Value
  | [], _ => .retAddr 0
  | (i, v) :: r, j => if i = j then v else jget r j
def jset1 (ls : JLoc) (i : Nat) (v : Value) : JLoc := (i, v) :: ls.filter (fun q => !(q.1 == i) && !(q.1 + 1 == i && q.2.category == 2))
def jset2 (ls : JLoc) (i : Nat) (v : Value) : JLoc := (i, v) :: ls.filter (fun q => !(q.1 == i) && (!(q.1 == i + 1) && !(q.1 + 1 == i && q.2.category == 2)))
def jin (i : Int32) (n : Nat) : Prop := ¬ (i < 0 ∨ n ≤ i.toNatClampNeg)
def jlen : Instr → Nat
  | .bipush _ => 2 | .newarray _ => 2 | .iload _ => 2 | .lload _ => 2 | .fload _ => 2 | .dload _ => 2 | .aload _ => 2
  | .istore _ => 2 | .lstore _ => 2 | .dstore _ => 2 | .astore _ => 2 | .ldc _ => 2
  | .sipush _ => 3 | .ldc_w _ => 3 | .ldc2_w _ => 3 | .iinc _ _ => 3 | .ifCond _ _ => 3 | .if_icmp _ _ => 3 | .goto _ => 3
  | .getstatic _ => 3 | .getfield _ => 3 | .putfield _ => 3 | .invokevirtual _ => 3 | .invokespecial _ => 3 | .invokestatic _ => 3
  | .new _ => 3 | .anewarray _ => 3 | .ifnull _ => 3 | .ifnonnull _ => 3
  | _ => 1
abbrev JSt : Type := Option (List Value)
def jI1 (f : Int32 → Value) (st : List Value) : JSt := match st with | .int x :: r => some (f x :: r) | _ => none
def jL1 (f : Int64 → Value) (st : List Value) : JSt := match st with | .long x :: r => some (f x :: r) | _ => none
def jD1 (f : UInt64 → Value) (st : List Value) : JSt := match st with | .double x :: r => some (f x :: r) | _ => none
def jI2 (f : Int32 → Int32 → Value) (st : List Value) : JSt := match st with | .int y :: .int x :: r => some (f x y :: r) | _ => none
def jL2 (f : Int64 → Int64 → Value) (st : List Value) : JSt := match st with | .long y :: .long x :: r => some (f x y :: r) | _ => none
def jLI (f : Int64 → Int32 → Value) (st : List Value) : JSt := match st with | .int y :: .long x :: r => some (f x y :: r) | _ => none
def jD2 (f : UInt64 → UInt64 → Value) (st : List Value) : JSt := match st with | .double y :: .double x :: r => some (f x y :: r) | _ => none
/-- a double that is a number; nothing where it is none -/
def jnumD (x : UInt64) (r : List Value) : JSt := if x &&& 0x7fffffffffffffff ≤ 0x7ff0000000000000 then some (.double x :: r) else none
def jnumF (x : UInt32) (r : List Value) : JSt := if x &&& 0x7fffffff ≤ 0x7f800000 then some (.float x :: r) else none
def jD2n (f : UInt64 → UInt64 → UInt64) (st : List Value) : JSt := match st with | .double y :: .double x :: r => jnumD (f x y) r | _ => none
def jF2n (f : UInt32 → UInt32 → UInt32) (st : List Value) : JSt := match st with | .float y :: .float x :: r => jnumF (f x y) r | _ => none
def jI2z (f : Int32 → Int32 → Value) (st : List Value) : JSt := match st with | .int y :: .int x :: r => if y = 0 then none else some (f x y :: r) | _ => none
def jL2z (f : Int64 → Int64 → Value) (st : List Value) : JSt := match st with | .long y :: .long x :: r => if y = 0 then none else some (f x y :: r) | _ => none
/-- what works on the stack alone -/
def jPure (i : Instr) (v : Value) (st : List Value) : JSt := match i with
  | .iconst n => some (.int (Int32.ofInt n) :: st)
  | .bipush n => some (.int (Int8.ofInt n).toInt32 :: st)
  | .sipush n => some (.int (Int16.ofInt n).toInt32 :: st)
  | .lconst n => some (.long (Int64.ofNat (n : Nat)) :: st)
  | .dconst n => some (.double (if (n : Nat) = 0 then FP.dconst0 else FP.dconst1) :: st)
  | .aconst_null => some (.null :: st)
  | .ldc _ => (match v with | .int x => some (.int x :: st) | _ => none)
  | .ldc_w _ => (match v with | .int x => some (.int x :: st) | _ => none)
  | .ldc2_w _ => (match v with | .long x => some (.long x :: st) | .double x => some (.double x :: st) | _ => none)
  | .iadd => jI2 (fun x y => .int (x + y)) st
  | .isub => jI2 (fun x y => .int (x - y)) st
  | .imul => jI2 (fun x y => .int (x * y)) st
  | .iand => jI2 (fun x y => .int (x &&& y)) st
  | .idiv => jI2z (fun x y => .int (x / y)) st
  | .irem => jI2z (fun x y => .int (x - x / y * y)) st
  | .ishl => jI2 (fun x y => .int (x <<< (y &&& 31))) st
  | .ishr => jI2 (fun x y => .int (x >>> (y &&& 31))) st
  | .ineg => jI1 (fun x => .int (-x)) st
  | .ladd => jL2 (fun x y => .long (x + y)) st
  | .lsub => jL2 (fun x y => .long (x - y)) st
  | .lmul => jL2 (fun x y => .long (x * y)) st
  | .land => jL2 (fun x y => .long (x &&& y)) st
  | .lor => jL2 (fun x y => .long (x ||| y)) st
  | .lxor => jL2 (fun x y => .long (x ^^^ y)) st
  | .ldiv => jL2z (fun x y => .long (x / y)) st
  | .lrem => jL2z (fun x y => .long (x - x / y * y)) st
  | .lneg => jL1 (fun x => .long (-x)) st
  | .lcmp => jL2 (fun x y => .int (lg_cmp x y)) st
  | .lshl => jLI (fun x y => .long (x <<< (y.toInt64 &&& 63))) st
  | .lshr => jLI (fun x y => .long (x >>> (y.toInt64 &&& 63))) st
  | .lushr => jLI (fun x y => .long (x.toUInt64 >>> (y.toInt64.toUInt64 &&& Int64.toUInt64 63)).toInt64) st
  | .i2l => jI1 (fun x => .long x.toInt64) st
  | .l2i => jL1 (fun x => .int x.toInt32) st
  | .i2s => jI1 (fun x => .int x.toInt16.toInt32) st
  | .i2d => jI1 (fun x => .double (FP.i2d x)) st
  | .l2d => jL1 (fun x => .double (FP.l2d x)) st
  | .d2i => jD1 (fun x => .int (FP.d2i x)) st
  | .d2l => jD1 (fun x => .long (FP.d2l x)) st
  | .dneg => jD1 (fun x => .double (FP.dneg x)) st
  | .dcmp op => jD2 (fun x y => .int (Op.cmpValue (FP.dcmp x y) op)) st
  | .fcmp op => (match st with | .float y :: .float x :: r => some (.int (Op.cmpValue (FP.fcmp x y) op) :: r) | _ => none)
  | .dadd => jD2n FP.dadd st
  | .dsub => jD2n FP.dsub st
  | .dmul => jD2n FP.dmul st
  | .ddiv => jD2n FP.ddiv st
  | .fadd => jF2n FP.fadd st
  | .fsub => jF2n FP.fsub st
  | .fmul => jF2n FP.fmul st
  | .f2d => (match st with | .float x :: r => jnumD (FP.f2d x) r | _ => none)
  | .d2f => (match st with | .double x :: r => jnumF (FP.d2f x) r | _ => none)
  | .dup => (match st with | a :: r => if a.category = 1 then some (a :: a :: r) else none | _ => none)
  | .dup2 => (match st with | a :: r => if a.category = 2 then some (a :: a :: r) else (match r with | b :: r' => if b.category = 1 then some (a :: b :: a :: b :: r') else none | _ => none) | _ => none)
  | .pop => (match st with | a :: r => if a.category = 1 then some r else none | _ => none)
  | .pop2 => (match st with | a :: r => if a.category = 2 then some r else none | _ => none)
  | _ => none
abbrev JLs : Type := Option (JLoc × List Value)
def jldI (ls : JLoc) (st : List Value) (v : Value) : JLs := match v with | .int _ => some (ls, v :: st) | _ => none
def jldL (ls : JLoc) (st : List Value) (v : Value) : JLs := match v with | .long _ => some (ls, v :: st) | _ => none
def jldF (ls : JLoc) (st : List Value) (v : Value) : JLs := match v with | .float _ => some (ls, v :: st) | _ => none
def jldD (ls : JLoc) (st : List Value) (v : Value) : JLs := match v with | .double _ => some (ls, v :: st) | _ => none
def jldA (ls : JLoc) (st : List Value) (v : Value) : JLs := match v with | .ref _ => some (ls, v :: st) | .null => some (ls, v :: st) | _ => none
def jstI (N i : Nat) (ls : JLoc) (st : List Value) : JLs := match st with | .int x :: r => if i < N then some (jset1 ls i (.int x), r) else none | _ => none
def jstL (N i : Nat) (ls : JLoc) (st : List Value) : JLs := match st with | .long x :: r => if i + 1 < N then some (jset2 ls i (.long x), r) else none | _ => none
def jstD (N i : Nat) (ls : JLoc) (st : List Value) : JLs := match st with | .double x :: r => if i + 1 < N then some (jset2 ls i (.double x), r) else none | _ => none
def jstA (N i : Nat) (ls : JLoc) (st : List Value) : JLs := match st with
  | .ref x :: r => if i < N then some (jset1 ls i (.ref x), r) else none
  | .null :: r => if i < N then some (jset1 ls i .null, r) else none
  | _ => none
/-- loads and stores of locals; N: how many there are -/
def jLcl (N : Nat) (i : Instr) (ls : JLoc) (st : List Value) : JLs := match i with
  | .iload_n k => jldI ls st (jget ls k)
  | .iload k => jldI ls st (jget ls k)
  | .lload_n k => jldL ls st (jget ls k)
  | .lload k => jldL ls st (jget ls k)
  | .fload_n k => jldF ls st (jget ls k)
  | .fload k => jldF ls st (jget ls k)
  | .dload_n k => jldD ls st (jget ls k)
  | .dload k => jldD ls st (jget ls k)
  | .aload_n k => jldA ls st (jget ls k)
  | .aload k => jldA ls st (jget ls k)
  | .istore_n k => jstI N k ls st
  | .istore k => jstI N k ls st
  | .lstore_n k => jstL N k ls st
  | .lstore k => jstL N k ls st
  | .dstore_n k => jstD N k ls st
  | .dstore k => jstD N k ls st
  | .astore_n k => jstA N k ls st
  | .astore k => jstA N k ls st
  | .iinc k n => (match jget ls k with | .int x => if k < N then some (jset1 ls k (.int (x + Int32.ofInt n)), st) else none | _ => none)
  | _ => none
def jifc {α : Type} (c : ClassFile.Cond) (x y : Int32) (a b : α) : α := match c with
  | .eq => if x = y then a else b
  | .ne => if x = y then b else a
  | .lt => if x < y then a else b
  | .ge => if y ≤ x then a else b
  | .gt => if y < x then a else b
  | .le => if x ≤ y then a else b
def jswt (x : Int32) : Int → List Nat → Nat → Nat
  | _, [], d => d
  | lo, t :: ts, d => if x.toInt = lo then t else jswt x (lo + 1) ts d
/-- jumps: the next place -/
def jJmp (pc : Nat) (i : Instr) (r : List Nat) (st : List Value) : Option (Nat × List Value) := match i with
  | .goto _ => (match r with | [t] => some (t, st) | _ => none)
  | .ifCond c _ => (match r with | [t] => (match st with | .int x :: s => some (jifc c x 0 t (pc + 3), s) | _ => none) | _ => none)
  | .if_icmp c _ => (match r with | [t] => (match st with | .int y :: .int x :: s => some (jifc c x y t (pc + 3), s) | _ => none) | _ => none)
  | .ifnull _ => (match r with | [t] => (match st with | .null :: s => some (t, s) | .ref _ :: s => some (pc + 3, s) | _ => none) | _ => none)
  | .ifnonnull _ => (match r with | [t] => (match st with | .null :: s => some (pc + 3, s) | .ref _ :: s => some (t, s) | _ => none) | _ => none)
  | .tableswitch _ lo _ _ => (match r with | d :: ts => (match st with | .int x :: s => some (jswt x lo ts d, s) | _ => none) | _ => none)
  | _ => none
abbrev JHp : Type := Option (List Value × JMem)
def jclsN (ci : Nat) : String := match jCs[ci]? with | some q => q.1 | none => ""
def jfty (ci k : Nat) : FieldType := match jTys[ci]? with | some f => f k | none => .int
def jnfl (ci : Nat) : Nat := match jCs[ci]? with | some q => q.2.2 | none => 0
/-- an array's cell is read -/
def jald (ty : FieldType) (st : List Value) (μ : JMem) : JHp := match st with
  | .int j :: .ref a :: s => (match μ.1 a with
    | some (.inr (t, n, f)) => if t = ty ∧ ¬ (j < 0 ∨ n ≤ j.toNatClampNeg) then some (f j.toNatClampNeg :: s, μ) else none
    | _ => none)
  | _ => none
def jarS (B : Nat) (ty : FieldType) (a : Nat) (j : Int32) (v : Value) (s : List Value) (μ : JMem) : JHp := match μ.1 a with
  | some (.inr (t, n, f)) => if t = ty ∧ B ≤ a ∧ ¬ (j < 0 ∨ n ≤ j.toNatClampNeg) then some (s, jup μ.1 a (.inr (t, n, updV f j.toNatClampNeg v)), μ.2) else none
  | _ => none
def jobC (ci : Nat) (c : Option JCell) : Bool := match c with | some (.inl (c, _)) => c == ci | _ => false
/-- fields, arrays, new cells; B: what lies below it is never written; SA: the addresses of the static arrays -/
def jHep (B : Nat) (SA : Nat → Nat) (i : Instr) (r : List Nat) (st : List Value) (μ : JMem) : JHp := match i with
  | .getfield _ => (match r with
    | [ci, k] => (match st with
      | .ref a :: s => (match μ.1 a with | some (.inl (c, f)) => if c = ci then some (f k :: s, μ) else none | _ => none)
      | _ => none)
    | _ => none)
  | .putfield _ => (match r with
    | [ci, k] => (match st with
      | v :: .ref a :: s => (match μ.1 a with
        | some (.inl (c, f)) => if c = ci ∧ B ≤ a ∧ narrow (jfty ci k) v = v ∧ fits (jfty ci k) v = true then some (s, jup μ.1 a (.inl (c, updV f k v)), μ.2) else none
        | _ => none)
      | _ => none)
    | _ => none)
  | .getstatic _ => (match r with | [sid] => some (.ref (SA sid) :: st, μ) | _ => none)
  | .iaload => jald .int st μ
  | .laload => jald .long st μ
  | .daload => jald .double st μ
  | .aaload => (match st with
    | .int j :: .ref a :: s => (match μ.1 a with
      | some (.inr (.object _, n, f)) => if ¬ (j < 0 ∨ n ≤ j.toNatClampNeg) then some (f j.toNatClampNeg :: s, μ) else none
      | _ => none)
    | _ => none)
  | .iastore => (match st with | .int x :: .int j :: .ref a :: s => jarS B .int a j (.int x) s μ | _ => none)
  | .lastore => (match st with | .long x :: .int j :: .ref a :: s => jarS B .long a j (.long x) s μ | _ => none)
  | .dastore => (match st with | .double x :: .int j :: .ref a :: s => jarS B .double a j (.double x) s μ | _ => none)
  | .aastore => (match st with
    | .ref b :: .int j :: .ref a :: s => (match μ.1 b with
      | some (.inl (c, _)) => jarS B (.object (jclsN c)) a j (.ref b) s μ
      | _ => none)
    | _ => none)
  | .arraylength => (match st with
    | .ref a :: s => (match μ.1 a with | some (.inr (_, n, _)) => some (.int (Int32.ofNat n) :: s, μ) | _ => none)
    | _ => none)
  | .new _ => (match r with
    | [ci] => some (.ref μ.2.1 :: st, jup μ.1 μ.2.1 (.inl (ci, fun k => defaultValue (jfty ci k))), μ.2.1 + 1, μ.2.2 + jnfl ci)
    | _ => none)
  | .newarray t => (match st with
    | .int n :: s => if ¬ n < 0 ∧ n.toNatClampNeg * componentBytes (Op.newarray.typeOf t) ≤ 536870912 then
        some (.ref μ.2.1 :: s, jup μ.1 μ.2.1 (.inr (Op.newarray.typeOf t, n.toNatClampNeg, fun _ => defaultValue (Op.newarray.typeOf t))), μ.2.1 + 1, μ.2.2 + n.toNatClampNeg) else none
    | _ => none)
  | .anewarray _ => (match r with
    | [ci] => (match st with
      | .int n :: s => if ¬ n < 0 ∧ n.toNatClampNeg * 4 ≤ 536870912 then
          some (.ref μ.2.1 :: s, jup μ.1 μ.2.1 (.inr (.object (jclsN ci), n.toNatClampNeg, fun _ => .null)), μ.2.1 + 1, μ.2.2 + n.toNatClampNeg) else none
      | _ => none)
    | _ => none)
  | _ => none
/-- Object's constructor and the natives -/
def jNat (i : Instr) (r : List Nat) (st : List Value) : JSt := match i with
  | .invokespecial _ => (match r with | [0] => (match st with | .ref _ :: s => some s | _ => none) | _ => none)
  | .invokestatic _ => (match r with
    | [4, 0] => (match st with | .long b :: s => if vn_snl2d b = false then some (.double b.toUInt64 :: s) else none | _ => none)
    | [4, 1] => (match st with | .double b :: s => some (.long b.toInt64 :: s) | _ => none)
    | [4, 2] => (match st with | .int b :: s => if vn_sni2f b = false then some (.float b.toUInt32 :: s) else none | _ => none)
    | [4, 3] => (match st with | .float b :: s => some (.int b.toInt32 :: s) | _ => none)
    | _ => none)
  | _ => none
def jCats (st : List Value) : Nat := (st.map fun v => v.category).sum
/-- a call: the method, its arguments, what is left -/
def jrecv (k n : Nat) (st : List Value) : Option (Nat × Nat × List Value × List Value) := match st.drop n with
  | .ref b :: s => if n ≤ st.length then some (k, b, .ref b :: (st.take n).reverse, s) else none
  | _ => none
def jCal (i : Instr) (r : List Nat) (st : List Value) (h : Nat → Option JCell) : Option (Nat × List Value × List Value) := match i with
  | .invokestatic _ => (match r with
    | [3, k, n] => if n ≤ st.length then some (k, (st.take n).reverse, st.drop n) else none
    | [5, k, n] => if n ≤ st.length then some (k, (st.take n).reverse, st.drop n) else none
    | _ => none)
  | .invokespecial _ => (match r with
    | [1, k, n] => (match jrecv k n st with | some (k, _, as, s) => some (k, as, s) | none => none)
    | [2, k, n] => (match jrecv k n st with | some (k, _, as, s) => some (k, as, s) | none => none)
    | _ => none)
  | .invokevirtual _ => (match r with
    | [6, n, ci, k] => (match jrecv k n st with | some (k, b, as, s) => if jobC ci (h b) then some (k, as, s) else none | none => none)
    | [7, n, ci, k] => (match jrecv k n st with | some (k, b, as, s) => if jobC ci (h b) then some (k, as, s) else none | none => none)
    | [8, n, c1, k1, c2, k2] => (match jrecv 0 n st with | some (_, b, as, s) => if jobC c1 (h b) then some (k1, as, s) else if jobC c2 (h b) then some (k2, as, s) else none | none => none)
    | [9, n, c1, k1, c2, k2] => (match jrecv 0 n st with | some (_, b, as, s) => if jobC c1 (h b) then some (k1, as, s) else if jobC c2 (h b) then some (k2, as, s) else none | none => none)
    | _ => none)
  | _ => none
/-- a return: what comes back -/
def jRet (ty : Option FieldType) (i : Instr) (st : List Value) : Option (Option Value) := match i with
  | .return_ => (match st with | [] => if ty = none then some none else none | _ => none)
  | .ireturn => (match st with | [.int v] => (match ty with | some t => if narrow t (.int v) = .int v then some (some (.int v)) else none | none => none) | _ => none)
  | .lreturn => (match st with | [.long v] => if ty = some .long then some (some (.long v)) else none | _ => none)
  | .dreturn => (match st with | [.double v] => if ty = some .double then some (some (.double v)) else none | _ => none)
  | .areturn => (match ty with | some (.object _) => (match st with | [.ref v] => some (some (.ref v)) | [.null] => some (some .null) | _ => none) | _ => none)
  | _ => none
def jlk {α : Type} : List (Nat × α) → Nat → Option α
  | [], _ => none
  | (k, x) :: r, j => if k = j then some x else jlk r j
/-- the instruction at a place of a method -/
def jF (k pc : Nat) : Option JI := match jTs[k]? with | some t => jlk t pc | none => none
def jmi (k : Nat) : JMi := (jMs[k]?).getD (⟨"", "", ""⟩, ⟨#[]⟩, 0, none, 0)
/-- one step that stays in the frame -/
def jStp (B : Nat) (SA : Nat → Nat) (N pc : Nat) (i : Instr) (r : List Nat) (v : Value) (ls : JLoc) (st : List Value) (μ : JMem) : Option (Nat × JLoc × List Value × JMem) :=
  match jPure i v st with
  | some st' => some (pc + jlen i, ls, st', μ)
  | none => match jLcl N i ls st with
    | some (ls', st') => some (pc + jlen i, ls', st', μ)
    | none => match jJmp pc i r st with
      | some (pc', st') => some (pc', ls, st', μ)
      | none => match jHep B SA i r st μ with
        | some (st', μ') => some (pc + jlen i, ls, st', μ')
        | none => none
/-- the machine: n steps at most, d frames above this one -/
def jex (B : Nat) (SA : Nat → Nat) : Nat → Nat → Nat → Nat → JLoc → List Value → JMem → Option (Option Value × JMem)
  | 0, _, _, _, _, _, _ => none
  | n + 1, d, k, pc, ls, st, μ => match jF k pc with
    | none => none
    | some (i, r, v) => match jRet (jmi k).2.2.2.1 i st with
      | some o => some (o, μ)
      | none => match jCal i r st μ.1 with
        | some (k', as, s) => if d = 0 ∨ 8 < jCats s ∨ (jmi k').2.2.1 < jCats as then none else (match jex B SA n (d - 1) k' 0 (lv_args 0 as) [] μ with
          | none => none
          | some (o, μ') => jex B SA n d k (pc + 3) ls (o.toList ++ s) μ')
        | none => match jNat i r st with
          | some st' => if d = 0 ∨ 10 < jCats st' then none else jex B SA n d k (pc + 3) ls st' μ
          | none => match jStp B SA (jmi k).2.2.1 pc i r v ls st μ with
            | some (pc', ls', st', μ') => jex B SA n d k pc' ls' st' μ'
            | none => none
