/-! the tables are what the class files say: one check a method -/
def jw (h : Nat) (w : Jvm.Cond) : Bool := decide (lw_tbl[h]? = some w)
theorem jw_mem {h : Nat} {w : Jvm.Cond} (e : jw h w = true) : w ∈ lw_tbl := List.mem_of_getElem? (of_decide_eq_true e)
abbrev jnat0 : MethodName := ⟨"java/lang/Double", "longBitsToDouble", "(J)D"⟩
abbrev jnat1 : MethodName := ⟨"java/lang/Double", "doubleToRawLongBits", "(D)J"⟩
abbrev jnat2 : MethodName := ⟨"java/lang/Float", "intBitsToFloat", "(I)F"⟩
abbrev jnat3 : MethodName := ⟨"java/lang/Float", "floatToRawIntBits", "(F)I"⟩
def jokN (own : String) (x : Nat) (y : MethodName) (hs : List Nat) : Bool := match hs with
  | [h0, h1, h2, h3] => jw h0 (.methodLink own x y) && jw h1 (.native y) && jw h2 (.static y) && jw h3 (.initialized y.cls)
  | _ => false
def jokS (own : String) (x : Nat) (r hs : List Nat) : Bool := match r with
  | [3, k, n] => (match hs with | [h0, h1, h2, _] => jw h0 (.methodLink own x (jmi k).1) && jw h1 (.static (jmi k).1) && jw h2 (.initialized (jmi k).1.cls) && decide (k < 145 ∧ (jmi k).2.2.2.2 = n) | _ => false)
  | [4, 0] => jokN own x jnat0 hs
  | [4, 1] => jokN own x jnat1 hs
  | [4, 2] => jokN own x jnat2 hs
  | [4, 3] => jokN own x jnat3 hs
  | [5, k, n] => (match hs with | [h0, h1, h2, h3, _] => jw h0 (.methodLink own x ⟨own, (jmi k).1.name, (jmi k).1.desc⟩) && jw h1 (.sameMethod own (jmi k).1.cls (jmi k).1.name (jmi k).1.desc) && jw h2 (.static (jmi k).1) && jw h3 (.initialized (jmi k).1.cls) && decide (k < 145 ∧ (jmi k).2.2.2.2 = n ∧ own ≠ "java/lang/invoke/MethodHandle" ∧ own ≠ "java/lang/invoke/VarHandle") | _ => false)
  | _ => false
def jokP (own : String) (x : Nat) (r hs : List Nat) : Bool := match r with
  | [0] => (match hs with | [h0, h1, h2] => jw h0 (.methodLink own x objectInit) && jw h1 (.instanceMethod objectInit) && jw h2 (.code objectInit ⟨#[0xb1]⟩ 1 none) | _ => false)
  | [1, k, n] => (match hs with | [h0, h1, h2, _] => jw h0 (.methodLink own x (jmi k).1) && jw h1 (.instanceMethod (jmi k).1) && jw h2 (.initialized (jmi k).1.cls) && decide (k < 145 ∧ (jmi k).2.2.2.2 = n ∧ (jmi k).1.name = "<init>" ∧ (jmi k).2.2.2.1 = none) | _ => false)
  | [2, k, n] => (match hs with | [h0, h1, h2, _] => jw h0 (.methodLinkNest own x (jmi k).1 "FilterBench") && jw h1 (.instanceMethod (jmi k).1) && jw h2 (.initialized (jmi k).1.cls) && decide (k < 145 ∧ (jmi k).2.2.2.2 = n ∧ (jmi k).1.name = "<init>" ∧ (jmi k).2.2.2.1 = none) | _ => false)
  | _ => false
def jNum : String := "FilterBench$Numbers"
def jokV (own : String) (x : Nat) (r hs : List Nat) : Bool := match r with
  | [6, n, ci, k] => (match hs with | [h0, h1, h2, h3, _] => jw h0 (.methodLink own x (jmi k).1) && jw h1 (.instanceMethod (jmi k).1) && jw h2 (.selects (jmi k).1.cls (jmi k).1 (jmi k).1) && jw h3 (.initialized (jmi k).1.cls) && decide (k < 145 ∧ (jmi k).2.2.2.2 = n ∧ jclsN ci = (jmi k).1.cls) | _ => false)
  | [7, n, ci, k] => (match hs with | [h0, h1, h2, h3, _] => jw h0 (.methodLinkNest own x (jmi k).1 "FilterBench") && jw h1 (.instanceMethod (jmi k).1) && jw h2 (.selects (jmi k).1.cls (jmi k).1 (jmi k).1) && jw h3 (.initialized (jmi k).1.cls) && decide (k < 145 ∧ (jmi k).2.2.2.2 = n ∧ jclsN ci = (jmi k).1.cls) | _ => false)
  | [8, n, c1, k1, c2, k2] => (match hs with | [h0, h1, h2, g1, g2, g3, _, f1, f2, f3, _] => jw h0 (.methodLink own x ⟨jNum, (jmi k1).1.name, (jmi k1).1.desc⟩) && jw h1 (.sameMethod jNum jNum (jmi k1).1.name (jmi k1).1.desc) && jw h2 (.declares ⟨jNum, (jmi k1).1.name, (jmi k1).1.desc⟩) && jw g1 (.selects (jclsN c1) ⟨jNum, (jmi k1).1.name, (jmi k1).1.desc⟩ (jmi k1).1) && jw g2 (.instanceMethod (jmi k1).1) && jw g3 (.initialized (jmi k1).1.cls) && jw f1 (.selects (jclsN c2) ⟨jNum, (jmi k1).1.name, (jmi k1).1.desc⟩ (jmi k2).1) && jw f2 (.instanceMethod (jmi k2).1) && jw f3 (.initialized (jmi k2).1.cls) && decide (k1 < 145 ∧ k2 < 145 ∧ (jmi k1).2.2.2.2 = n ∧ (jmi k2).2.2.2.2 = n ∧ (jmi k2).1.name = (jmi k1).1.name ∧ (jmi k2).1.desc = (jmi k1).1.desc) | _ => false)
  | [9, n, c1, k1, c2, k2] => (match hs with | [h0, h1, g1, g2, g3, _, f1, _, _, _] => jw h0 (.methodLink own x ⟨jNum, (jmi k1).1.name, (jmi k1).1.desc⟩) && jw h1 (.sameMethod jNum jNum (jmi k1).1.name (jmi k1).1.desc) && jw g1 (.selects (jclsN c1) ⟨jNum, (jmi k1).1.name, (jmi k1).1.desc⟩ (jmi k1).1) && jw g2 (.instanceMethod (jmi k1).1) && jw g3 (.initialized (jmi k1).1.cls) && jw f1 (.selects (jclsN c2) ⟨jNum, (jmi k1).1.name, (jmi k1).1.desc⟩ (jmi k1).1) && decide (k1 < 145 ∧ k2 = k1 ∧ (jmi k1).2.2.2.2 = n ∧ (jmi k1).1.cls = jNum) | _ => false)
  | _ => false
def jokF (own : String) (x : Nat) (r hs : List Nat) : Bool := match r with
  | [ci, k] => (match hs with | [h] => (match jCs[ci]? with | some q => decide (k < q.2.2) && jw h (.fieldLink own x (q.2.1 k).1 (q.2.1 k).2.1 (q.2.1 k).2.2.1) | none => false) | _ => false)
  | _ => false
def jokW (own nm : String) (r : List Nat) : Bool := match r with
  | [ci, k] => (match jCs[ci]? with | some q => !(q.2.1 k).2.2.2 || (decide (nm = "<init>") && decide ((q.2.1 k).1 = own)) | none => false)
  | _ => false
/-- an instruction of a method, as the tables have it -/
def jokI (y : MethodName) (bytes : ByteArray) (pc : Nat) (i : Instr) (r : List Nat) (v : Value) (hs : List Nat) : Bool :=
  (match decode bytes pc with | .ok (j, n) => decide (j = i) && (decide (n = jlen i) || (match i with | .tableswitch _ _ _ _ => true | _ => false)) | _ => false) &&
  (match i with
  | .ldc x => (match v with | .int z => (match hs with | [h] => jw h (.constant y.cls x z) | _ => false) | _ => false)
  | .ldc_w x => (match v with | .int z => (match hs with | [h] => jw h (.constant y.cls x z) | _ => false) | _ => false)
  | .ldc2_w x => (match v with | .long z => (match hs with | [h] => jw h (.constantLong y.cls x z) | _ => false) | .double z => (match hs with | [h] => jw h (.constantDouble y.cls x z) | _ => false) | _ => false)
  | .goto o => (match r with | [t] => decide ((pc : Int) + o = (t : Int)) | _ => false)
  | .ifCond _ o => (match r with | [t] => decide ((pc : Int) + o = (t : Int)) | _ => false)
  | .if_icmp _ o => (match r with | [t] => decide ((pc : Int) + o = (t : Int)) | _ => false)
  | .ifnull o => (match r with | [t] => decide ((pc : Int) + o = (t : Int)) | _ => false)
  | .ifnonnull o => (match r with | [t] => decide ((pc : Int) + o = (t : Int)) | _ => false)
  | .tableswitch d lo hi os => (match r with | dt :: ts => decide ((pc : Int) + d = (dt : Int) ∧ lo + (ts.length : Int) = hi + 1 ∧ os.toList.map (fun o => (pc : Int) + o) = ts.map (fun (t : Nat) => (t : Int))) | _ => false)
  | .getfield x => jokF y.cls x r hs
  | .putfield x => jokF y.cls x r hs && jokW y.cls y.name r
  | .getstatic x => (match r with | [k] => (match hs with | [h] => decide (k < 4) && (jw h (.fieldLink y.cls x "FilterBench" (jsn k) "[I") || jw h (.fieldLinkNest y.cls x "FilterBench" (jsn k) "[I" "FilterBench")) | _ => false) | _ => false)
  | .new x => (match r with | [ci] => (match hs with | [h0, h1, h2] => (match jCs[ci]? with | some q => jw h0 (.classLink y.cls x q.1) && jw h1 (.instantiable q.1 q.2.2) && jw h2 (.initialized q.1) | none => false) | _ => false) | _ => false)
  | .newarray t => (match hs with | [h] => jw h (.arrayClass (Op.newarray.typeOf t)) && decide (Op.newarray.typeOf t ∈ jAts) | _ => false)
  | .anewarray x => (match r with | [ci] => (match hs with | [h0, h1] => (match jCs[ci]? with | some q => jw h0 (.classLink y.cls x q.1) && jw h1 (.arrayOver (.object q.1)) && decide (.object q.1 ∈ jAts) | none => false) | _ => false) | _ => false)
  | .invokestatic x => jokS y.cls x r hs
  | .invokespecial x => jokP y.cls x r hs
  | .invokevirtual x => jokV y.cls x r hs
  | _ => true)
def jall (y : MethodName) (bytes : ByteArray) : List (Nat × JI) → List (List Nat) → Bool
  | [], _ => true
  | (pc, i, r, v) :: t, h :: hs => jokI y bytes pc i r v h && jall y bytes t hs
  | _ :: _, [] => false
theorem jall_get {y : MethodName} {bytes : ByteArray} : ∀ (t : List (Nat × JI)) (hs : List (List Nat)), jall y bytes t hs = true → ∀ (pc : Nat) (i : Instr) (r : List Nat) (v : Value), jlk t pc = some (i, r, v) → ∃ h, jokI y bytes pc i r v h = true
  | [], _, _, pc, i, r, v, e => by simp [jlk] at e
  | (pc0, i0, r0, v0) :: t, [], h, pc, i, r, v, e => by simp [jall] at h
  | (pc0, i0, r0, v0) :: t, h0 :: hs, h, pc, i, r, v, e => by
    simp only [jall, Bool.and_eq_true] at h
    simp only [jlk] at e
    split at e
    · rename_i q
      subst q; cases e
      exact ⟨h0, h.1⟩
    · exact jall_get t hs h.2 pc i r v e
def jokM (k : Nat) : Bool := match jTs[k]? with
  | some t => (match jHs[k]? with | some hs => jall (jmi k).1 (jmi k).2.1 t hs | none => false)
  | none => true
def jmOK (k : Nat) : Prop := Jvm.Cond.code (jmi k).1 (jmi k).2.1 (jmi k).2.2.1 (jmi k).2.2.2.1 ∈ lw_tbl ∧ (jmi k).1.cls ≠ "java/lang/invoke/MethodHandle" ∧ (jmi k).1.cls ≠ "java/lang/invoke/VarHandle" ∧
  (parseMethodDescriptor (jmi k).1.desc).map (fun d => d.parameters.length) = some (jmi k).2.2.2.2 ∧ (jmi k).2.2.1 ≤ 45 ∧ plainFor (jmi k).1 = true
def jmokB (k h : Nat) : Bool := jw h (.code (jmi k).1 (jmi k).2.1 (jmi k).2.2.1 (jmi k).2.2.2.1) && decide ((jmi k).1.cls ≠ "java/lang/invoke/MethodHandle" ∧ (jmi k).1.cls ≠ "java/lang/invoke/VarHandle" ∧
  (parseMethodDescriptor (jmi k).1.desc).map (fun d => d.parameters.length) = some (jmi k).2.2.2.2 ∧ (jmi k).2.2.1 ≤ 45 ∧ plainFor (jmi k).1 = true)
theorem jmokB_ok {k h : Nat} (e : jmokB k h = true) : jmOK k := by
  simp only [jmokB, Bool.and_eq_true] at e
  exact ⟨jw_mem e.1, of_decide_eq_true e.2⟩
