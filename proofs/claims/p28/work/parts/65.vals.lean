/-! what the reference holds for a number of the class -/
section VALS
variable {so : Nat}
def rv64 (so : Nat) (d : FP.Core.Datum) : UInt64 := match so with | 0 => FP.Core.of64 d | _ => FP.f2d (FP.Core.of32 d)
theorem enc_lt64 {d : FP.Core.Datum} (hd : FP.Core.fits FP.Core.b64 d) : FP.Core.encode FP.Core.b64 d < 2 ^ 64 := by
  have := FP.Core.encode_lt FP.Core.good_b64 d hd
  rw [FP.Core.size_b64] at this; exact this
theorem enc_lt32 {d : FP.Core.Datum} (hd : FP.Core.fits FP.Core.b32 d) : FP.Core.encode FP.Core.b32 d < 2 ^ 32 := by
  have := FP.Core.encode_lt FP.Core.good_b32 d hd
  rw [FP.Core.size_b32] at this; exact this
theorem es64 : es FP.Core.b64 = 2 ^ 63 := by decide
theorem es32 : es FP.Core.b32 = 2 ^ 31 := by decide
theorem ev64 (d : FP.Core.Datum) : ev FP.Core.b64 d = j64 (FP.Core.encode FP.Core.b64 d) := by
  unfold ev
  rw [es64]
  split
  · rfl
  · congr 1; omega
theorem i32_of32 {k : Nat} : (j64 k).toInt32.toUInt32 = UInt32.ofNat k := by
  show (Int64.ofNat k).toInt32.toUInt32 = _
  rw [Int64.toInt32_ofNat']; rfl
theorem ev32 {d : FP.Core.Datum} (hd : FP.Core.fits FP.Core.b32 d) : (ev FP.Core.b32 d).toInt32.toUInt32 = FP.Core.of32 d := by
  have h := enc_lt32 hd
  unfold ev FP.Core.of32
  rw [es32]
  split
  · exact i32_of32
  · refine i32_of32.trans ?_
    apply UInt32.toNat_inj.mp
    show (2 ^ 64 - 2 * 2 ^ 31 + FP.Core.encode FP.Core.b32 d) % 2 ^ 32 = FP.Core.encode FP.Core.b32 d % 2 ^ 32
    omega
theorem dv_ev (h2 : so < 2) {d : FP.Core.Datum} (hd : FP.Core.fits (fm so) d) : dv so (ev (fm so) d) = rv64 so d := by
  match so, h2, hd with
  | 0, _, hd =>
    show (ev FP.Core.b64 d).toUInt64 = FP.Core.of64 d
    rw [ev64]; rfl
  | 1, _, hd =>
    show FP.f2d (ev FP.Core.b32 d).toInt32.toUInt32 = FP.f2d (FP.Core.of32 d)
    rw [ev32 hd]
theorem sext_ev {n : Nat} (hn : n < 2 ^ 32) {b : Int64} (hb : b = b.toInt32.toInt64) (h : b.toInt32.toUInt32.toNat = n) : b = if n < 2 ^ 31 then j64 n else j64 (2 ^ 64 - 2 * 2 ^ 31 + n) := by
  have e1 : b.toInt = b.toInt32.toInt := by
    conv => lhs; rw [hb]
    exact Int32.toInt_toInt64 _
  have e2 : b.toInt32.toInt = if 2 * n < 2 ^ 32 then (n : Int) else (n : Int) - 2 ^ 32 := by
    show b.toInt32.toBitVec.toInt = _
    have h' : b.toInt32.toBitVec.toNat = n := h
    rw [BitVec.toInt_eq_toNat_cond, h']; rfl
  have e3 := toInt_un b
  have e4 := un_lt b
  by_cases c : n < 2 ^ 31
  · rw [if_pos c]
    rw [if_pos (by omega)] at e2
    refine un_eq ?_
    split at e3 <;> omega
  · rw [if_neg c]
    rw [if_neg (by omega)] at e2
    refine un_eq ?_
    split at e3 <;> omega
theorem vb_ev (h2 : so < 2) {b : Int64} (hv : vb so b) : ∃ d, FP.Core.fits (fm so) d ∧ b = ev (fm so) d := by
  match so, h2, hv with
  | 0, _, hv =>
    rcases hv with hv | rfl
    · have h1 : FP.Core.val64 b.toUInt64 ≠ .nan := (n64_iff _).mp hv
      refine ⟨FP.Core.val64 b.toUInt64, FP.Core.val64_fits _, ?_⟩
      show b = ev FP.Core.b64 _
      rw [ev64]
      have h3 := FP.Core.of64_val64 h1
      have h4 : FP.Core.encode FP.Core.b64 (FP.Core.val64 b.toUInt64) = b.toUInt64.toNat := by
        have h5 := congrArg UInt64.toNat h3
        rw [FP.Core.toNat_of64 (FP.Core.val64_fits _)] at h5
        exact h5
      rw [h4]
      exact (j_un b).symm
    · exact ⟨.nan, trivial, by show _ = ev FP.Core.b64 .nan; decide⟩
  | 1, _, hv =>
    obtain ⟨hb, hv | rfl⟩ := hv
    · have h1 : FP.Core.val32 b.toInt32.toUInt32 ≠ .nan := (n32_iff _).mp hv
      refine ⟨FP.Core.val32 b.toInt32.toUInt32, FP.Core.val32_fits _, ?_⟩
      have h3 := FP.Core.of32_val32 h1
      have h4 : FP.Core.encode FP.Core.b32 (FP.Core.val32 b.toInt32.toUInt32) = b.toInt32.toUInt32.toNat := by
        have h5 := congrArg UInt32.toNat h3
        rw [FP.Core.toNat_of32 (FP.Core.val32_fits _)] at h5
        exact h5
      show b = ev FP.Core.b32 _
      unfold ev
      rw [h4, es32]
      exact sext_ev (b.toInt32.toUInt32.toNat_lt) hb rfl
    · exact ⟨.nan, trivial, by show _ = ev FP.Core.b32 .nan; decide⟩
theorem ev_vb (h2 : so < 2) {d : FP.Core.Datum} (hd : FP.Core.fits (fm so) d) : vb so (ev (fm so) d) := by
  by_cases hn : d = .nan
  · subst hn
    match so, h2 with
    | 0, _ => exact Or.inr (by show ev FP.Core.b64 .nan = _; decide)
    | 1, _ => exact ⟨by show ev FP.Core.b32 .nan = (ev FP.Core.b32 .nan).toInt32.toInt64; decide, Or.inr (by show ev FP.Core.b32 .nan = _; decide)⟩
  · match so, h2, hd with
    | 0, _, hd =>
      refine Or.inl ((n64_iff _).mpr ?_)
      have : (ev (fm 0) d).toUInt64 = FP.Core.of64 d := dv_ev (so := 0) (by decide) hd
      rw [this, FP.Core.val64_of64 hd]; exact hn
    | 1, _, hd =>
      have e := ev32 hd
      refine ⟨?_, Or.inl ((n32_iff _).mpr ?_)⟩
      · show ev FP.Core.b32 d = (ev FP.Core.b32 d).toInt32.toInt64
        have h := enc_lt32 hd
        have e1 : (ev FP.Core.b32 d).toInt32.toInt = if 2 * FP.Core.encode FP.Core.b32 d < 2 ^ 32 then ((FP.Core.encode FP.Core.b32 d : Nat) : Int) else ((FP.Core.encode FP.Core.b32 d : Nat) : Int) - 2 ^ 32 := by
          show (ev FP.Core.b32 d).toInt32.toBitVec.toInt = _
          have h' : (ev FP.Core.b32 d).toInt32.toBitVec.toNat = FP.Core.encode FP.Core.b32 d := (congrArg UInt32.toNat e).trans (FP.Core.toNat_of32 hd)
          rw [BitVec.toInt_eq_toNat_cond, h']; rfl
        apply Int64.toInt_inj.mp
        rw [Int32.toInt_toInt64, e1, toInt_un]
        unfold ev
        rw [es32]
        by_cases c : FP.Core.encode FP.Core.b32 d < 2 ^ 31
        · rw [if_pos c, un_j' (by omega), if_pos (by omega), if_pos (by omega)]
        · rw [if_neg c, un_j' (by omega), if_neg (by omega), if_neg (by omega)]
          omega
      · show FP.Core.val32 (ev FP.Core.b32 d).toInt32.toUInt32 ≠ .nan
        rw [e, FP.Core.val32_of32 hd]; exact hn
/-- the number as one of double -/
def wd (so : Nat) (d : FP.Core.Datum) : FP.Core.Datum := match so with | 0 => d | _ => FP.Core.round FP.Core.b64 d
theorem val_rv (h2 : so < 2) {d : FP.Core.Datum} (hd : FP.Core.fits (fm so) d) : FP.Core.val64 (rv64 so d) = wd so d := by
  match so, h2, hd with
  | 0, _, hd => exact FP.Core.val64_of64 hd
  | 1, _, hd =>
    show FP.Core.val64 (FP.f2d (FP.Core.of32 d)) = FP.Core.round FP.Core.b64 d
    by_cases hn : d = .nan
    · subst hn; decide +kernel
    · have h0 : FP.Core.val32 (FP.Core.of32 d) ≠ .nan := by rw [FP.Core.val32_of32 hd]; exact hn
      rw [FP.f2d_core ((FP.Core.notNaN_iff32 _).mpr h0), FP.Core.val64_f2d, FP.Core.val32_of32 hd]
/-- a float is a double, as it is -/
theorem wide_fin {s : Bool} {c : Nat} {q : Int} (hd : FP.Core.fits FP.Core.b32 (.fin s c q)) : ∃ c' q', FP.Core.round FP.Core.b64 (.fin s c q) = .fin s c' q' ∧ FP.Core.inUnits c' q' FP.Core.b64.qmin = FP.Core.inUnits c q FP.Core.b64.qmin := by
  obtain ⟨h1, h2, h3, -⟩ := hd
  have e1 : FP.Core.b32.qmin = -149 := by decide
  have e2 : FP.Core.b32.qmax = 104 := by decide
  have e3 : FP.Core.b64.qmin = -1074 := by decide
  have e4 : FP.Core.b64.qmax = 971 := by decide
  have e5 : 2 ^ FP.Core.b32.p < 2 ^ FP.Core.b64.p := by decide
  exact FP.Core.round_exact FP.Core.good_b64 s (by omega) (by omega) (by omega)
theorem wd_fits (h2 : so < 2) {d : FP.Core.Datum} (hd : FP.Core.fits (fm so) d) : FP.Core.fits FP.Core.b64 (wd so d) := by
  match so, h2, hd with
  | 0, _, hd => exact hd
  | 1, _, hd => exact FP.Core.round_fits FP.Core.good_b64 d
theorem wd_nan (h2 : so < 2) {d : FP.Core.Datum} : wd so d = .nan ↔ d = .nan := by
  match so, h2 with
  | 0, _ => exact Iff.rfl
  | 1, _ => exact FP.Core.round_nan
theorem wd_inf (h2 : so < 2) {d : FP.Core.Datum} (hd : FP.Core.fits (fm so) d) {s : Bool} : wd so d = .inf s ↔ d = .inf s := by
  match so, h2, hd with
  | 0, _, _ => exact Iff.rfl
  | 1, _, hd =>
    cases d with
    | nan => exact ⟨fun h => (by cases h), fun h => (by cases h)⟩
    | inf t => exact Iff.rfl
    | fin t c q =>
      obtain ⟨c', q', e, -⟩ := wide_fin hd
      show FP.Core.round FP.Core.b64 (.fin t c q) = _ ↔ _
      rw [e]
      exact ⟨fun h => (by cases h), fun h => (by cases h)⟩
/-- sign and size, in units of the least double -/
theorem wd_fin (h2 : so < 2) {s : Bool} {c : Nat} {q : Int} (hd : FP.Core.fits (fm so) (.fin s c q)) : ∃ c' q', wd so (.fin s c q) = .fin s c' q' ∧ FP.Core.inUnits c' q' FP.Core.b64.qmin = FP.Core.inUnits c q FP.Core.b64.qmin ∧ FP.Core.b64.qmin ≤ q := by
  match so, h2, hd with
  | 0, _, hd => exact ⟨c, q, rfl, rfl, hd.2.1⟩
  | 1, _, hd =>
    obtain ⟨c', q', e1, e2⟩ := wide_fin hd
    have h1 : FP.Core.b32.qmin = -149 := by decide
    have h3 : FP.Core.b64.qmin = -1074 := by decide
    have := hd.2.1
    have : (-149 : Int) ≤ q := by rw [← h1]; exact this
    exact ⟨c', q', e1, e2, by omega⟩
theorem n64_rv (h2 : so < 2) {d : FP.Core.Datum} (hd : FP.Core.fits (fm so) d) : n64 (rv64 so d) ↔ d ≠ .nan := by
  rw [n64_iff, val_rv h2 hd]
  exact not_congr (wd_nan h2)
theorem cmpl0 (h2 : so < 2) {d : FP.Core.Datum} (hd : FP.Core.fits (fm so) d) : Op.cmpValue (FP.dcmp (rv64 so d) (rv64 so d)) .l = 0 ↔ d ≠ .nan := by
  constructor
  · intro h hn
    exact cmp_nan (fun z => (n64_rv h2 hd).mp z hn) h
  · exact fun h => cmp_self ((n64_rv h2 hd).mpr h)
theorem rv_nan (h2 : so < 2) : rv64 so .nan = 0x7ff8000000000000 := by
  match so, h2 with
  | 0, _ => show FP.Core.of64 .nan = _; decide
  | 1, _ => show FP.f2d (FP.Core.of32 .nan) = _; decide +kernel
/-- of two numbers in the units of the least double -/
def zu : FP.Core.Datum → Int
  | .nan => 0
  | .inf s => FP.Core.signed s (2 ^ 4000)
  | .fin s c q => FP.Core.signed s (FP.Core.inUnits c q FP.Core.b64.qmin)
theorem order_units {s t : Bool} {c d : Nat} {q r e : Int} (hq : e ≤ q) (hr : e ≤ r) : FP.Core.order (.fin s c q) (.fin t d r) = some (compare (FP.Core.signed s (FP.Core.inUnits c q e)) (FP.Core.signed t (FP.Core.inUnits d r e))) := by
  show some (compare (FP.Core.signed s (FP.Core.inUnits c q (min q r))) (FP.Core.signed t (FP.Core.inUnits d r (min q r)))) = _
  have h1 : ∀ {x : Int} {m : Nat}, min q r ≤ x → e ≤ x → FP.Core.inUnits m x e = FP.Core.inUnits m x (min q r) * 2 ^ (min q r - e).toNat := fun {x m} g1 g2 => by
    unfold FP.Core.inUnits
    rw [Nat.mul_assoc, ← Nat.pow_add]
    congr 2
    omega
  rw [h1 (m := c) (by omega) hq, h1 (m := d) (by omega) hr, FP.Core.signed_mul, FP.Core.signed_mul, FP.Core.compare_mul_pos]
  have := Nat.two_pow_pos (min q r - e).toNat
  omega
/-- how two of a sort stand is how the reference finds them to stand -/
theorem order_wd (h2 : so < 2) {x y : FP.Core.Datum} (hx : FP.Core.fits (fm so) x) (hy : FP.Core.fits (fm so) y) : FP.Core.order (wd so x) (wd so y) = FP.Core.order x y := by
  match so, h2, hx, hy with
  | 0, _, _, _ => rfl
  | 1, h2, hx, hy =>
    cases x with
    | nan => rfl
    | inf s =>
      cases y with
      | nan => rfl
      | inf t => rfl
      | fin t d r =>
        obtain ⟨c', q', e1, e2, e3⟩ := wd_fin h2 hy
        rw [e1]; rfl
    | fin s c q =>
      obtain ⟨c1, q1, e1, e2, e3⟩ := wd_fin h2 hx
      rw [e1]
      cases y with
      | nan => rfl
      | inf t => rfl
      | fin t d r =>
        obtain ⟨d1, r1, g1, g2, g3⟩ := wd_fin h2 hy
        rw [g1]
        have f1 : FP.Core.fits FP.Core.b64 (.fin s c1 q1) := by rw [← e1]; exact wd_fits h2 hx
        have f2 : FP.Core.fits FP.Core.b64 (.fin t d1 r1) := by rw [← g1]; exact wd_fits h2 hy
        rw [order_units f1.2.1 f2.2.1, e2, g2, order_units e3 g3]
theorem dcmp_rv (h2 : so < 2) {x y : FP.Core.Datum} (hx : FP.Core.fits (fm so) x) (hy : FP.Core.fits (fm so) y) : FP.dcmp (rv64 so x) (rv64 so y) = FP.Core.order x y := by
  have : FP.dcmp (rv64 so x) (rv64 so y) = FP.Core.order (FP.Core.val64 (rv64 so x)) (FP.Core.val64 (rv64 so y)) := rfl
  rw [this, val_rv h2 hx, val_rv h2 hy, order_wd h2 hx hy]
theorem zero_fm (so : Nat) (s : Bool) : FP.Core.fits (fm so) (.fin s 0 (fm so).qmin) := FP.Core.zero_fits (fq_good (fq_fm so)) s
theorem rv_zero (h2 : so < 2) : rv64 so (.fin false 0 (fm so).qmin) = 0 := by
  match so, h2 with
  | 0, _ => show FP.Core.of64 (.fin false 0 FP.Core.b64.qmin) = _; decide
  | 1, _ => show FP.f2d (FP.Core.of32 (.fin false 0 FP.Core.b32.qmin)) = _; decide +kernel
theorem order_zero {f : FP.Core.Fmt} {s : Bool} {c : Nat} {q : Int} (hq : f.qmin ≤ q) : FP.Core.order (.fin s c q) (.fin false 0 f.qmin) = some (compare (FP.Core.signed s c) 0) := by
  rw [order_units hq (Int.le_refl _)]
  have e : FP.Core.inUnits 0 f.qmin f.qmin = 0 := Nat.zero_mul _
  have e2 : FP.Core.inUnits c q f.qmin = c * 2 ^ (q - f.qmin).toNat := rfl
  rw [e, FP.Core.signed_zero, e2, FP.Core.signed_mul]
  have h := FP.Core.compare_mul_pos (FP.Core.signed s c) 0 ((2 ^ (q - f.qmin).toNat : Nat) : Int) (by have := Nat.two_pow_pos (q - f.qmin).toNat; omega)
  rw [Int.zero_mul] at h
  rw [h]
/-- whether it is endless -/
theorem endless_rv (h2 : so < 2) {d : FP.Core.Datum} (hd : FP.Core.fits (fm so) d) : g_R_isEndless (rv64 so d) = true ↔ ∃ s, d = .inf s := by
  have key : ∀ t : Bool, FP.dcmp (rv64 so d) (FP.Core.of64 (.inf t)) = FP.Core.order (wd so d) (.inf t) := fun t => by
    have : FP.dcmp (rv64 so d) (FP.Core.of64 (.inf t)) = FP.Core.order (FP.Core.val64 (rv64 so d)) (FP.Core.val64 (FP.Core.of64 (.inf t))) := rfl
    rw [this, val_rv h2 hd, FP.Core.val64_of64 (d := .inf t) (show FP.Core.fits FP.Core.b64 (.inf t) from trivial)]
  have e1 : (0x7ff0000000000000 : UInt64) = FP.Core.of64 (.inf false) := by decide
  have e2 : (0xfff0000000000000 : UInt64) = FP.Core.of64 (.inf true) := by decide
  unfold g_R_isEndless g_R_isEndless_16
  rw [e1, e2, key, key]
  cases d with
  | nan =>
    rw [(wd_nan h2).mpr rfl, show FP.Core.order .nan (.inf false) = none from rfl, show FP.Core.order .nan (.inf true) = none from rfl]
    exact ⟨fun h => absurd h (by decide), fun ⟨s, h⟩ => by cases h⟩
  | inf s =>
    rw [(wd_inf h2 hd).mpr rfl]
    cases s <;> exact ⟨fun _ => ⟨_, rfl⟩, fun _ => by decide⟩
  | fin s c q =>
    obtain ⟨c', q', e, -, -⟩ := wd_fin h2 hd
    rw [e, show FP.Core.order (.fin s c' q') (.inf false) = some .lt from rfl, show FP.Core.order (.fin s c' q') (.inf true) = some .gt from rfl]
    exact ⟨fun h => absurd h (by decide), fun ⟨s, h⟩ => by cases h⟩
theorem zero_rv (h2 : so < 2) {d : FP.Core.Datum} (hd : FP.Core.fits (fm so) d) : Op.cmpValue (FP.dcmp (rv64 so d) 0) .l = 0 ↔ ∃ s q, d = .fin s 0 q := by
  rw [← rv_zero h2, dcmp_rv h2 hd (zero_fm so false)]
  cases d with
  | nan =>
    rw [show FP.Core.order .nan (.fin false 0 (fm so).qmin) = none from rfl]
    exact ⟨fun h => absurd h (by decide), fun ⟨s, q, h⟩ => by cases h⟩
  | inf s =>
    cases s with
    | false =>
      rw [show FP.Core.order (.inf false) (.fin false 0 (fm so).qmin) = some .gt from rfl]
      exact ⟨fun h => absurd h (by decide), fun ⟨s, q, h⟩ => by cases h⟩
    | true =>
      rw [show FP.Core.order (.inf true) (.fin false 0 (fm so).qmin) = some .lt from rfl]
      exact ⟨fun h => absurd h (by decide), fun ⟨s, q, h⟩ => by cases h⟩
  | fin s c q =>
    rw [order_zero hd.2.1]
    by_cases hc : c = 0
    · subst hc
      rw [FP.Core.signed_zero]
      exact ⟨fun _ => ⟨s, q, rfl⟩, fun _ => by decide⟩
    · refine ⟨fun h => ?_, fun ⟨s', q', h⟩ => ?_⟩
      · exfalso
        have : FP.Core.signed s c ≠ 0 := fun z => hc ((FP.Core.signed_eq_zero s c).mp z)
        rcases Int.lt_or_gt_of_ne this with z | z
        · rw [show compare (FP.Core.signed s c) 0 = .lt from Int.compare_eq_lt.mpr z] at h
          revert h; decide
        · rw [show compare (FP.Core.signed s c) 0 = .gt from Int.compare_eq_gt.mpr z] at h
          revert h; decide
      · injection h with _ h _; exact absurd h hc
end VALS
