/-! poles: both sides -/
section JUDGE
variable {G : GT} {E B bx m so : Nat} {ad : Nat → Nat} {S : ST} {A : AT} {C : CT} {T : MT}
theorem absd_ratio (f : FP.Core.Fmt) (s : Bool) (M D : Nat) (e : Int) : absd (FP.Core.roundRatio f s M D e) = FP.Core.roundRatio f false M D e := by
  unfold FP.Core.roundRatio
  split
  · rfl
  · unfold FP.Core.roundAt FP.Core.settle FP.Core.bound
    split <;> split <;> rfl
theorem absd_quo (f : FP.Core.Fmt) (x : FP.Core.Datum) (d : Nat) (r : Int) : FP.Core.quotient f (absd x) (.fin false d r) = absd (FP.Core.quotient f x (.fin false d r)) := by
  cases x with
  | nan => rfl
  | inf s => rfl
  | fin s c q =>
    show (if d = 0 then (if c = 0 then FP.Core.Datum.nan else .inf (false != false)) else FP.Core.roundRatio f (false != false) c d (q - r)) = absd (if d = 0 then (if c = 0 then FP.Core.Datum.nan else .inf (s != false)) else FP.Core.roundRatio f (s != false) c d (q - r))
    by_cases h : d = 0
    · rw [if_pos h, if_pos h]
      split <;> rfl
    · rw [if_neg h, if_neg h, absd_ratio]
      rfl
theorem fn_abs {d : FP.Core.Datum} {P : Int} (h : FN d P) : FN (absd d) (P.natAbs : Int) := by
  obtain ⟨h1, ⟨s, c, q, rfl⟩, h3⟩ := h
  refine ⟨absd_fits h1, ⟨_, _, _, rfl⟩, ?_⟩
  rw [← h3, zval_fin]
  show FP.Core.zval FP.Core.b64 (.fin false c q) = _
  rw [zval_fin]
  generalize c * 2 ^ (q + 1074).toNat = z
  cases s
  · show (z : Int) = (((z : Nat) : Int).natAbs : Int)
    omega
  · show (z : Int) = ((-(z : Int)).natAbs : Int)
    omega
theorem fn_fin {d : FP.Core.Datum} (h1 : FP.Core.fits FP.Core.b64 d) (h2 : isFin d = true) : FN d (FP.Core.zval FP.Core.b64 d) := by
  cases d with
  | nan => cases h2
  | inf s => cases h2
  | fin s c q => exact ⟨h1, ⟨_, _, _, rfl⟩, rfl⟩
/-- the verdict on a pole's or a pair's meaning -/
def pI (U X Y : Int) : Int32 := if U < Y then 0 else if Y < -U then 0 else if U + Y < X then 0 else if X = U + Y ∨ Y = U ∨ Y = -U then 2 else 1
def PR (U : Int) (a b : FP.Core.Datum) : Int32 := if isFin a = true then if isFin b = true then pI U ((FP.Core.zval FP.Core.b64 a).natAbs : Int) (FP.Core.zval FP.Core.b64 b) else 0 else 0
/-! the reference -/
theorem size_dbl {v : UInt64} (hn : FP.Core.val64 v ≠ .nan) (z : Nat) : g_R_sizeOf z (0 : Int32) v = some (FP.Core.of64 (absd (FP.Core.val64 v))) := by
  have hf := FP.Core.val64_fits v
  have e := size_ref (so := 0) (by decide) (ev_vb (so := 0) (by decide) hf) z
  have e1 : dv 0 (ev (fm 0) (FP.Core.val64 v)) = v := (dv_ev (so := 0) (by decide) hf).trans (FP.Core.of64_val64 hn)
  have e2 : dv 0 (szB 0 (ev (fm 0) (FP.Core.val64 v))) = FP.Core.of64 (absd (FP.Core.val64 v)) := by
    unfold szB
    rw [if_pos (by decide), dt_ev (so := 0) hf, dv_ev (so := 0) (by decide) (absd_fits hf)]
    rfl
  rw [e1, e2] at e
  exact e
theorem unit_val (h3 : so < 3) : ∃ d r, FP.Core.val64 (unitB so) = .fin false d r := by
  unfold unitB
  split
  · exact ⟨2 ^ 52, -38, by decide +kernel⟩
  · exact ⟨2 ^ 52, -52, by decide +kernel⟩
theorem poles112_ref (h3 : so < 3) {x y : Int64} (hx : vb so x) (hy : vb so y) {u : Nat} (hu : u = 2 ^ 1021) (T : MT) : h_R_poles_112 (unitB so) (dv so x) (dv so y) T = some (PR ((2 ^ 53 * u : Nat) : Int) (mnD so false x) (mnD so false y)) := by
  unfold h_R_poles_112 PR
  rw [finite_ref, finite_ref, fin_dv h3 hx, fin_dv h3 hy]
  by_cases f1 : isFin (mnD so false x) = true
  · by_cases f2 : isFin (mnD so false y) = true
    · have nx : mnD so false x ≠ .nan := fun z => by rw [z] at f1; cases f1
      have ny : mnD so false y ≠ .nan := fun z => by rw [z] at f2; cases f2
      have vx : FP.Core.val64 (dv so x) ≠ .nan := fun z => by
        have := fin_dv h3 hx
        rw [z, f1] at this; cases this
      have fx := fn_fin (mnD_fits so false x) f1
      have fy := fn_fin (mnD_fits so false y) f2
      have y3 : FP.ddiv (dv so y) (unitB so) = FP.Core.of64 (mnD so false y) := unit_div h3 hy ny
      have wy : FP.Core.val64 (FP.ddiv (dv so y) (unitB so)) = mnD so false y := by rw [y3, FP.Core.val64_of64 (mnD_fits so false y)]
      have wx : FP.Core.val64 (FP.ddiv (FP.Core.of64 (absd (FP.Core.val64 (dv so x)))) (unitB so)) = absd (mnD so false x) := by
        obtain ⟨d, r, e⟩ := unit_val h3
        have e1 : FP.Core.val64 (FP.ddiv (FP.Core.of64 (absd (FP.Core.val64 (dv so x)))) (unitB so)) = FP.Core.quotient FP.Core.b64 (FP.Core.val64 (FP.Core.of64 (absd (FP.Core.val64 (dv so x))))) (FP.Core.val64 (unitB so)) := FP.Core.val64_ddiv _ _
        have e2 : FP.Core.val64 (FP.ddiv (dv so x) (unitB so)) = FP.Core.quotient FP.Core.b64 (FP.Core.val64 (dv so x)) (FP.Core.val64 (unitB so)) := FP.Core.val64_ddiv _ _
        rw [e1, FP.Core.val64_of64 (absd_fits (FP.Core.val64_fits _)), e, absd_quo, ← e, ← e2, unit_div h3 hx nx, FP.Core.val64_of64 (mnD_fits so false x)]
      have gx := fn_abs fx
      rw [← wx] at gx
      have gy := fy
      rw [← wy] at gy
      rw [if_pos f1, if_pos f2, if_pos f1, if_pos f2, size_dbl vx, obd_some]
      rw [wy] at gy
      generalize FP.Core.zval FP.Core.b64 (mnD so false y) = Y at *
      generalize ((FP.Core.zval FP.Core.b64 (mnD so false x)).natAbs : Int) = X at *
      rw [← wy] at gy
      generalize FP.ddiv (FP.Core.of64 (absd (FP.Core.val64 (dv so x)))) (unitB so) = p at *
      generalize FP.ddiv (dv so y) (unitB so) = q at *
      rw [jnD_fn gx, obd_some, jnD_fn gy, obd_some, dcmp_fn gy (fn_one hu), dcmp_fn gy (fn_mone hu), dcmp_fn gy (fn_one hu), dcmp_fn gy (fn_mone hu)]
      generalize hU : ((2 ^ 53 * u : Nat) : Int) = U at *
      have U0 : 0 < U := by
        rw [← hU, hu]
        exact Int.natCast_pos.mpr (Nat.mul_pos (Nat.two_pow_pos _) (Nat.two_pow_pos _))
      unfold pI
      rcases sgI_cases (Y - U) with ⟨h, e⟩ | ⟨h, e⟩ | ⟨h, e⟩
      · rw [e, if_pos (by decide), if_pos (by omega)]
      all_goals
        rw [e, if_neg (by decide), if_neg (show ¬ U < Y by omega)]
        rcases sgI_cases (Y - -U) with ⟨h', e'⟩ | ⟨h', e'⟩ | ⟨h', e'⟩
        all_goals first
          | (rw [e', if_neg (by decide), if_pos (show Y < -U by omega)]; done)
          | skip
        all_goals
          rw [e', if_pos (by decide), if_neg (show ¬ Y < -U by omega), against_of gx gy hu (by rw [hU]; omega) (by rw [hU]; omega), obd_some, hU]
          rcases sgI_cases (X - (U + Y)) with ⟨h2, e2⟩ | ⟨h2, e2⟩ | ⟨h2, e2⟩
          · rw [e2, if_neg (by decide), if_pos (show U + Y < X by omega)]
          · rw [e2, if_pos (by decide), if_pos (by decide), if_neg (show ¬ U + Y < X by omega), if_pos (Or.inl (by omega))]
          · rw [e2, if_pos (by decide), if_neg (by decide), if_neg (show ¬ U + Y < X by omega)]
            first
              | (rw [if_pos (by decide), if_pos (Or.inr (Or.inl (by omega)))]; done)
              | (rw [if_neg (by decide), if_pos (by decide), if_pos (Or.inr (Or.inr (by omega)))]; done)
              | (rw [if_neg (by decide), if_neg (by decide), if_neg (show ¬ (X = U + Y ∨ Y = U ∨ Y = -U) by omega)]; done)
    · rw [if_pos f1, if_neg f2, if_pos f1, if_neg f2]
  · rw [if_neg f1, if_neg f1]
/-! the class -/
theorem cmp_ev (hb : RCb S A C bx) {x y : FP.Core.Datum} {P Q : Int} (hx : FN x P) (hy : FN y Q) : c_Real_compared (A 5 0) (ev FP.Core.b64 x) (ev FP.Core.b64 y) C = some (sgI (P - Q)) := by
  have h0 := rp_of hb (so := 0) (by decide)
  have ho := FP.Core.order_zval FP.Core.good_b64 hx.1 hy.1 (fn_num hx) (fn_num hy)
  have e := compared_of (f := FP.Core.b64) (Or.inl rfl) h0 hx.1 hy.1 ho
  rw [e, cmp_sg, hx.2.2, hy.2.2]
theorem fn_dOne {u : Nat} (hu : u = 2 ^ 1021) : FN dOne ((2 ^ 53 * u : Nat) : Int) := ⟨one_fits, ⟨_, _, _, rfl⟩, one_z hu⟩
theorem fn_dHalf {u : Nat} (hu : u = 2 ^ 1021) : FN dHalf ((2 ^ 52 * u : Nat) : Int) := ⟨half_fits, ⟨_, _, _, rfl⟩, half_z hu⟩
theorem fn_dTwo {u : Nat} (hu : u = 2 ^ 1021) : FN dTwo ((2 ^ 54 * u : Nat) : Int) := ⟨two_fits, ⟨_, _, _, rfl⟩, two_z hu⟩
theorem ev_one : (4607182418800017408 : Int64) = ev FP.Core.b64 dOne := by decide +kernel
theorem ev_half : (4602678819172646912 : Int64) = ev FP.Core.b64 dHalf := by decide +kernel
theorem ev_two : (4611686018427387904 : Int64) = ev FP.Core.b64 dTwo := by decide +kernel
theorem c_against (hb : RCb S A C bx) {x y : FP.Core.Datum} {X Y : Int} (hx : FN x X) (hy : FN y Y) {u : Nat} (hu : u = 2 ^ 1021) (h0 : 0 ≤ X) (h1 : -((2 ^ 53 * u : Nat) : Int) ≤ Y) (h2 : Y ≤ ((2 ^ 53 * u : Nat) : Int)) :
    c_B_comparedToOnePlus bx (ev FP.Core.b64 x) (ev FP.Core.b64 y) C = some (sgI (((2 ^ 53 * u : Nat) : Int) + Y - X)) := by
  have hp := rp_of hb (so := 0) (by decide)
  have t0 := cob_of (ci := 5) hp.1
  have hq : Fq FP.Core.b64 := Or.inl rfl
  have eU : ((2 ^ 54 * u : Nat) : Int) = 2 * ((2 ^ 53 * u : Nat) : Int) := by omega
  have eH : ((2 ^ 53 * u : Nat) : Int) = 2 * ((2 ^ 52 * u : Nat) : Int) := by omega
  have nOne : c_Real_negative (A 5 0) (ev FP.Core.b64 dOne) C = some (ev FP.Core.b64 (FP.Core.negate dOne)) := negative_of hq hp one_fits
  have nHalf : c_Real_negative (A 5 0) (ev FP.Core.b64 dHalf) C = some (ev FP.Core.b64 (FP.Core.negate dHalf)) := negative_of hq hp half_fits
  have mo := fn_neg (fn_dOne hu)
  have mh := fn_neg (fn_dHalf hu)
  unfold c_B_comparedToOnePlus
  rw [ev_one, ev_half, ev_two]
  simp only [rb_doubles hb, obd_some, t0, jgd_true, nOne, nHalf, cmp_ev hb hx (fn_dTwo hu), cmp_ev hb hx (fn_dHalf hu), cmp_ev hb hy mh]
  rcases sgI_cases (X - ((2 ^ 54 * u : Nat) : Int)) with ⟨h, e⟩ | h
  · rw [e, if_neg (by decide)]
    unfold sgI
    rw [if_neg (by omega), if_neg (by omega)]
  · have hX : X ≤ ((2 ^ 54 * u : Nat) : Int) := by omega
    have e0 : sgI (X - ((2 ^ 54 * u : Nat) : Int)) ≤ 0 := by
      rcases h with ⟨-, e⟩ | ⟨-, e⟩ <;> rw [e] <;> decide
    rw [if_pos e0]
    by_cases hh : X < ((2 ^ 52 * u : Nat) : Int)
    · have e1 : sgI (X - ((2 ^ 52 * u : Nat) : Int)) < 0 := by
        unfold sgI
        rw [if_neg (by omega), if_neg (by omega)]
        decide
      rw [if_pos e1]
      by_cases hY : Y ≤ -((2 ^ 52 * u : Nat) : Int)
      · have e2 : sgI (Y - -((2 ^ 52 * u : Nat) : Int)) ≤ 0 := by
          unfold sgI
          rw [if_neg (by omega)]
          split <;> decide
        rw [if_pos e2, plus_of hq hp hy.1 one_fits, obd_some]
        have s : FN (FP.Core.round FP.Core.b64 (FP.Core.exactSum y dOne)) (((2 ^ 53 * u : Nat) : Int) + Y) := by
          obtain ⟨f1, ⟨t, d, r, rfl⟩, f3⟩ := hy
          rw [FP.Core.exactSum_comm]
          have z := plus_exact f1 hu (by rw [f3]; omega) (by rw [f3]; exact hY)
          rw [f3] at z
          rw [← z]
          exact fin_of (FP.Core.round_fits FP.Core.good_b64 _) (sum_num ⟨_, _, _, rfl⟩ ⟨_, _, _, rfl⟩) hu (by rw [z]; omega) (by rw [z]; omega)
        rw [cmp_ev hb s hx, obd_some]
      · have e2 : ¬ sgI (Y - -((2 ^ 52 * u : Nat) : Int)) ≤ 0 := by
          unfold sgI
          rw [if_pos (by omega)]
          decide
        rw [if_neg e2]
        unfold sgI
        rw [if_pos (by omega)]
    · have e1 : ¬ sgI (X - ((2 ^ 52 * u : Nat) : Int)) < 0 := by
        rcases sgI_cases (X - ((2 ^ 52 * u : Nat) : Int)) with ⟨-, e⟩ | ⟨-, e⟩ | ⟨q, e⟩
        · rw [e]; decide
        · rw [e]; decide
        · omega
      rw [if_neg e1, plus_of hq hp hx.1 mo.1, obd_some]
      have s : FN (FP.Core.round FP.Core.b64 (FP.Core.exactSum x (FP.Core.negate dOne))) (X + -((2 ^ 53 * u : Nat) : Int)) := by
        obtain ⟨f1, ⟨t, d, r, e⟩, f3⟩ := hx
        subst e
        obtain ⟨V, v1, v2, v3⟩ := half_sub f1 hu (by rw [f3]; omega) (by rw [f3]; omega)
        refine fn_exact ⟨f1, ⟨_, _, _, rfl⟩, f3⟩ mo (V := V) ⟨v1, v2, ?_⟩ hu (by omega) (by omega)
        rw [v3, f3]
        omega
      rw [cmp_ev hb hy s, obd_some]
      congr 2
      omega
/-- less than nothing, nothing, more -/
theorem judged_sg (z : Int) : g_B_judged (sgI z) = if 0 < z then 1 else if z = 0 then 2 else 0 := by
  rcases sgI_cases z with ⟨h, e⟩ | ⟨h, e⟩ | ⟨h, e⟩
  · rw [e, if_pos h]; decide
  · rw [e, if_neg (by omega), if_pos h]; decide
  · rw [e, if_neg (by omega), if_neg (by omega)]; decide
theorem jpair_of (hb : RCb S A C bx) {x y : FP.Core.Datum} (hx : FP.Core.fits FP.Core.b64 x) (hy : FP.Core.fits FP.Core.b64 y) {u : Nat} (hu : u = 2 ^ 1021) : c_B_judgedPair bx (ev FP.Core.b64 x) (ev FP.Core.b64 y) C = some (PR ((2 ^ 53 * u : Nat) : Int) x y) := by
  have hp := rp_of hb (so := 0) (by decide)
  have t0 := cob_of (ci := 5) hp.1
  have hq : Fq FP.Core.b64 := Or.inl rfl
  have ho : cob C bx 0 = true := cob_of (rb_tag hb)
  have fx : c_Real_isFinite (A 5 0) (ev FP.Core.b64 x) C = some (isFin x) := finite_of hq hp hx
  have fy : c_Real_isFinite (A 5 0) (ev FP.Core.b64 y) C = some (isFin y) := finite_of hq hp hy
  have sx : c_Real_sizeOf (A 5 0) (ev FP.Core.b64 x) C = some (ev FP.Core.b64 (absd x)) := size_ev hq hp hx
  have sy : c_Real_sizeOf (A 5 0) (ev FP.Core.b64 y) C = some (ev FP.Core.b64 (absd y)) := size_ev hq hp hy
  unfold c_B_judgedPair PR
  rw [ev_one]
  simp only [rb_doubles hb, obd_some, t0, jgd_true, fx, fy, sx, sy, ho]
  by_cases f1 : isFin x = true
  · by_cases f2 : isFin y = true
    · have nx := fn_fin hx f1
      have ny := fn_fin hy f2
      have ax := fn_abs nx
      have ay := fn_abs ny
      rw [if_pos f1, if_pos f2, if_pos f1, if_pos f2, cmp_ev hb (fn_dOne hu) ay, obd_some]
      generalize FP.Core.zval FP.Core.b64 y = Y at *
      have X0 : 0 ≤ ((FP.Core.zval FP.Core.b64 x).natAbs : Int) := Int.natCast_nonneg _
      generalize ((FP.Core.zval FP.Core.b64 x).natAbs : Int) = X at *
      have U0 : 0 < ((2 ^ 53 * u : Nat) : Int) := by
        rw [hu]
        exact Int.natCast_pos.mpr (Nat.mul_pos (Nat.two_pow_pos _) (Nat.two_pow_pos _))
      have ca := fun h1 h2 => c_against hb ax ny hu X0 h1 h2
      generalize ((2 ^ 53 * u : Nat) : Int) = U at *
      unfold pI
      by_cases hY : (Y.natAbs : Int) ≤ U
      · have e0 : (0 : Int32) ≤ sgI (U - (Y.natAbs : Int)) := by
          rcases sgI_cases (U - (Y.natAbs : Int)) with ⟨-, e⟩ | ⟨-, e⟩ | ⟨q, e⟩
          · rw [e]; decide
          · rw [e]; decide
          · omega
        rw [if_pos e0, ca (by omega) (by omega), obd_some, if_neg (show ¬ U < Y by omega), if_neg (show ¬ Y < -U by omega)]
        unfold c_B_judgedPair_80
        rw [judged_sg, judged_sg]
        rcases sgI_cases (U - (Y.natAbs : Int)) with ⟨h1, e1⟩ | ⟨h1, e1⟩ | ⟨h1, e1⟩
        · rcases sgI_cases (U + Y - X) with ⟨h2, e2⟩ | ⟨h2, e2⟩ | ⟨h2, e2⟩
          · rw [e1, e2, if_pos (by decide), if_pos h1, if_neg (by omega), if_neg (by omega)]
          · rw [e1, e2, if_neg (by decide), if_neg (by omega), if_pos h2, if_neg (by omega), if_pos (by omega)]
          · rw [e1, e2, if_neg (by decide), if_neg (by omega), if_neg (by omega), if_pos (by omega)]
        · rcases sgI_cases (U + Y - X) with ⟨h2, e2⟩ | ⟨h2, e2⟩ | ⟨h2, e2⟩
          · rw [e1, e2, if_pos (by decide), if_neg (by omega), if_pos h1, if_neg (by omega), if_pos (by omega)]
          · rw [e1, e2, if_pos (by decide), if_neg (by omega), if_pos h1, if_neg (by omega), if_pos (by omega)]
          · rw [e1, e2, if_neg (by decide), if_neg (by omega), if_neg (by omega), if_pos (by omega)]
        · omega
      · have e0 : ¬ (0 : Int32) ≤ sgI (U - (Y.natAbs : Int)) := by
          rcases sgI_cases (U - (Y.natAbs : Int)) with ⟨q, e⟩ | ⟨q, e⟩ | ⟨q, e⟩
          · omega
          · omega
          · rw [e]; decide
        rw [if_neg e0]
        by_cases h1 : U < Y
        · rw [if_pos h1]
        · rw [if_neg h1, if_pos (by omega)]
    · rw [if_pos f1, if_neg f2, if_pos f1, if_neg f2]
  · rw [if_neg f1, if_neg f1]
theorem jpole_of (hb : RCb S A C bx) {x z : FP.Core.Datum} (hx : FP.Core.fits FP.Core.b64 x) (hz : FN z 0) {u : Nat} (hu : u = 2 ^ 1021) : c_B_judgedPole bx (ev FP.Core.b64 x) C = some (PR ((2 ^ 53 * u : Nat) : Int) x z) := by
  have hp := rp_of hb (so := 0) (by decide)
  have t0 := cob_of (ci := 5) hp.1
  have hq : Fq FP.Core.b64 := Or.inl rfl
  have fx : c_Real_isFinite (A 5 0) (ev FP.Core.b64 x) C = some (isFin x) := finite_of hq hp hx
  have sx : c_Real_sizeOf (A 5 0) (ev FP.Core.b64 x) C = some (ev FP.Core.b64 (absd x)) := size_ev hq hp hx
  have f2 : isFin z = true := by
    obtain ⟨-, ⟨s, c, q, rfl⟩, -⟩ := hz
    rfl
  unfold c_B_judgedPole PR
  rw [ev_one]
  simp only [rb_doubles hb, obd_some, t0, jgd_true, fx, sx]
  by_cases f1 : isFin x = true
  · have nx := fn_fin hx f1
    have ax := fn_abs nx
    rw [if_pos f1, if_pos f1, if_pos f2, cmp_ev hb (fn_dOne hu) ax, obd_some, judged_sg, hz.2.2]
    generalize ((FP.Core.zval FP.Core.b64 x).natAbs : Int) = X at *
    have U0 : 0 < ((2 ^ 53 * u : Nat) : Int) := by
      rw [hu]
      exact Int.natCast_pos.mpr (Nat.mul_pos (Nat.two_pow_pos _) (Nat.two_pow_pos _))
    generalize ((2 ^ 53 * u : Nat) : Int) = U at *
    unfold pI
    rw [if_neg (show ¬ U < 0 by omega), if_neg (show ¬ (0 : Int) < -U by omega)]
    rcases Int.lt_trichotomy (U - X) 0 with h | h | h
    · rw [if_neg (by omega), if_neg (by omega), if_pos (by omega)]
    · rw [if_neg (by omega), if_pos h, if_neg (by omega), if_pos (by omega)]
    · rw [if_pos h, if_neg (by omega), if_neg (by omega)]
  · rw [if_neg f1, if_neg f1]
theorem mn_zero (h3 : so < 3) : FN (mnD so false 0) 0 := by
  by_cases h2 : so < 2
  · have e := dv_val h2 (vb_zero so)
    rw [dv_zero] at e
    rw [← e]
    exact fn_zero
  · have : so = 2 := by omega
    subst this
    have e : mnD 2 false 0 = .fin false 0 (-1074) := by decide +kernel
    rw [e]
    exact ⟨zero_fits, ⟨_, _, _, rfl⟩, rfl⟩
end JUDGE
