/-! how two values stand; sizes -/
section CMP
variable {S : ST} {A : AT} {C : CT} {T : MT} {bx a so s : Nat}
def cmpI (o : Ordering) : Int32 := match o with | .lt => -1 | .eq => 0 | .gt => 1
theorem long_compare {x y : Int64} : g_JLong_compare x y = cmpI (compare x.toInt y.toInt) := by
  unfold g_JLong_compare
  by_cases h1 : x = y
  · subst h1
    rw [if_pos (Int64.le_refl _), if_pos rfl, show compare x.toInt x.toInt = .eq from Int.compare_eq_eq.mpr rfl]; rfl
  · have h1' : x.toInt ≠ y.toInt := fun z => h1 (Int64.toInt_inj.mp z)
    by_cases h2 : y ≤ x
    · rw [if_pos h2, if_neg h1]
      rw [Int64.le_iff_toInt_le] at h2
      rw [show compare x.toInt y.toInt = .gt from Int.compare_eq_gt.mpr (by omega)]; rfl
    · rw [if_neg h2]
      rw [Int64.le_iff_toInt_le] at h2
      rw [show compare x.toInt y.toInt = .lt from Int.compare_eq_lt.mpr (by omega)]; rfl
/-- sign and size together tell how two numbers stand -/
theorem order_sg {f : FP.Core.Fmt} (hf : Fq f) {s t : Bool} {m n : Nat} (hm : m ≤ (f.exps - 1) * f.tails) (hn : n ≤ (f.exps - 1) * f.tails) : FP.Core.order (FP.Core.decode f (s.toNat * es f + m)) (FP.Core.decode f (t.toNat * es f + n)) = some (compare (FP.Core.signed s m) (FP.Core.signed t n)) := by
  obtain ⟨tk, k1, k2, k3, k4, k5, k6⟩ := fq_t hf
  have hm' : m < es f := by omega
  have hn' : n < es f := by omega
  have hd : ∀ {u : Bool} {v : Nat}, v ≤ (f.exps - 1) * f.tails → v < es f → FP.Core.decode f (u.toNat * es f + v) ≠ .nan := fun h1 h2 => by
    rw [dec_sg hf h2]
    split
    · exact fun z => by cases z
    · rw [if_neg (by omega)]; exact fun z => by cases z
  have hl : ∀ {u : Bool} {v : Nat}, v < es f → u.toNat * es f + v < 2 * FP.Core.half f := fun {u v} h => by
    show u.toNat * es f + v < 2 * es f
    cases u
    · show 0 * es f + v < 2 * es f; omega
    · show 1 * es f + v < 2 * es f; omega
  have hk : ∀ {u : Bool} {v : Nat}, v < es f → FP.Core.key f (u.toNat * es f + v) = FP.Core.signed u v := fun {u v} h => by
    unfold FP.Core.key FP.Core.mag
    show FP.Core.signed (decide (es f ≤ u.toNat * es f + v)) ((u.toNat * es f + v) % es f) = _
    have e1 : (u.toNat * es f + v) % es f = v := by rw [Nat.mul_comm, Nat.mul_add_mod, Nat.mod_eq_of_lt h]
    rw [e1]
    congr 1
    cases u
    · exact decide_eq_false (by show ¬ es f ≤ 0 * es f + v; omega)
    · exact decide_eq_true (by show es f ≤ 1 * es f + v; omega)
  have := FP.Core.cmp_key (fq_good hf) (hl (u := s) hm') (hl (u := t) hn') (hd hm hm') (hd hn hn')
  rw [hk hm', hk hn'] at this
  exact this
theorem sg_toInt {f : FP.Core.Fmt} (hf : Fq f) {m : Nat} (hm : m < es f) : (sg f false m).toInt = m := by
  have := (fq_n hf).2.2.2.2
  unfold sg
  rw [if_neg (by decide), j64_toInt (by omega)]
theorem sg_num {f : FP.Core.Fmt} {s : Bool} (hf : Fq f) {m : Nat} (hm : m < es f) : FP.Core.decode f (s.toNat * es f + m) ≠ .nan ↔ m ≤ (f.exps - 1) * f.tails := by
  rw [dec_sg hf hm]
  by_cases h : m = (f.exps - 1) * f.tails
  · rw [if_pos h]; exact ⟨fun _ => by omega, fun _ z => by cases z⟩
  · rw [if_neg h]
    by_cases h2 : (f.exps - 1) * f.tails < m
    · rw [if_pos h2]; exact ⟨fun z => absurd rfl z, fun z => by omega⟩
    · rw [if_neg h2]; exact ⟨fun _ => by omega, fun _ z => by cases z⟩
theorem compared_of {f : FP.Core.Fmt} (hf : Fq f) (hp : RP f C a) {x y : FP.Core.Datum} (hx : FP.Core.fits f x) (hy : FP.Core.fits f y) {o : Ordering} (ho : FP.Core.order x y = some o) : c_Real_compared a (ev f x) (ev f y) C = some (cmpI o) := by
  obtain ⟨s, m, hm, e1, e2⟩ := sg_cases hf hx
  obtain ⟨t, n, hn, e3, e4⟩ := sg_cases hf hy
  have nx : x ≠ .nan := fun z => by rw [z] at ho; cases y <;> cases ho
  have ny : y ≠ .nan := fun z => by rw [z] at ho; cases x <;> cases ho
  have hm' : m ≤ (f.exps - 1) * f.tails := by rw [e2] at nx; exact (sg_num hf hm).mp nx
  have hn' : n ≤ (f.exps - 1) * f.tails := by rw [e4] at ny; exact (sg_num hf hn).mp ny
  rw [e2, e4, order_sg hf hm' hn'] at ho
  have ho := Option.some.inj ho
  have hb := (fq_n hf).2.2.2.2
  have jn : ∀ {v : Nat}, v < es f → (-(j64 v)).toInt = -(v : Int) := fun hv => by
    rw [Int64.toInt_neg, j64_toInt (by omega)]
    exact Int.bmod_eq_of_le (by omega) (by omega)
  have key : ∀ {u : Bool} {v : Nat}, v < es f → (if u = true then -(j64 v) else sg f u v).toInt = FP.Core.signed u v := fun {u v} hv => by
    cases u with
    | false => rw [if_neg (by decide), sg_toInt hf hv]; rfl
    | true => rw [if_pos rfl, jn hv]; rfl
  have go : c_Real_compared a (sg f s m) (sg f t n) C = some (g_JLong_compare (if s = true then -(j64 m) else sg f s m) (if t = true then -(j64 n) else sg f t n)) := by
    unfold c_Real_compared c_Real_compared_16 c_Real_compared_32
    cases s with
    | false =>
      rw [if_pos ((sg_nonneg hf hm).mpr rfl)]
      cases t with
      | false => rw [if_pos ((sg_nonneg hf hn).mpr rfl)]; rfl
      | true => rw [if_neg (fun z => absurd ((sg_nonneg hf hn).mp z) (by decide)), cob_of (ci := 5) hp.1, jgd_true, sg_size hf hp hn, obd_some]; rfl
    | true =>
      rw [if_neg (fun z => absurd ((sg_nonneg hf hm).mp z) (by decide)), cob_of (ci := 5) hp.1, jgd_true, sg_size hf hp hm, obd_some]
      cases t with
      | false => rw [if_pos ((sg_nonneg hf hn).mpr rfl)]; rfl
      | true => rw [if_neg (fun z => absurd ((sg_nonneg hf hn).mp z) (by decide)), jgd_true, sg_size hf hp hn, obd_some]; rfl
  rw [e1, e3, go, long_compare, key hm, key hn, ho]
theorem isNum_of {f : FP.Core.Fmt} (hf : Fq f) (hp : RP f C a) {x : FP.Core.Datum} (hx : FP.Core.fits f x) : c_Real_isNumber a (ev f x) C = some (decide (x ≠ .nan)) := by
  obtain ⟨s, m, hm, e1, e2⟩ := sg_cases hf hx
  rw [e1, isNumber_of hf hp hm]
  congr 1
  rw [e2]
  exact decide_eq_decide.mpr (sg_num hf hm).symm
/-- how two of a sort stand -/
def odB (so : Nat) (x y : Int64) : Option Ordering := if so < 2 then FP.Core.order (dt so x) (dt so y) else some (compare x.toInt y.toInt)
def nuB (so : Nat) (x : Int64) : Bool := if so < 2 then decide (dt so x ≠ .nan) else true
theorem order_none {x y : FP.Core.Datum} : FP.Core.order x y = none ↔ x = .nan ∨ y = .nan := by
  cases x <;> cases y <;> first | exact ⟨fun _ => Or.inl rfl, fun _ => rfl⟩ | exact ⟨fun _ => Or.inr rfl, fun _ => rfl⟩ | exact ⟨fun h => (by cases h), fun h => (by rcases h with h | h <;> cases h)⟩
theorem nums_num (hb : RCb S A C bx) (h3 : so < 3) {x : Int64} (hx : so < 2 → vb so x) : (if cob C (A 5 so) 5 = true then c_Real_isNumber (A 5 so) x C else jgd (cob C (A 5 so) 8) (some (g_Shorts_isNumber (A 5 so) x))) = some (nuB so x) := by
  unfold nuB
  by_cases h2 : so < 2
  · have hp := rp_of hb h2
    obtain ⟨d, hd, rfl⟩ := vb_ev h2 (hx h2)
    rw [if_pos (cob_of (ci := 5) hp.1), isNum_of (fq_fm so) hp hd, if_pos h2, dt_ev hd]
  · have : so = 2 := by omega
    subst this
    rw [if_neg (by rw [(shorts_cob hb).1]; decide), (shorts_cob hb).2, jgd_true, if_neg h2]
    rfl
theorem nums_cmp (hb : RCb S A C bx) (h3 : so < 3) {x y : Int64} (hx : so < 2 → vb so x) (hy : so < 2 → vb so y) {o : Ordering} (ho : odB so x y = some o) : (if cob C (A 5 so) 5 = true then c_Real_compared (A 5 so) x y C else jgd (cob C (A 5 so) 8) (some (g_Shorts_compared (A 5 so) x y))) = some (cmpI o) := by
  unfold odB at ho
  by_cases h2 : so < 2
  · have hp := rp_of hb h2
    obtain ⟨d, hd, rfl⟩ := vb_ev h2 (hx h2)
    obtain ⟨e, he, rfl⟩ := vb_ev h2 (hy h2)
    rw [if_pos h2, dt_ev hd, dt_ev he] at ho
    rw [if_pos (cob_of (ci := 5) hp.1), compared_of (fq_fm so) hp hd he ho]
  · have : so = 2 := by omega
    subst this
    rw [if_neg h2] at ho
    rw [if_neg (by rw [(shorts_cob hb).1]; decide), (shorts_cob hb).2, jgd_true, ← Option.some.inj ho]
    show some (g_JLong_compare x y) = _
    rw [long_compare]
theorem od_some (h3 : so < 3) {x y : Int64} (hx : nuB so x = true) (hy : nuB so y = true) : ∃ o, odB so x y = some o := by
  unfold odB
  unfold nuB at hx hy
  by_cases h2 : so < 2
  · rw [if_pos h2] at hx hy ⊢
    cases h : FP.Core.order (dt so x) (dt so y) with
    | none =>
      rcases order_none.mp h with z | z
      · exact absurd z (of_decide_eq_true hx)
      · exact absurd z (of_decide_eq_true hy)
    | some o => exact ⟨o, rfl⟩
  · rw [if_neg h2]; exact ⟨_, rfl⟩
theorem od_none (h3 : so < 3) {x y : Int64} (h : nuB so x = false ∨ nuB so y = false) : odB so x y = none := by
  unfold odB
  unfold nuB at h
  by_cases h2 : so < 2
  · rw [if_pos h2] at h ⊢
    rw [if_pos h2] at h
    refine order_none.mpr ?_
    rcases h with h | h
    · exact Or.inl (Classical.byContradiction fun z => of_decide_eq_false h z)
    · exact Or.inr (Classical.byContradiction fun z => of_decide_eq_false h z)
  · rw [if_neg h2] at h
    rw [if_neg h2] at h
    rcases h with h | h <;> cases h
/-- whether one is above the other -/
def abB (so : Nat) (x y : Int64) : Bool := odB so x y == some .gt
theorem above_of (hb : RCb S A C bx) (h3 : so < 3) {x y : Int64} (hx : so < 2 → vb so x) (hy : so < 2 → vb so y) : c_Numbers_above (A 5 so) x y C = some (abB so x y) := by
  unfold c_Numbers_above
  rw [nums_num hb h3 hx, obd_some]
  cases h1 : nuB so x with
  | false =>
    rw [if_neg (by decide)]
    unfold abB
    rw [od_none h3 (Or.inl h1)]; rfl
  | true =>
    rw [if_pos rfl, nums_num hb h3 hy, obd_some]
    cases h2 : nuB so y with
    | false =>
      rw [if_neg (by decide)]
      unfold abB
      rw [od_none h3 (Or.inr h2)]; rfl
    | true =>
      obtain ⟨o, ho⟩ := od_some h3 h1 h2
      rw [if_pos rfl, nums_cmp hb h3 hx hy ho, obd_some]
      unfold abB
      rw [ho]
      cases o <;> rfl
theorem nums_above (hb : RCb S A C bx) (h3 : so < 3) {x y : Int64} (hx : so < 2 → vb so x) (hy : so < 2 → vb so y) : (if cob C (A 5 so) 5 = true then c_Numbers_above (A 5 so) x y C else jgd (cob C (A 5 so) 8) (c_Numbers_above (A 5 so) x y C)) = some (abB so x y) := by
  by_cases h2 : so < 2
  · rw [if_pos (cob_of (ci := 5) (rp_of hb h2).1)]; exact above_of hb h3 hx hy
  · have : so = 2 := by omega
    subst this
    rw [if_neg (by rw [(shorts_cob hb).1]; decide), (shorts_cob hb).2, jgd_true]; exact above_of hb h3 hx hy
/-- the reference compares so -/
theorem dcmp_dv (h3 : so < 3) {x y : Int64} (hx : vb so x) (hy : vb so y) : FP.dcmp (dv so x) (dv so y) = odB so x y := by
  unfold odB
  by_cases h2 : so < 2
  · obtain ⟨d, hd, rfl⟩ := vb_ev h2 hx
    obtain ⟨e, he, rfl⟩ := vb_ev h2 hy
    rw [if_pos h2, dv_ev h2 hd, dv_ev h2 he, dcmp_rv h2 hd he, dt_ev hd, dt_ev he]
  · have : so = 2 := by omega
    subst this
    have b1 := i64_bound hx.1 hx.2
    have b2 := i64_bound hy.1 hy.2
    rw [if_neg h2, dv2, dv2]
    show FP.Core.order (FP.Core.val64 (FP.l2d x)) (FP.Core.val64 (FP.l2d y)) = _
    exact FP.Core.order_whole (FP.Core.l2d_int (by omega)) (FP.Core.l2d_int (by omega))
theorem dcmp_zero (h3 : so < 3) {x : Int64} (hx : vb so x) : FP.dcmp (dv so x) 0 = odB so x 0 := by
  rw [← dcmp_dv h3 hx (vb_zero so), dv_zero]
/-! sizes -/
def absd : FP.Core.Datum → FP.Core.Datum
  | .nan => .nan
  | .inf _ => .inf false
  | .fin _ c q => .fin false c q
theorem absd_fits {f : FP.Core.Fmt} {d : FP.Core.Datum} (h : FP.Core.fits f d) : FP.Core.fits f (absd d) := by cases d <;> exact h
def szB (so : Nat) (x : Int64) : Int64 := if so < 2 then ev (fm so) (absd (dt so x)) else if (0 : Int64) ≤ x then x else g_Shorts_cut (-x)
theorem size_ev {f : FP.Core.Fmt} (hf : Fq f) (hp : RP f C a) {x : FP.Core.Datum} (hx : FP.Core.fits f x) : c_Real_sizeOf a (ev f x) C = some (ev f (absd x)) := by
  by_cases hn : x = .nan
  · subst hn
    obtain ⟨s, m, hm, e1, e2⟩ := sg_cases hf hx
    rw [e1, sg_size hf hp hm]
    have : ev f .nan = sg f false (FP.Core.encode f .nan) := ev_sg hf (by show _ = 0 * f.exps * f.tails + _; rw [Nat.zero_mul, Nat.zero_mul, Nat.zero_add]) (by rcases hf with rfl | rfl <;> decide)
    have hl : FP.Core.encode f .nan < es f := by rcases hf with rfl | rfl <;> decide
    rw [this] at e1
    have := ((sg_inj hf hl hm).mp e1).2
    show _ = some (ev f .nan)
    rw [ev_nan hf, this]
  · obtain ⟨s, m, hm, e1, e2⟩ := sg_cases hf hx
    rw [e1, sg_size hf hp hm]
    congr 1
    have hm' : m ≤ (f.exps - 1) * f.tails := by rw [e2] at hn; exact (sg_num hf hm).mp hn
    have ea : absd x = FP.Core.decode f (false.toNat * es f + m) := by
      rw [e2, dec_sg hf hm, dec_sg hf hm]
      by_cases h : m = (f.exps - 1) * f.tails
      · rw [if_pos h, if_pos h]; rfl
      · rw [if_neg h, if_neg h, if_neg (by omega), if_neg (by omega)]; rfl
    have hb := (fq_n hf).2.2.2.2
    have hen : FP.Core.encode f (absd x) = m := by
      rw [ea, FP.Core.encode_decode (fq_good hf) _ ?_ ((sg_num hf hm).mpr hm')]
      · show 0 * es f + m = m; rw [Nat.zero_mul, Nat.zero_add]
      · rw [Nat.mul_assoc]
        show 0 * es f + m < 2 * es f
        omega
    unfold ev
    rw [hen, if_pos hm]
theorem szB_vb (h3 : so < 3) {x : Int64} (hx : vb so x) : vb so (szB so x) := by
  unfold szB
  by_cases h2 : so < 2
  · rw [if_pos h2]; exact ev_vb h2 (absd_fits (dt_fits x))
  · have : so = 2 := by omega
    subst this
    rw [if_neg h2]
    split
    · exact hx
    · unfold g_Shorts_cut
      split
      · split
        · exact ⟨by assumption, by assumption⟩
        · exact ⟨by decide, by decide⟩
      · exact ⟨by decide, by decide⟩
theorem nums_size (hb : RCb S A C bx) (h3 : so < 3) {x : Int64} (hx : so < 2 → vb so x) : (if cob C (A 5 so) 5 = true then c_Real_sizeOf (A 5 so) x C else jgd (cob C (A 5 so) 8) (c_Shorts_sizeOf (A 5 so) x C)) = some (szB so x) := by
  unfold szB
  by_cases h2 : so < 2
  · have hp := rp_of hb h2
    obtain ⟨d, hd, rfl⟩ := vb_ev h2 (hx h2)
    rw [if_pos (cob_of (ci := 5) hp.1), size_ev (fq_fm so) hp hd, if_pos h2, dt_ev hd]
  · have : so = 2 := by omega
    subst this
    rw [if_neg (by rw [(shorts_cob hb).1]; decide), (shorts_cob hb).2, jgd_true, if_neg h2]
    unfold c_Shorts_sizeOf
    rw [(shorts_cob hb).2, jgd_true]
    split <;> rfl
theorem cut_ref {x : Int64} : g_R_cut x 0 = FP.l2d (g_Shorts_cut x) ∧ (-32768 ≤ g_Shorts_cut x ∧ g_Shorts_cut x ≤ 32767) := by
  unfold g_R_cut g_Shorts_cut
  rw [if_neg (by decide)]
  by_cases h1 : x ≤ 32767
  · rw [if_pos h1, if_pos h1]
    by_cases h2 : -32768 ≤ x
    · rw [if_pos h2, if_pos h2]; exact ⟨rfl, h2, h1⟩
    · rw [if_neg h2, if_neg h2]; exact ⟨by decide +kernel, by decide, by decide⟩
  · rw [if_neg h1, if_neg h1]; exact ⟨by decide +kernel, by decide, by decide⟩
theorem size_ref (h3 : so < 3) {x : Int64} (hx : vb so x) (z : Nat) : g_R_sizeOf z (i32 so) (dv so x) = some (dv so (szB so x)) := by
  unfold g_R_sizeOf g_R_sizeOf_e g_R_sizeOf_19 szB
  by_cases h2 : so < 2
  · rw [if_neg (by rw [show (2 : Int32) = i32 2 from rfl]; exact i32_ne (by omega) (by decide) (by omega)), if_pos h2]
    obtain ⟨d, hd, rfl⟩ := vb_ev h2 hx
    rw [dt_ev hd, dv_ev h2 hd, dv_ev h2 (absd_fits hd), ← rv_zero h2, dcmp_rv h2 hd (zero_fm so false)]
    have hzf := zero_fm so false
    have sub : (∀ s, d ≠ .inf s → d ≠ .nan → True) → d ≠ .nan → (∃ c q, d = .fin true c q) ∨ (∃ s q, d = .fin s 0 q) ∨ d = .inf true → obd (jnD (FP.dsub (rv64 so (.fin false 0 (fm so).qmin)) (rv64 so d))) (fun x1 => some x1) = some (rv64 so (absd d)) := by
      intro _ hn hor
      have e : FP.dsub (rv64 so (.fin false 0 (fm so).qmin)) (rv64 so d) = rv64 so (absd d) := by
        apply FP.Core.val64_inj
        · rw [FP.Core.val64_dsub, rv_zero h2]
          have : FP.Core.val64 0 = .fin false 0 FP.Core.b64.qmin := FP.Core.val64_dconst0
          rw [this, val_rv h2 hd]
          intro hz
          have hz := FP.Core.round_nan.mp hz
          have hw : wd so d ≠ .nan := fun z => hn ((wd_nan h2).mp z)
          generalize wd so d = w at hz hw
          cases w with
          | nan => exact hw rfl
          | inf s1 => cases hz
          | fin s1 c1 q1 => cases hz
        · rw [FP.Core.val64_dsub, rv_zero h2]
          have : FP.Core.val64 0 = .fin false 0 FP.Core.b64.qmin := FP.Core.val64_dconst0
          rw [this, val_rv h2 hd, val_rv h2 (absd_fits hd), FP.Core.exactSum_comm]
          have hwf := wd_fits h2 hd
          have hwn : FP.Core.negate (wd so d) = wd so (FP.Core.negate d) := by
            match so, h2 with
            | 0, _ => rfl
            | 1, _ => exact FP.Core.negate_round _ _
          rcases hor with ⟨c, q, rfl⟩ | ⟨s1, q, rfl⟩ | rfl
          · have en : FP.Core.negate (.fin true c q) = absd (.fin true c q) := rfl
            rw [hwn, en]
            have hwa := wd_fits h2 (absd_fits hd)
            obtain ⟨c', q', e1, e2, -⟩ := wd_fin h2 (absd_fits hd)
            refine FP.Core.round_sum_zero FP.Core.good_b64 hwa false (fun s' q'' z => ?_)
            have e1' : wd so (absd (.fin true c q)) = .fin false c' q' := e1
            rw [e1'] at z
            injection z with z1 z2 z3
            exact Or.inl z1.symm
          · obtain ⟨c', q', e1, e2, -⟩ := wd_fin h2 hd
            obtain ⟨c2, q2, g1, g2, -⟩ := wd_fin h2 (absd_fits hd)
            have g1' : wd so (absd (.fin s1 0 q)) = .fin false c2 q2 := g1
            have f1 : FP.Core.fits FP.Core.b64 (.fin s1 c' q') := by rw [← e1]; exact hwf
            have f2 : FP.Core.fits FP.Core.b64 (.fin false c2 q2) := by rw [← g1']; exact wd_fits h2 (absd_fits hd)
            have z0 : FP.Core.inUnits 0 q FP.Core.b64.qmin = 0 := Nat.zero_mul _
            rw [z0] at e2
            have g2 : FP.Core.inUnits c2 q2 FP.Core.b64.qmin = 0 := by rw [← z0]; exact g2
            have cz : ∀ {u : Nat} {v : Int}, FP.Core.inUnits u v FP.Core.b64.qmin = 0 → u = 0 := fun {u v} h => by
              unfold FP.Core.inUnits at h
              have := Nat.two_pow_pos (v - FP.Core.b64.qmin).toNat
              rcases Nat.mul_eq_zero.mp h with h | h
              · exact h
              · omega
            have c0 := cz e2
            have c20 := cz g2
            subst c0
            subst c20
            rw [e1, g1', FP.Core.fits_zero_q FP.Core.good_b64 f1, FP.Core.fits_zero_q FP.Core.good_b64 f2]
            show FP.Core.round FP.Core.b64 (FP.Core.exactSum (.fin (!s1) 0 FP.Core.b64.qmin) (.fin false 0 FP.Core.b64.qmin)) = _
            rw [sum_zero (Or.inl rfl), Bool.and_false]
          · have : wd so (.inf true) = .inf true := (wd_inf h2 hd).mpr rfl
            rw [this]
            have h4 : wd so (absd (.inf true)) = .inf false := (wd_inf h2 (absd_fits hd)).mpr rfl
            rw [h4]; rfl
      rw [e, jnD_pos ((n64_rv h2 (absd_fits hd)).mpr (fun z => hn (by cases d <;> first | rfl | cases z))), obd_some]
    cases d with
    | nan => rw [if_pos (by show (0 : Int32) < Op.cmpValue none .g; decide)]; rfl
    | inf s1 =>
      cases s1 with
      | false => rw [if_pos (by show (0 : Int32) < Op.cmpValue (some .gt) .g; decide)]; rfl
      | true =>
        rw [if_neg (by show ¬ (0 : Int32) < Op.cmpValue (some .lt) .g; decide)]
        exact sub (fun _ _ _ => trivial) (fun z => by cases z) (Or.inr (Or.inr rfl))
    | fin s1 c q =>
      rw [order_zero hd.2.1]
      by_cases c0 : c = 0
      · subst c0
        rw [FP.Core.signed_zero, if_neg (by decide)]
        exact sub (fun _ _ _ => trivial) (fun z => by cases z) (Or.inr (Or.inl ⟨s1, q, rfl⟩))
      · cases s1 with
        | false =>
          rw [show compare (FP.Core.signed false c) 0 = .gt from Int.compare_eq_gt.mpr (by show (0 : Int) < (c : Int); omega), if_pos (by decide)]; rfl
        | true =>
          rw [show compare (FP.Core.signed true c) 0 = .lt from Int.compare_eq_lt.mpr (by show -(c : Int) < 0; omega), if_neg (by decide)]
          exact sub (fun _ _ _ => trivial) (fun z => by cases z) (Or.inl ⟨c, q, rfl⟩)
  · have : so = 2 := by omega
    subst this
    rw [if_pos (by rfl), if_neg h2, dcmp_zero (so := 2) (by decide) hx]
    have eo : odB 2 x 0 = some (compare x.toInt 0) := if_neg h2
    rw [eo, dv2, d2l_l2d' hx.1 hx.2]
    have b1 := i64_bound hx.1 hx.2
    by_cases h : (0 : Int64) ≤ x
    · rw [if_pos h]
      have h' := h
      rw [Int64.le_iff_toInt_le] at h'
      have z0 : (0 : Int64).toInt = 0 := rfl
      rw [if_pos (by
        by_cases q : x.toInt = 0
        · rw [q]; decide
        · rw [show compare x.toInt 0 = .gt from Int.compare_eq_gt.mpr (by omega)]; decide)]
      have ec : g_Shorts_cut x = x := by unfold g_Shorts_cut; rw [if_pos hx.2, if_pos hx.1]
      have := (cut_ref (x := x)).1
      rw [ec] at this
      rw [this]; rfl
    · rw [if_neg h]
      have h' := h
      rw [Int64.le_iff_toInt_le] at h'
      have z0 : (0 : Int64).toInt = 0 := rfl
      rw [if_neg (by rw [show compare x.toInt 0 = .lt from Int.compare_eq_lt.mpr (by omega)]; decide), (cut_ref (x := -x)).1]; rfl
end CMP
