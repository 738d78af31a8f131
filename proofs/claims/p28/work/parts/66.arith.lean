/-! products and sums of a sort, on bits -/
section ARITH
variable {S : ST} {A : AT} {C : CT} {T : MT} {bx a so s : Nat}
def dt (so : Nat) (b : Int64) : FP.Core.Datum := FP.Core.decode (fm so) (if un b < es (fm so) then un b else un b - (2 ^ 64 - 2 * es (fm so)))
theorem dt_ev {d : FP.Core.Datum} (hd : FP.Core.fits (fm so) d) : dt so (ev (fm so) d) = d := by
  have hf := fq_fm so
  have hn := (fq_n hf).2.2.2.2
  have h1 := FP.Core.encode_lt (fq_good hf) d hd
  rw [Nat.mul_assoc] at h1
  have h1 : FP.Core.encode (fm so) d < 2 * es (fm so) := h1
  have h2 : (if un (ev (fm so) d) < es (fm so) then un (ev (fm so) d) else un (ev (fm so) d) - (2 ^ 64 - 2 * es (fm so))) = FP.Core.encode (fm so) d := by
    unfold ev
    by_cases c : FP.Core.encode (fm so) d < es (fm so)
    · rw [if_pos c, un_j' (by omega), if_pos c]
    · rw [if_neg c, un_j' (by omega), if_neg (by omega)]
      omega
  unfold dt
  rw [h2, FP.Core.decode_encode (fq_good hf) d hd]
theorem dt_fits (b : Int64) : FP.Core.fits (fm so) (dt so b) := FP.Core.decode_fits (fq_good (fq_fm so)) _
theorem ev_dt (h2 : so < 2) {b : Int64} (hv : vb so b) : ev (fm so) (dt so b) = b := by
  obtain ⟨d, hd, rfl⟩ := vb_ev h2 hv
  rw [dt_ev hd]
def prB (so : Nat) (c v : Int64) : Int64 := if so < 2 then ev (fm so) (FP.Core.round (fm so) (FP.Core.exactProduct (dt so c) (dt so v))) else c * v
def plB (so : Nat) (x y : Int64) : Int64 := if so < 2 then ev (fm so) (FP.Core.round (fm so) (FP.Core.exactSum (dt so x) (dt so y))) else x + y
def opB (so : Nat) (x : Int64) : Int64 := if so < 2 then ev (fm so) (FP.Core.negate (dt so x)) else -x
def tmB (so : Nat) (x : Int64) : Int64 := if so < 2 then x else x * 16384
theorem rd_fits (so : Nat) (d : FP.Core.Datum) : FP.Core.fits (fm so) (FP.Core.round (fm so) d) := FP.Core.round_fits (fq_good (fq_fm so)) d
theorem prB_vb (h2 : so < 2) (c v : Int64) : vb so (prB so c v) := by
  unfold prB
  rw [if_pos h2]
  exact ev_vb h2 (rd_fits so _)
theorem plB_vb (h2 : so < 2) (c v : Int64) : vb so (plB so c v) := by
  unfold plB
  rw [if_pos h2]
  exact ev_vb h2 (rd_fits so _)
theorem opB_vb (h2 : so < 2) (c : Int64) : vb so (opB so c) := by
  unfold opB
  rw [if_pos h2]
  exact ev_vb h2 (FP.Core.negate_fits (dt_fits c))
theorem shorts_cob (hb : RCb S A C bx) : cob C (A 5 2) 5 = false ∧ cob C (A 5 2) 8 = true := by
  have h := hb.2.2.1.1
  unfold cob
  rw [h]
  decide
theorem nums_product (hb : RCb S A C bx) (h3 : so < 3) {c v : Int64} (hc : so < 2 → vb so c) (hv : so < 2 → vb so v) : (if cob C (A 5 so) 5 = true then c_Real_product (A 5 so) c v C else jgd (cob C (A 5 so) 8) (some (g_Shorts_product (A 5 so) c v))) = some (prB so c v) := by
  by_cases h2 : so < 2
  · have hp := rp_of hb h2
    obtain ⟨x, hx, rfl⟩ := vb_ev h2 (hc h2)
    obtain ⟨y, hy, rfl⟩ := vb_ev h2 (hv h2)
    rw [if_pos (cob_of (ci := 5) hp.1), product_of (fq_fm so) hp hx hy]
    unfold prB
    rw [if_pos h2, dt_ev hx, dt_ev hy]
  · have : so = 2 := by omega
    subst this
    rw [if_neg (by rw [(shorts_cob hb).1]; decide), (shorts_cob hb).2, jgd_true]
    rfl
theorem nums_plus (hb : RCb S A C bx) (h3 : so < 3) {c v : Int64} (hc : so < 2 → vb so c) (hv : so < 2 → vb so v) : (if cob C (A 5 so) 5 = true then c_Real_plus (A 5 so) c v C else jgd (cob C (A 5 so) 8) (some (g_Shorts_plus (A 5 so) c v))) = some (plB so c v) := by
  by_cases h2 : so < 2
  · have hp := rp_of hb h2
    obtain ⟨x, hx, rfl⟩ := vb_ev h2 (hc h2)
    obtain ⟨y, hy, rfl⟩ := vb_ev h2 (hv h2)
    rw [if_pos (cob_of (ci := 5) hp.1), plus_of (fq_fm so) hp hx hy]
    unfold plB
    rw [if_pos h2, dt_ev hx, dt_ev hy]
  · have : so = 2 := by omega
    subst this
    rw [if_neg (by rw [(shorts_cob hb).1]; decide), (shorts_cob hb).2, jgd_true]
    rfl
theorem real_negative (hb : RCb S A C bx) (h2 : so < 2) {c : Int64} (hc : vb so c) : c_Real_negative (A 5 so) c C = some (opB so c) := by
  have hp := rp_of hb h2
  obtain ⟨x, hx, rfl⟩ := vb_ev h2 hc
  rw [negative_of (fq_fm so) hp hx]
  unfold opB
  rw [if_pos h2, dt_ev hx]
/-! the reference's sums -/
def Sc (T T' : MT) : Prop := (∀ k, k ∉ [29, 30] → T'.1 k = T.1 k) ∧ (∀ k, k ≠ 32 → T'.2.1 k = T.2.1 k) ∧ (∀ k, k ≠ 31 → T'.2.2.1 k = T.2.2.1 k) ∧ T'.2.2.2 = T.2.2.2
theorem Sc.refl (T : MT) : Sc T T := ⟨fun _ _ => rfl, fun _ _ => rfl, fun _ _ => rfl, rfl⟩
theorem Sc.trans {T T' T'' : MT} (h : Sc T T') (h' : Sc T' T'') : Sc T T'' := ⟨fun k q => (h'.1 k q).trans (h.1 k q), fun k q => (h'.2.1 k q).trans (h.2.1 k q), fun k q => (h'.2.2.1 k q).trans (h.2.2.1 k q), h'.2.2.2.trans h.2.2.2⟩
theorem rt_Sc {T' : MT} (hR : RT S T) (h : Sc T T') : RT S T' := by
  obtain ⟨a1, a2, a3, a4, a5, a6, a7, a8, a9, b1, b2, b3⟩ := hR
  obtain ⟨h1, h2, h3, -⟩ := h
  have m1 : ∀ k, k ∈ rtN → k ∉ [29, 30] := by decide
  have m2 : ∀ k, k ∈ rtC → k ∉ [29, 30] := by decide
  have m3 : ∀ k, k ∈ rtM → k ∉ [29, 30] := by decide
  have m4 : ∀ k, k ∈ rtI → k ∉ [29, 30] := by decide
  have m5 : ∀ k, k ∈ rtJ → k ≠ 32 := by decide
  refine ⟨fun k hk j => by rw [h1 k (m1 k hk)]; exact a1 k hk j, fun k hk => by rw [h1 k (m2 k hk)]; exact a2 k hk, fun k hk j => by rw [h1 k (m3 k hk)]; exact a3 k hk j, fun k hk j => by rw [h1 k (m4 k hk)]; exact a4 k hk j, fun k hk j => by rw [h2 k (m5 k hk)]; exact a5 k hk j, fun j => ?_, fun j => ?_, fun j => ?_, fun j => ?_, fun j => ?_, fun j => ?_, fun j => ?_⟩
  · rw [h3 7 (by decide)]; exact a6 j
  · rw [h3 13 (by decide)]; exact a7 j
  · rw [h3 24 (by decide)]; exact a8 j
  · rw [h3 25 (by decide)]; exact a9 j
  · rw [h3 27 (by decide)]; exact b1 j
  · rw [h3 46 (by decide)]; exact b2 j
  · rw [h3 49 (by decide)]; exact b3 j
/-- a sum of k terms of a section that has come to acc -/
def MS (T : MT) (s so k : Nat) (acc : Int64) : Prop := (s < 60 ∧ T.1 29 0 = i32 s ∧ T.1 3 s = i32 so) ∧ (so < 2 → k < 100 ∧ T.1 30 0 = i32 k ∧ (k ≠ 0 → vb so acc ∧ T.2.2.1 31 0 = dv so acc)) ∧ (so = 2 → T.2.1 32 0 = acc)
theorem begins_ref (hR : RT S T) (hs : s < 60) : ∃ T', h_R_begins (i32 s) T = some T' ∧ MS T' s (S.1 3 s) 0 0 ∧ Sc T T' := by
  refine ⟨_, rfl, ⟨⟨hs, ?_, ?_⟩, fun _ => ⟨by decide, ?_, fun h => absurd rfl h⟩, fun _ => ?_⟩, fun k hk => ?_, fun k hk => ?_, fun k hk => ?_, rfl⟩
  · simp [tsI, tsJ, tsD, up2]
  · have : T.1 3 s = i32 (S.1 3 s) := hR.1 3 (by decide) s
    simp [tsI, tsJ, tsD, up2, this]
  · simp [tsI, tsJ, tsD, up2]; rfl
  · simp [tsI, tsJ, tsD, up2]
  · funext j
    have h1 : k ≠ 29 := fun q => hk (by rw [q]; decide)
    have h2 : k ≠ 30 := fun q => hk (by rw [q]; decide)
    simp [tsI, tsJ, tsD, up2, h1, h2]
  · funext j
    simp [tsI, tsJ, tsD, up2, hk]
  · funext j
    simp [tsI, tsJ, tsD, up2, hk]
theorem prod_ref (h2 : so < 2) (hs : s < 60) (h29 : T.1 29 0 = i32 s) (h3 : T.1 3 s = i32 so) {x y : FP.Core.Datum} (hx : FP.Core.fits (fm so) x) (hy : FP.Core.fits (fm so) y) : h_R_product (rv64 so x) (rv64 so y) T = some (rv64 so (FP.Core.round (fm so) (FP.Core.exactProduct x y))) := by
  have hr := rd_fits so (FP.Core.exactProduct x y)
  have p46 : FP.Core.exactProduct x y ≠ .nan → x ≠ .nan → y ≠ .nan → h_R_product_46 (rv64 so x) (rv64 so y) T = some (rv64 so (FP.Core.round (fm so) (FP.Core.exactProduct x y))) := by
    intro hn nx ny
    have hrn : FP.Core.round (fm so) (FP.Core.exactProduct x y) ≠ .nan := fun z => hn (FP.Core.round_nan.mp z)
    unfold h_R_product_46
    rw [h29, jrg_i32 hs (by decide), obd_some, h3]
    match so, h2, hx, hy, hr, hrn with
    | 0, h2, hx, hy, hr, hrn =>
      rw [if_neg (by decide)]
      have e : FP.dmul (rv64 0 x) (rv64 0 y) = rv64 0 (FP.Core.round (fm 0) (FP.Core.exactProduct x y)) := by
        show FP.Core.of64 (FP.Core.round FP.Core.b64 (FP.Core.exactProduct (FP.Core.val64 (FP.Core.of64 x)) (FP.Core.val64 (FP.Core.of64 y)))) = _
        rw [FP.Core.val64_of64 hx, FP.Core.val64_of64 hy]; rfl
      rw [e, jnD_pos ((n64_rv h2 hr).mpr hrn), obd_some]
    | 1, h2, hx, hy, hr, hrn =>
      have n32of : ∀ {z : FP.Core.Datum}, FP.Core.fits FP.Core.b32 z → z ≠ .nan → n32 (FP.Core.of32 z) := fun hz nz => (n32_iff _).mpr (by rw [FP.Core.val32_of32 hz]; exact nz)
      have e : FP.fmul (FP.Core.of32 x) (FP.Core.of32 y) = FP.Core.of32 (FP.Core.round (fm 1) (FP.Core.exactProduct x y)) := by
        show FP.Core.of32 (FP.Core.round FP.Core.b32 (FP.Core.exactProduct (FP.Core.val32 (FP.Core.of32 x)) (FP.Core.val32 (FP.Core.of32 y)))) = _
        rw [FP.Core.val32_of32 hx, FP.Core.val32_of32 hy]; rfl
      rw [if_pos (by rfl)]
      show obd (jnF (FP.d2f (FP.f2d (FP.Core.of32 x)))) _ = _
      rw [d2f_f2d' (n32of hx nx), jnF_pos (n32of hx nx), obd_some]
      show obd (jnF (FP.d2f (FP.f2d (FP.Core.of32 y)))) _ = _
      rw [d2f_f2d' (n32of hy ny), jnF_pos (n32of hy ny), obd_some, e, jnF_pos (n32of hr hrn), obd_some]
      show obd (jnD (rv64 1 (FP.Core.round (fm 1) (FP.Core.exactProduct x y)))) _ = _
      rw [jnD_pos ((n64_rv h2 hr).mpr hrn), obd_some]
  unfold h_R_product
  by_cases nx : x = .nan
  · rw [if_neg (fun z => (cmpl0 h2 hx).mp z nx)]
    subst nx
    show _ = some (rv64 so .nan)
    rw [rv_nan h2]
  · rw [if_pos ((cmpl0 h2 hx).mpr nx)]
    by_cases ny : y = .nan
    · rw [if_neg (fun z => (cmpl0 h2 hy).mp z ny)]
      subst ny
      have : FP.Core.exactProduct x .nan = .nan := by cases x <;> rfl
      rw [this]
      show _ = some (rv64 so .nan)
      rw [rv_nan h2]
    · rw [if_pos ((cmpl0 h2 hy).mpr ny)]
      have p29 : (∀ s, x = .inf s → ∀ t q, y ≠ .fin t 0 q) → h_R_product_29 (rv64 so x) (rv64 so y) T = some (rv64 so (FP.Core.round (fm so) (FP.Core.exactProduct x y))) := by
        intro hi
        unfold h_R_product_29
        by_cases zx : ∃ s q, x = .fin s 0 q
        · rw [if_pos ((zero_rv h2 hx).mpr zx)]
          obtain ⟨s1, q1, rfl⟩ := zx
          by_cases ey : ∃ t, y = .inf t
          · rw [if_pos ((endless_rv h2 hy).mpr ey)]
            obtain ⟨t1, rfl⟩ := ey
            rw [show FP.Core.exactProduct (.fin s1 0 q1) (.inf t1) = .nan from rfl]
            show _ = some (rv64 so .nan)
            rw [rv_nan h2]
          · rw [if_neg (fun z => ey ((endless_rv h2 hy).mp z))]
            refine p46 ?_ nx ny
            cases y with
            | nan => exact absurd rfl ny
            | inf t => exact absurd ⟨t, rfl⟩ ey
            | fin t d r => exact fun z => by cases z
        · rw [if_neg (fun z => zx ((zero_rv h2 hx).mp z))]
          refine p46 ?_ nx ny
          cases x with
          | nan => exact absurd rfl nx
          | inf s1 =>
            cases y with
            | nan => exact absurd rfl ny
            | inf t => exact fun z => by cases z
            | fin t d r =>
              have : d ≠ 0 := fun z => hi s1 rfl t r (by rw [z])
              show (if d = 0 then FP.Core.Datum.nan else .inf (s1 != t)) ≠ .nan
              rw [if_neg this]
              exact fun z => by cases z
          | fin s1 c1 q1 =>
            have c0 : c1 ≠ 0 := fun z => zx ⟨s1, q1, by rw [z]⟩
            cases y with
            | nan => exact absurd rfl ny
            | inf t =>
              show (if c1 = 0 then FP.Core.Datum.nan else .inf (s1 != t)) ≠ .nan
              rw [if_neg c0]
              exact fun z => by cases z
            | fin t d r => exact fun z => by cases z
      by_cases ex : ∃ s, x = .inf s
      · rw [if_pos ((endless_rv h2 hx).mpr ex)]
        obtain ⟨s1, rfl⟩ := ex
        by_cases zy : ∃ t q, y = .fin t 0 q
        · rw [if_pos ((zero_rv h2 hy).mpr zy)]
          obtain ⟨t, q, rfl⟩ := zy
          rw [show FP.Core.exactProduct (.inf s1) (.fin t 0 q) = .nan from rfl]
          show _ = some (rv64 so .nan)
          rw [rv_nan h2]
        · rw [if_neg (fun z => zy ((zero_rv h2 hy).mp z))]
          exact p29 (fun _ _ t q z => zy ⟨t, q, z⟩)
      · rw [if_neg (fun z => ex ((endless_rv h2 hx).mp z))]
        exact p29 (fun s1 z => absurd ⟨s1, z⟩ ex)
theorem joins_ref (h2 : so < 2) {k : Nat} {acc : Int64} (hm : MS T s so k acc) (hk : k < 90) {t : Int64} (ht : vb so t) {off : Bool} (hoff : k = 0 → off = false) : ∃ T', h_R_joins (dv so t) off T = some T' ∧ MS T' s so (k + 1) (if k = 0 then t else plB so acc (if off = true then opB so t else t)) ∧ Sc T T' := by
  obtain ⟨⟨hs, h29, h3⟩, m2, m3⟩ := hm
  obtain ⟨k1, k2, k3⟩ := m2 h2
  have fin : ∀ v : Int64, vb so v → ∃ T', h_R_joins_156 (tsD T 31 0 (dv so v)) = some T' ∧ MS T' s so (k + 1) v ∧ Sc T T' := by
    intro v hv
    refine ⟨_, rfl, ⟨⟨hs, ?_, ?_⟩, fun _ => ⟨by omega, ?_, fun _ => ⟨hv, ?_⟩⟩, fun h => by omega⟩, fun x hx => ?_, fun x hx => rfl, fun x hx => ?_, rfl⟩
    · simpa [tsI, tsD, up2] using h29
    · simpa [tsI, tsD, up2] using h3
    · show up2 T.1 30 0 (T.1 30 0 + 1) 30 0 = _
      rw [up2_same, k2]; exact i32_add k 1
    · simp [tsI, tsD, up2]
    · funext j
      have : x ≠ 30 := fun q => hx (by rw [q]; decide)
      simp [tsI, tsD, up2, this]
    · funext j
      simp [tsI, tsD, up2, hx]
  unfold h_R_joins
  rw [k2]
  by_cases k0 : k = 0
  · rw [if_pos (by rw [k0]; rfl), if_pos k0]
    exact fin t ht
  · rw [if_neg (by rw [show (0 : Int32) = i32 0 from rfl]; exact i32_ne (by omega) (by decide) k0), if_neg k0]
    obtain ⟨va, e31⟩ := k3 k0
    obtain ⟨x, hx, rfl⟩ := vb_ev h2 va
    obtain ⟨y, hy, rfl⟩ := vb_ev h2 ht
    rw [e31, dv_ev h2 hx, dv_ev h2 hy]
    have hy' : FP.Core.fits (fm so) (if off = true then FP.Core.negate y else y) := by
      split
      · exact FP.Core.negate_fits hy
      · exact hy
    have eop : plB so (ev (fm so) x) (if off = true then opB so (ev (fm so) y) else ev (fm so) y) = ev (fm so) (FP.Core.round (fm so) (FP.Core.exactSum x (if off = true then FP.Core.negate y else y))) := by
      have : (if off = true then opB so (ev (fm so) y) else ev (fm so) y) = ev (fm so) (if off = true then FP.Core.negate y else y) := by
        unfold opB
        rw [if_pos h2, dt_ev hy]
        split <;> rfl
      rw [this]
      unfold plB
      rw [if_pos h2, dt_ev hx, dt_ev hy']
    rw [eop]
    generalize hyy : (if off = true then FP.Core.negate y else y) = y' at *
    have hr := rd_fits so (FP.Core.exactSum x y')
    have fnan : FP.Core.exactSum x y' = .nan → ∃ T', h_R_joins_156 (tsD T 31 0 (0x7ff8000000000000 : UInt64)) = some T' ∧ MS T' s so (k + 1) (ev (fm so) (FP.Core.round (fm so) (FP.Core.exactSum x y'))) ∧ Sc T T' := by
      intro hz
      have := fin (ev (fm so) .nan) (ev_vb h2 (d := .nan) trivial)
      rw [dv_ev h2 (d := .nan) trivial, rv_nan h2] at this
      rw [hz]
      exact this
    have j88 : FP.Core.exactSum x y' ≠ .nan → x ≠ .nan → y ≠ .nan → ∃ T', h_R_joins_88 (rv64 so y) off T = some T' ∧ MS T' s so (k + 1) (ev (fm so) (FP.Core.round (fm so) (FP.Core.exactSum x y'))) ∧ Sc T T' := by
      intro hn nx ny
      have hrn : FP.Core.round (fm so) (FP.Core.exactSum x y') ≠ .nan := fun z => hn (FP.Core.round_nan.mp z)
      have go := fin _ (ev_vb h2 hr)
      rw [dv_ev h2 hr] at go
      have e31' : T.2.2.1 31 0 = rv64 so x := by rw [e31, dv_ev h2 hx]
      unfold h_R_joins_88 h_R_joins_127 h_R_joins_153
      rw [h29, jrg_i32 hs (by decide), obd_some, h3, e31']
      match so, h2, hx, hy, hr, hrn, go with
      | 0, h2, hx, hy, hr, hrn, go =>
        rw [if_neg (by decide)]
        by_cases ho : off = true
        · rw [if_pos ho] at hyy ⊢
          have e : FP.dsub (rv64 0 x) (rv64 0 y) = rv64 0 (FP.Core.round (fm 0) (FP.Core.exactSum x y')) := by
            show FP.Core.of64 (FP.Core.round FP.Core.b64 (FP.Core.exactSum (FP.Core.val64 (FP.Core.of64 x)) (FP.Core.negate (FP.Core.val64 (FP.Core.of64 y))))) = _
            rw [FP.Core.val64_of64 hx, FP.Core.val64_of64 hy, hyy]; rfl
          rw [e, jnD_pos ((n64_rv h2 hr).mpr hrn), obd_some]
          exact go
        · rw [if_neg ho] at hyy ⊢
          have e : FP.dadd (rv64 0 x) (rv64 0 y) = rv64 0 (FP.Core.round (fm 0) (FP.Core.exactSum x y')) := by
            show FP.Core.of64 (FP.Core.round FP.Core.b64 (FP.Core.exactSum (FP.Core.val64 (FP.Core.of64 x)) (FP.Core.val64 (FP.Core.of64 y)))) = _
            rw [FP.Core.val64_of64 hx, FP.Core.val64_of64 hy, hyy]; rfl
          rw [e, jnD_pos ((n64_rv h2 hr).mpr hrn), obd_some]
          exact go
      | 1, h2, hx, hy, hr, hrn, go =>
        have n32of : ∀ {z : FP.Core.Datum}, FP.Core.fits FP.Core.b32 z → z ≠ .nan → n32 (FP.Core.of32 z) := fun hz nz => (n32_iff _).mpr (by rw [FP.Core.val32_of32 hz]; exact nz)
        have ex : FP.d2f (rv64 1 x) = FP.Core.of32 x := d2f_f2d' (n32of hx nx)
        have ey : FP.d2f (rv64 1 y) = FP.Core.of32 y := d2f_f2d' (n32of hy ny)
        rw [if_pos (by rfl), ex, ey, jnF_pos (n32of hx nx), jnF_pos (n32of hy ny)]
        by_cases ho : off = true
        · rw [if_pos ho] at hyy ⊢
          have e : FP.fsub (FP.Core.of32 x) (FP.Core.of32 y) = FP.Core.of32 (FP.Core.round (fm 1) (FP.Core.exactSum x y')) := by
            show FP.Core.of32 (FP.Core.round FP.Core.b32 (FP.Core.exactSum (FP.Core.val32 (FP.Core.of32 x)) (FP.Core.negate (FP.Core.val32 (FP.Core.of32 y))))) = _
            rw [FP.Core.val32_of32 hx, FP.Core.val32_of32 hy, hyy]; rfl
          rw [obd_some, obd_some, e, jnF_pos (n32of hr hrn), obd_some]
          show ∃ T', obd (jnD (rv64 1 (FP.Core.round (fm 1) (FP.Core.exactSum x y')))) _ = some T' ∧ _
          rw [jnD_pos ((n64_rv h2 hr).mpr hrn), obd_some]
          exact go
        · rw [if_neg ho] at hyy ⊢
          have e : FP.fadd (FP.Core.of32 x) (FP.Core.of32 y) = FP.Core.of32 (FP.Core.round (fm 1) (FP.Core.exactSum x y')) := by
            show FP.Core.of32 (FP.Core.round FP.Core.b32 (FP.Core.exactSum (FP.Core.val32 (FP.Core.of32 x)) (FP.Core.val32 (FP.Core.of32 y)))) = _
            rw [FP.Core.val32_of32 hx, FP.Core.val32_of32 hy, hyy]; rfl
          rw [obd_some, obd_some, e, jnF_pos (n32of hr hrn), obd_some]
          show ∃ T', obd (jnD (rv64 1 (FP.Core.round (fm 1) (FP.Core.exactSum x y')))) _ = some T' ∧ _
          rw [jnD_pos ((n64_rv h2 hr).mpr hrn), obd_some]
          exact go
    have yn : y = .nan → y' = .nan := fun z => by rw [← hyy, z]; cases off <;> rfl
    unfold h_R_joins_33
    by_cases nx : x = .nan
    · rw [if_neg (fun z => (cmpl0 h2 hx).mp z nx)]
      exact fnan (by rw [nx]; rfl)
    · rw [if_pos ((cmpl0 h2 hx).mpr nx)]
      by_cases ny : y = .nan
      · rw [if_neg (fun z => (cmpl0 h2 hy).mp z ny)]
        exact fnan (by rw [yn ny]; cases x <;> rfl)
      · rw [if_pos ((cmpl0 h2 hy).mpr ny)]
        have fin' : ∀ {u v : FP.Core.Datum}, u ≠ .nan → v ≠ .nan → (∀ s, u ≠ .inf s) ∨ (∀ s, v ≠ .inf s) → FP.Core.exactSum u v ≠ .nan := by
          intro u v hu hv ho
          cases u with
          | nan => exact absurd rfl hu
          | inf s1 =>
            cases v with
            | nan => exact absurd rfl hv
            | inf t1 => rcases ho with h | h
                        · exact absurd rfl (h s1)
                        · exact absurd rfl (h t1)
            | fin t1 d r => exact fun z => by cases z
          | fin s1 c1 q1 =>
            cases v with
            | nan => exact absurd rfl hv
            | inf t1 => exact fun z => by cases z
            | fin t1 d r => exact fun z => by cases z
        have ny' : y' ≠ .nan := by
          rw [← hyy]
          cases y with
          | nan => exact absurd rfl ny
          | inf t1 => cases off <;> exact fun z => by cases z
          | fin t1 d r => cases off <;> exact fun z => by cases z
        by_cases ex : ∃ s, x = .inf s
        · rw [if_pos ((endless_rv h2 hx).mpr ex)]
          by_cases ey : ∃ s, y = .inf s
          · rw [if_pos ((endless_rv h2 hy).mpr ey)]
            obtain ⟨s1, rfl⟩ := ex
            obtain ⟨t1, rfl⟩ := ey
            rw [dcmp_rv h2 hx hy]
            have e' : y' = .inf (if off = true then !t1 else t1) := by
              rw [← hyy]; cases off <;> rfl
            have eo : Op.cmpValue (FP.Core.order (.inf s1) (.inf t1)) .l = 0 ↔ s1 = t1 := by cases s1 <;> cases t1 <;> decide
            have es' : FP.Core.exactSum (.inf s1) y' = if s1 = (if off = true then !t1 else t1) then .inf s1 else .nan := by rw [e']; rfl
            unfold h_R_joins_74
            by_cases st : s1 = t1
            · rw [if_pos (eo.mpr st)]
              by_cases ho : true = off
              · rw [if_pos ho]
                refine fnan ?_
                rw [es', ← ho, st]
                cases t1 <;> rfl
              · rw [if_neg ho]
                refine j88 ?_ nx ny
                have : off = false := by cases off with | true => exact absurd rfl ho | false => rfl
                rw [es', this, st, if_pos (by cases t1 <;> rfl)]
                exact fun z => by cases z
            · rw [if_neg (fun z => st (eo.mp z))]
              by_cases ho : false = off
              · rw [if_pos ho]
                refine fnan ?_
                rw [es', ← ho, if_neg (by rw [if_neg (by decide)]; exact st)]
              · rw [if_neg ho]
                refine j88 ?_ nx ny
                have : off = true := by cases off with | true => rfl | false => exact absurd rfl ho
                rw [es', this, if_pos (by rw [if_pos rfl]; cases s1 <;> cases t1 <;> first | rfl | exact absurd rfl st)]
                exact fun z => by cases z
          · rw [if_neg (fun z => ey ((endless_rv h2 hy).mp z))]
            refine j88 (fin' nx ny' (Or.inr fun s1 z => ?_)) nx ny
            rw [← hyy] at z
            cases y with
            | nan => exact absurd rfl ny
            | inf t1 => exact ey ⟨t1, rfl⟩
            | fin t1 d r => cases off <;> cases z
        · rw [if_neg (fun z => ex ((endless_rv h2 hx).mp z))]
          exact j88 (fin' nx ny' (Or.inl fun s1 z => ex ⟨s1, z⟩)) nx ny
theorem zero_addL (x : Int64) : 0 + x = x := Int64.toInt_inj.mp (by rw [Int64.toInt_add]; show ((0 : Int) + x.toInt).bmod _ = _; rw [Int.zero_add]; exact Int.bmod_eq_of_le (by have := Int64.le_toInt x; omega) (by have := Int64.toInt_lt x; omega))
/-- a product comes to a sum -/
theorem term_ref (h3 : so < 3) {k : Nat} {acc : Int64} (hm : MS T s so k acc) (hk : k < 90) {c v : Int64} (hc : vb so c) (hv : vb so v) {off : Bool} (hoff : k = 0 → off = false ∧ (so = 2 → acc = 0)) : ∃ T', h_R_term (dv so c) (dv so v) off T = some T' ∧ MS T' s so (k + 1) (if k = 0 then prB so c v else plB so acc (if off = true then opB so (prB so c v) else prB so c v)) ∧ Sc T T' := by
  have hm' := hm
  obtain ⟨⟨hs, h29, hso⟩, m2, m3⟩ := hm
  unfold h_R_term
  rw [h29, jrg_i32 hs (by decide), obd_some, hso]
  by_cases h2 : so < 2
  · rw [if_neg (by rw [show (2 : Int32) = i32 2 from rfl]; exact i32_ne (by omega) (by decide) (by omega))]
    obtain ⟨x, hx, rfl⟩ := vb_ev h2 hc
    obtain ⟨y, hy, rfl⟩ := vb_ev h2 hv
    have e : prB so (ev (fm so) x) (ev (fm so) y) = ev (fm so) (FP.Core.round (fm so) (FP.Core.exactProduct x y)) := by
      unfold prB
      rw [if_pos h2, dt_ev hx, dt_ev hy]
    obtain ⟨T', u1, u2, u3⟩ := joins_ref h2 hm' hk (t := prB so (ev (fm so) x) (ev (fm so) y)) (prB_vb h2 _ _) (off := off) (fun z => (hoff z).1)
    refine ⟨T', ?_, u2, u3⟩
    rw [dv_ev h2 hx, dv_ev h2 hy, prod_ref h2 hs h29 hso hx hy, obd_some]
    rw [e, dv_ev h2 (rd_fits so _)] at u1
    rw [u1, obd_some]
  · have : so = 2 := by omega
    subst this
    rw [if_pos (by rfl), m3 rfl, dv2, dv2, d2l_l2d' hc.1 hc.2, d2l_l2d' hv.1 hv.2]
    have fin : ∀ z : Int64, MS (tsJ T 32 0 z) s 2 (k + 1) z ∧ Sc T (tsJ T 32 0 z) := fun z => ⟨⟨⟨hs, h29, hso⟩, fun h => absurd h h2, fun _ => by simp [tsJ, up2]⟩, fun _ _ => rfl, fun x hx => (by funext j; simp [tsJ, up2, hx]), fun _ _ => rfl, rfl⟩
    have ea : (if k = 0 then prB 2 c v else plB 2 acc (if off = true then opB 2 (prB 2 c v) else prB 2 c v)) = acc + (if off = true then -(c * v) else c * v) := by
      by_cases k0 : k = 0
      · obtain ⟨o1, o2⟩ := hoff k0
        rw [if_pos k0, o1, o2 rfl, if_neg (by decide), zero_addL]; rfl
      · rw [if_neg k0]
        cases off <;> rfl
    rw [ea]
    unfold h_R_term_38
    by_cases ho : off = true
    · rw [if_pos ho, if_pos ho]
      exact ⟨_, rfl, fin _⟩
    · rw [if_neg ho, if_neg ho]
      exact ⟨_, rfl, fin _⟩
/-- a value alone comes to a sum -/
theorem term2_ref (h3 : so < 3) {k : Nat} {acc : Int64} (hm : MS T s so k acc) (hk : k < 90) {v : Int64} (hv : vb so v) (hoff : k = 0 → (so = 2 → acc = 0)) : ∃ T', h_R_term_2 (dv so v) false T = some T' ∧ MS T' s so (k + 1) (if k = 0 then tmB so v else plB so acc (tmB so v)) ∧ Sc T T' := by
  have hm' := hm
  obtain ⟨⟨hs, h29, hso⟩, m2, m3⟩ := hm
  unfold h_R_term_2
  rw [h29, jrg_i32 hs (by decide), obd_some, hso]
  by_cases h2 : so < 2
  · rw [if_neg (by rw [show (2 : Int32) = i32 2 from rfl]; exact i32_ne (by omega) (by decide) (by omega))]
    obtain ⟨T', u1, u2, u3⟩ := joins_ref h2 hm' hk hv (off := false) (fun _ => rfl)
    have e : tmB so v = v := if_pos h2
    rw [e]
    refine ⟨T', ?_, u2, u3⟩
    rw [u1, obd_some]
  · have : so = 2 := by omega
    subst this
    rw [if_pos (by rfl), m3 rfl, dv2, d2l_l2d' hv.1 hv.2]
    have ea : (if k = 0 then tmB 2 v else plB 2 acc (tmB 2 v)) = acc + 16384 * v := by
      have e : tmB 2 v = 16384 * v := Int64.mul_comm v 16384
      rw [e]
      by_cases k0 : k = 0
      · rw [if_pos k0, hoff k0 rfl, zero_addL]
      · rw [if_neg k0]; rfl
    rw [ea]
    exact ⟨_, rfl, ⟨⟨hs, h29, hso⟩, fun h => absurd h h2, fun _ => by simp [tsJ, up2]⟩, fun _ _ => rfl, fun x hx => (by funext j; simp [tsJ, up2, hx]), fun _ _ => rfl, rfl⟩
end ARITH
