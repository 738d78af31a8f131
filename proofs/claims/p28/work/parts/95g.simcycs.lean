/-! dead cycles: both sides -/
section SIMCYCS
variable {E B bx m s Z : Nat} {ad : Nat → Nat} {S : ST} {A : AT} {C C' : CT} {T T' : MT} {v : Int32}
theorem cnt_rank {g : Nat → Bool} : ∀ {n k : Nat}, k < cnt g n → ∃ v, v < n ∧ g v = true ∧ cnt g v = k
  | 0, k, h => absurd (show k < 0 from h) (Nat.not_lt_zero _)
  | n + 1, k, h => by
    have h : k < cnt g n + (if g n = true then 1 else 0) := h
    by_cases h1 : k < cnt g n
    · obtain ⟨v, a, b⟩ := cnt_rank h1
      exact ⟨v, by omega, b⟩
    · by_cases h2 : g n = true
      · rw [if_pos h2] at h
        exact ⟨n, by omega, h2, by omega⟩
      · rw [if_neg h2] at h
        omega
theorem sim_cycles {N M : Nat} (hN : 200000 ≤ N) : ls_19 N M bx (II GG E B bx m ad) (II GG E B bx m ad) := by
  rintro C T v ⟨S, A, J⟩
  have hb := jj_b J
  have ho : cob C bx 0 = true := cob_of (rb_tag hb)
  have hod : cob C (A 2 0) 2 = true := cob_of (ci := 2) hb.2.2.2.2.2.2.2
  rcases isDead_of J v with ⟨s, hs, rfl, h1, h2, h5, e1, e2⟩ | ⟨e1, x, e2, e3⟩
  · obtain ⟨Z, hZ⟩ : ∃ Z, Z = 65536 := ⟨_, rfl⟩
    obtain ⟨A', C', o, t, u1, u2, u3, u4, u5⟩ := look_jj hN J hs h1 h2 h5
    obtain ⟨T', w1, w2, w3⟩ := finds_ref hN hZ J hs h2 h5
    have hf : ∀ i, i < Z → nxS S s i < Z := fun i _ => by rw [hZ]; exact (nx_of _ _ _ i).2
    have hq := qi_rnf hf Z (Nat.le_refl _)
    have hfo := (u5 Z hZ).1
    have e : C'.2.2.1 36 (A 2 0) 0 = T'.1 55 0 := by
      rw [hfo, w2.2.2.1]
      exact congrArg i32 (cnt_isL hq)
    refine ⟨T'.1 55 0, C', T', ?_, ?_, S, A', jj_T u2 (rt_Fc (jj_rt J) w3)⟩
    · have hb' := jj_b u2
      have ed : cgA C' bx 0 10 = some (some (A 2 0)) := by rw [rb_dead hb', u3]
      have e36 : cgI C' (A 2 0) 2 4 = some (C'.2.2.1 36 (A 2 0) 0) := if_pos u4.1.1
      unfold c_B_cycles
      rw [rb_dead hb, obd_some, ho, jgd_true, e2, obd_some, obd_some, hod, jgd_true, u1, cbd2_some, if_pos rfl, ed, obd_some, obd_some, e36, obd_some, e]
    · unfold h_R_cycles
      rw [e1, obd_some, if_pos rfl, w1, obd_some]
  · refine ⟨-1, C, T, ?_, ?_, S, A, J⟩
    · unfold c_B_cycles
      rw [rb_dead hb, obd_some, ho, jgd_true, e2, obd_some, obd_some, hod, jgd_true, e3, cbd2_some, if_neg (by decide)]
    · unfold h_R_cycles
      rw [e1, obd_some, if_neg (by decide)]
/-- the reference looks for the cycle by its number -/
theorem cyc40_go {N : Nat} (hZ : Z = 65536) {f : Nat → Nat} {q : QS} (hq : QI Z Z q) (hT : TQ Z f T q) {a3 : Int32} {k v : Nat} (hv : v < Z) (hl : isL Z q v = true) (hk : cnt (isL Z q) v = k) : ∀ (n g i : Nat), i + n = v → n + 1 < g →
    h_R_cycle_40 N g a3 (-1 : Int32) (i32 (k - cnt (isL Z q) i)) (i32 i) T = h_R_cycle_100 N a3 (i32 (q.1 v - (Z + 1))) T
  | _, 0, _, _, h => absurd h (Nat.not_lt_zero _)
  | n, g + 1, i, hi, hg => by
    have hcy := qi_cy hq
    have hiZ : i < Z := by omega
    have hm := hq.1 i hiZ
    have hm0 := hq.2.1 i hiZ
    obtain ⟨w, hw⟩ : ∃ w, q.1 i = Z + 1 + w := ⟨q.1 i - (Z + 1), by omega⟩
    have hwc : w < q.2.1 := by omega
    have e57 : T.1 57 i = i32 (w + 1) := by rw [hT.2.1 i hiZ, hw, em_cyc]
    have e1 : i32 (w + 1) - (1 : Int32) = i32 w := i32_sub (a := w + 1) (b := 1) (by omega)
    have e58 : T.1 58 w = i32 (q.2.2.1 w) := (hT.2.2.2 w hwc).1
    have hle := (hq.2.2.1 w hwc).1
    have j1 : jrg 65536 (i32 i) = some i := jrg_i32 (by omega) (by decide)
    have j2 : jrg 65536 (i32 w) = some w := jrg_i32 (by omega) (by decide)
    have hmo := cnt_mono (g := isL Z q) (show i ≤ v by omega)
    have eiff : isL Z q i = true ↔ q.2.2.1 w = i := by
      unfold isL
      rw [hw, show Z + 1 + w - (Z + 1) = w by omega, Bool.and_eq_true, decide_eq_true_iff, decide_eq_true_iff]
      exact ⟨fun z => z.2, fun z => ⟨by omega, z⟩⟩
    have ec : cnt (isL Z q) (i + 1) = cnt (isL Z q) i + (if isL Z q i = true then 1 else 0) := rfl
    have en : i32 i + 1 = i32 (i + 1) := i32_add i 1
    unfold h_R_cycle_40
    rw [if_neg (by rw [show (65536 : Int32) = i32 65536 from rfl, i32_le (by omega) (by omega)]; omega), if_pos rfl, j1, obd_some, e57, e1, j2, obd_some, e58, obd_some]
    by_cases h : isL Z q i = true
    · rw [if_pos (by rw [eiff.mp h])]
      rw [if_pos h] at ec
      by_cases hn : i = v
      · subst hn
        rw [hk, Nat.sub_self, if_pos (by rfl)]
        obtain ⟨g', rfl⟩ : ∃ g', g = g' + 1 := ⟨g - 1, by omega⟩
        unfold h_R_cycle_91 h_R_cycle_94
        rw [e57, e1, hw, show Z + 1 + w - (Z + 1) = w by omega, en]
        unfold h_R_cycle_40
        by_cases hb : (65536 : Int32) ≤ i32 (i + 1)
        · rw [if_pos hb]
        · rw [if_neg hb, if_neg (fun z => by
            have := congrArg Int32.toInt z
            rw [i32_toInt (by omega), show (-1 : Int32).toInt = -1 from rfl] at this
            omega)]
      · have hlt := cnt_lt (show i < v by omega) h
        rw [if_neg (show ¬ i32 (k - cnt (isL Z q) i) = (0 : Int32) from i32_ne (b := 0) (by have := cnt_full (g := isL Z q) (n := v); omega) (by decide) (by omega))]
        have e9 : i32 (k - cnt (isL Z q) i) + (-1 : Int32) = i32 (k - cnt (isL Z q) (i + 1)) := by
          have : i32 (k - cnt (isL Z q) i) - (1 : Int32) = i32 (k - cnt (isL Z q) i - 1) := i32_sub (b := 1) (by omega)
          rw [ec, show k - (cnt (isL Z q) i + 1) = k - cnt (isL Z q) i - 1 by omega, ← this, Int32.sub_eq_add_neg]
        unfold h_R_cycle_91 h_R_cycle_94
        rw [e9, en]
        exact cyc40_go (N := N) hZ hq hT hv hl hk (n - 1) g (i + 1) (by omega) (by omega)
    · have hn : i ≠ v := fun z => h (z ▸ hl)
      rw [if_neg (fun z => h (eiff.mpr ((i32_inj (by omega) (by omega)).mp z)))]
      rw [if_neg h] at ec
      have ec : cnt (isL Z q) (i + 1) = cnt (isL Z q) i := ec
      unfold h_R_cycle_94
      rw [en, ← ec]
      exact cyc40_go (N := N) hZ hq hT hv hl hk (n - 1) g (i + 1) (by omega) (by omega)
theorem tl_len {si ba : Nat → Nat} {w : Nat} : Int64.toInt32 (tl si ba w) = i32 (si w) := by
  show Int64.toInt32 (Int64.ofNat (si w + 4294967296 * ba w)) = _
  rw [Int64.toInt32_ofNat']
  show i32 (si w + 4294967296 * ba w) = _
  rw [← i32_add, ← i32_mul, show i32 4294967296 = 0 from by decide, Int32.zero_mul, Int32.add_zero]
theorem tl_bas {si ba : Nat → Nat} {w : Nat} (h1 : si w < 4294967296) (h2 : si w + 4294967296 * ba w < 2 ^ 63) : Int64.toInt32 ((tl si ba w).toUInt64 >>> (((32 : Int32)).toInt64.toUInt64 &&& Int64.toUInt64 63)).toInt64 = i32 (ba w) := by
  have e : ((tl si ba w).toUInt64 >>> (((32 : Int32)).toInt64.toUInt64 &&& Int64.toUInt64 63)).toInt64 = j64 ((si w + 4294967296 * ba w) / 2 ^ 32) := j_shr (n := 32) (by decide) (by omega)
  rw [e, show (si w + 4294967296 * ba w) / 2 ^ 32 = ba w by omega]
  exact Int64.toInt32_ofNat' ..
theorem sim_cycle {N M : Nat} (hN : 200000 ≤ N) : ls_20 N M bx (II GG E B bx m ad) (II GG E B bx m ad) := by
  rintro C T v a2 a3 ⟨S, A, J⟩
  have hb := jj_b J
  have ho : cob C bx 0 = true := cob_of (rb_tag hb)
  have hod : cob C (A 2 0) 2 = true := cob_of (ci := 2) hb.2.2.2.2.2.2.2
  rcases isDead_of J v with ⟨s, hs, rfl, h1, h2, h5, e1, e2⟩ | ⟨e1, x, e2, e3⟩
  · obtain ⟨Z, hZ⟩ : ∃ Z, Z = 65536 := ⟨_, rfl⟩
    obtain ⟨A', C', o, t, u1, u2, u3, u4, u5⟩ := look_jj hN J hs h1 h2 h5
    obtain ⟨T', w1, w2, w3⟩ := finds_ref hN hZ J hs h2 h5
    have hf : ∀ i, i < Z → nxS S s i < Z := fun i _ => by rw [hZ]; exact (nx_of _ _ _ i).2
    have hq := qi_rnf hf Z (Nat.le_refl _)
    have u5 : GT0 Z (rnf Z (nxS S s) Z) (C'.2.2.1 36 (A 2 0) 0) (C'.2.2.1 900 o) (C'.2.2.2.1 900 t) := u5 Z hZ
    generalize hQ : rnf Z (nxS S s) Z = q at *
    have hcy := qi_cy hq
    have e36 : C'.2.2.1 36 (A 2 0) 0 = i32 q.2.1 := by rw [u5.1, cnt_isL hq]
    have hJ : II GG E B bx m ad C' T' := ⟨S, A', jj_T u2 (rt_Fc (jj_rt J) w3)⟩
    have hb' := jj_b u2
    have ed : cgA C' bx 0 10 = some (some (A 2 0)) := by rw [rb_dead hb', u3]
    have g36 : cgI C' (A 2 0) 2 4 = some (i32 q.2.1) := (if_pos u4.1.1).trans (congrArg some e36)
    have hod' : cob C' (A 2 0) 2 = true := cob_of (ci := 2) u4.1.1
    have epre : h_R_cycle N (i32 s) a2 a3 T = if g_R_in a2 (0 : Int32) (i32 q.2.1 - (1 : Int32)) = true then h_R_cycle_40 N N a3 (-1 : Int32) a2 (0 : Int32) T' else some ((0 : Int32), T') := by
      unfold h_R_cycle
      rw [e1, obd_some, if_pos rfl, w1, obd_some, w2.2.2.1]
    have cpre : c_B_cycle N bx (i32 s) a2 a3 C = if a2 < 0 then some ((0 : Int32), C') else if a2 < i32 q.2.1 then (if a3 = 0 then (obd (c_DeadCycles_leastOf (A 2 0) a2 C') fun x11 => some (x11, C')) else if a3 = 1 then (obd (c_DeadCycles_lengthOf (A 2 0) a2 C') fun x14 => some (x14, C')) else if a3 = 2 then (obd (c_DeadCycles_basinOf (A 2 0) a2 C') fun x17 => some (x17, C')) else some ((0 : Int32), C')) else some ((0 : Int32), C') := by
      unfold c_B_cycle
      rw [rb_dead hb, obd_some, ho, jgd_true, e2, obd_some, obd_some, hod, jgd_true, u1, cbd2_some, if_pos rfl, ed, obd_some, obd_some, g36, obd_some]
      simp only [obd_some, hod', jgd_true]
    cases hin : g_R_in a2 (0 : Int32) (i32 q.2.1 - (1 : Int32)) with
    | true =>
      obtain ⟨k, hk, rfl⟩ := (in_i32 (by omega)).mp hin
      rw [hin, if_pos rfl] at epre
      rw [if_neg (i32_nonneg (by omega)), if_pos (by rw [i32_lt (by omega) (by omega)]; omega)] at cpre
      obtain ⟨v0, v1, v2, v3⟩ := cnt_rank (g := isL Z q) (n := Z) (k := k) (by rw [cnt_isL hq]; exact hk)
      have h40 := cyc40_go (N := N) (a3 := a3) hZ hq w2 v1 v2 v3 v0 N 0 (by omega) (by omega)
      have h0 : cnt (isL Z q) 0 = 0 := rfl
      rw [h0, Nat.sub_zero] at h40
      have h40 : h_R_cycle_40 N N a3 (-1 : Int32) (i32 k) (0 : Int32) T' = _ := h40
      rw [h40] at epre
      obtain ⟨w, x1, x2⟩ := (isL_iff hq v1).mp v2
      have x3 : q.1 v0 - (Z + 1) = w := by rw [← x2]; exact (isL_w hq x1).2
      rw [x3] at epre
      obtain ⟨y1, y2⟩ := u5.2 v0 v1 v2
      rw [v3] at y1 y2
      rw [x3] at y2
      obtain ⟨z1, z2, z3⟩ := w2.2.2.2 w x1
      have jw : jrg 65536 (i32 w) = some w := jrg_i32 (by omega) (by decide)
      have hos : c_DeadCycles_ownerOf (A 2 0) (i32 k) C' = some (i32 v0) := by rw [owner_of u4 (by omega), y1]
      have hta : c_DeadCycles_tallyOf (A 2 0) (i32 k) C' = some (tl q.2.2.2.1 q.2.2.2.2 w) := by rw [tally_of u4 (by omega), y2]
      have hsi := hq.2.2.2.1 w x1
      have htp := (tl_pos hZ hq x1).1
      unfold h_R_cycle_100 at epre
      by_cases c0 : a3 = 0
      · rw [if_pos c0, jw, obd_some, z1, x2] at epre
        rw [if_pos c0] at cpre
        refine ⟨i32 v0 - 32768, C', T', ?_, epre, hJ⟩
        rw [cpre]
        unfold c_DeadCycles_leastOf
        rw [hod', jgd_true, hos, obd_some, obd_some, Int32.sub_eq_add_neg]
      · rw [if_neg c0] at epre cpre
        by_cases c1 : a3 = 1
        · rw [if_pos c1, jw, obd_some, z2] at epre
          rw [if_pos c1] at cpre
          refine ⟨_, C', T', ?_, epre, hJ⟩
          rw [cpre]
          unfold c_DeadCycles_lengthOf
          rw [hod', jgd_true, hta, obd_some, obd_some, tl_len]
        · rw [if_neg c1] at epre cpre
          by_cases c2 : a3 = 2
          · rw [if_pos c2, jw, obd_some, z3] at epre
            rw [if_pos c2] at cpre
            refine ⟨_, C', T', ?_, epre, hJ⟩
            rw [cpre]
            unfold c_DeadCycles_basinOf
            rw [hod', jgd_true, hta, obd_some, obd_some, tl_bas (by omega) htp]
          · rw [if_neg c2] at epre cpre
            exact ⟨0, C', T', cpre, epre, hJ⟩
    | false =>
      rw [hin, if_neg (by decide)] at epre
      refine ⟨0, C', T', ?_, epre, hJ⟩
      rw [cpre]
      by_cases c0 : a2 < 0
      · rw [if_pos c0]
      · rw [if_neg c0]
        by_cases c1 : a2 < i32 q.2.1
        · exfalso
          rcases i32_or a2 with h | ⟨k, hk, rfl⟩
          · exact c0 h
          · rw [(in_i32 (by omega)).mpr ⟨k, by rw [i32_lt hk (by omega)] at c1; omega, rfl⟩] at hin
            cases hin
        · rw [if_neg c1]
  · refine ⟨0, C, T, ?_, ?_, S, A, J⟩
    · unfold c_B_cycle
      rw [rb_dead hb, obd_some, ho, jgd_true, e2, obd_some, obd_some, hod, jgd_true, e3, cbd2_some, if_neg (by decide)]
    · unfold h_R_cycle
      rw [e1, obd_some, if_neg (by decide)]
end SIMCYCS
