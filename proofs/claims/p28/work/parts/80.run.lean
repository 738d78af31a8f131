/-! values run -/
section RUN
variable {G : GT} {E B bx m c : Nat} {ad : Nat → Nat} {S : ST} {A : AT} {C : CT} {T : MT}
theorem fit_k {f : FP.Core.Fmt} (hf : Fq f) {s : Bool} {M : Nat} (h1 : 1 ≤ M) (h2 : M < 2 ^ 17) {e : Int} (he : -8 ≤ e) (he' : e ≤ 0) : ∃ k : Nat, k ≤ 52 ∧ FP.Core.fits f (.fin s (M * 2 ^ k) (e - k)) := by
  have l1 := Nat.log2_self_le (show M ≠ 0 by omega)
  have l2 := Nat.lt_log2_self (n := M)
  have l3 : M.log2 < 17 := (Nat.pow_lt_pow_iff_right (by decide : 1 < 2)).mp (Nat.lt_of_le_of_lt l1 h2)
  generalize M.log2 = L at *
  have up : ∀ n : Nat, L ≤ n → M * 2 ^ (n - L) < 2 ^ (n + 1) ∧ 2 ^ n ≤ M * 2 ^ (n - L) := fun n hn => by
    constructor
    · calc M * 2 ^ (n - L) < 2 ^ (L + 1) * 2 ^ (n - L) := Nat.mul_lt_mul_of_pos_right l2 (Nat.two_pow_pos _)
        _ = 2 ^ (n + 1) := by rw [← Nat.pow_add]; congr 1; omega
    · calc 2 ^ n = 2 ^ L * 2 ^ (n - L) := by rw [← Nat.pow_add]; congr 1; omega
        _ ≤ M * 2 ^ (n - L) := Nat.mul_le_mul_right _ l1
  rcases hf with rfl | rfl
  · refine ⟨52 - L, by omega, (up 52 (by omega)).1, ?_, ?_, Or.inr (up 52 (by omega)).2⟩
    · show (-1074 : Int) ≤ _
      omega
    · show _ ≤ (971 : Int)
      omega
  · refine ⟨23 - L, by omega, (up 23 (by omega)).1, ?_, ?_, Or.inr (up 23 (by omega)).2⟩
    · show (-149 : Int) ≤ _
      omega
    · show _ ≤ (104 : Int)
      omega
theorem exact_k {f : FP.Core.Fmt} (hf : Fq f) {s : Bool} {M : Nat} (h1 : 1 ≤ M) (h2 : M < 2 ^ 17) {e : Int} (he : -8 ≤ e) (he' : e ≤ 0) : ∃ k : Nat, k ≤ 52 ∧ FP.Core.roundRatio f s M 1 e = .fin s (M * 2 ^ k) (e - k) := by
  obtain ⟨k, k1, k2⟩ := fit_k hf (s := s) h1 h2 he he'
  refine ⟨k, k1, FP.Core.roundRatio_exact (fq_good hf) (by decide) k2 ?_⟩
  rw [show (e - (e - (k : Int))).toNat = k by omega, show ((e - (k : Int)) - e).toNat = 0 by omega, Nat.pow_zero, Nat.mul_one, Nat.mul_one]
theorem wide_8 {so : Nat} (h2 : so < 2) {s : Bool} {M : Nat} (h1 : 1 ≤ M) (hM : M < 2 ^ 17) : wd so (FP.Core.roundRatio (fm so) s M 1 (-8)) = FP.Core.roundRatio FP.Core.b64 s M 1 (-8) := by
  match so, h2 with
  | 0, _ => rfl
  | 1, _ =>
    obtain ⟨k, -, k2⟩ := exact_k (Or.inr rfl : Fq FP.Core.b32) (s := s) h1 hM (e := -8) (by decide) (by decide)
    show FP.Core.round FP.Core.b64 (FP.Core.roundRatio FP.Core.b32 s M 1 (-8)) = _
    rw [k2]
    show FP.Core.roundRatio FP.Core.b64 s (M * 2 ^ k) 1 (-8 - k) = _
    refine FP.Core.roundRatio_congr (by decide) (by decide) ?_
    rw [show ((-8 - (k : Int)) - -8).toNat = 0 by omega, show ((-8 : Int) - (-8 - (k : Int))).toNat = k by omega, Nat.pow_zero, Nat.mul_one, Nat.mul_one, Nat.mul_one]
theorem part_256 {a : Int32} {s : Bool} {M : Nat} (hs : s = decide (a.toInt < 0)) (hMa : M = a.toInt.natAbs) (h1 : 1 ≤ M) (hM : M < 2 ^ 17) : FP.Core.val64 (FP.ddiv (FP.i2d a) 0x4070000000000000) = FP.Core.roundRatio FP.Core.b64 s M 1 (-8) := by
  rw [FP.Core.val64_ddiv, FP.Core.val64_i2d]
  have e0 : FP.Core.val64 0x4070000000000000 = .fin false (2 ^ 52) (-44) := by decide +kernel
  obtain ⟨k, k1, k2⟩ := exact_k (Or.inl rfl : Fq FP.Core.b64) (s := s) h1 hM (e := 0) (by decide) (by decide)
  have e1 : FP.Core.round FP.Core.b64 (FP.Core.ofInt a.toInt) = .fin s (M * 2 ^ k) (0 - k) := by
    rw [← k2, hs, hMa]; rfl
  rw [e0, e1]
  show (if (2 ^ 52 : Nat) = 0 then (if M * 2 ^ k = 0 then FP.Core.Datum.nan else FP.Core.Datum.inf (s != false)) else FP.Core.roundRatio FP.Core.b64 (s != false) (M * 2 ^ k) (2 ^ 52) (0 - (k : Int) - -44)) = _
  rw [if_neg (by decide), show (s != false) = s by cases s <;> rfl]
  refine FP.Core.roundRatio_congr (by decide) (by decide) ?_
  rw [show ((0 - (k : Int) - -44) - -8).toNat = 52 - k by omega, show ((-8 : Int) - (0 - (k : Int) - -44)).toNat = 0 by omega, Nat.pow_zero, Nat.mul_one, Nat.mul_one, Nat.mul_assoc, ← Nat.pow_add, show k + (52 - k) = 52 by omega]
theorem sample_real {so : Nat} (hb : RCb S A C bx) (h2 : so < 2) {a : Int32} (ha : a.toInt.natAbs < 2 ^ 17) : ∃ b, c_Real_sample (A 5 so) a C = some b ∧ vb so b ∧ jnD (FP.ddiv (FP.i2d a) 0x4070000000000000) = some (dv so b) := by
  have hp := rp_of hb h2
  have ht : cob C (A 5 so) 5 = true := cob_of (ci := 5) hp.1
  have hi : (Int32.toInt64 a).toInt = a.toInt := Int32.toInt_toInt64 a
  have z0 : (0 : Int64).toInt = 0 := rfl
  unfold c_Real_sample c_Real_scaled
  rw [ht, jgd_true]
  by_cases h0 : a.toInt = 0
  · have : a = 0 := Int32.toInt_inj.mp h0
    subst this
    refine ⟨0, ?_, vb_zero _, ?_⟩
    · rw [if_pos (by rfl), obd_some]
    · rw [dv_zero]
      decide +kernel
  · have n0 : ¬ Int32.toInt64 a = (0 : Int64) := fun q => h0 (by rw [← hi, q]; rfl)
    have h1 : 1 ≤ a.toInt.natAbs := by omega
    have hf := fq_fm so
    have key : ∀ s, s = decide (a.toInt < 0) → ∃ b, c_Real_packed (A 5 so) s (-8 : Int32) (j64 a.toInt.natAbs) C = some b ∧ vb so b ∧ jnD (FP.ddiv (FP.i2d a) 0x4070000000000000) = some (dv so b) := by
      intro s hs
      have hD := FP.Core.roundRatio_fits (fq_good hf) s a.toInt.natAbs (B := 1) (by decide) (-8)
      obtain ⟨k, -, hk⟩ := exact_k hf (s := s) h1 ha (e := -8) (by decide) (by decide)
      have hn : FP.Core.roundRatio (fm so) s a.toInt.natAbs 1 (-8) ≠ .nan := by rw [hk]; exact fun q => by cases q
      refine ⟨_, packed_of hf hp h1 (by omega) (x := -8) rfl (by omega), ev_vb h2 hD, ?_⟩
      have e : FP.ddiv (FP.i2d a) 0x4070000000000000 = rv64 so (FP.Core.roundRatio (fm so) s a.toInt.natAbs 1 (-8)) := by
        have hv := part_256 hs rfl h1 ha
        obtain ⟨k', -, hk'⟩ := exact_k (Or.inl rfl : Fq FP.Core.b64) (s := s) h1 ha (e := -8) (by decide) (by decide)
        apply FP.Core.val64_inj
        · rw [hv, hk']; exact fun q => by cases q
        · rw [hv, val_rv h2 hD, wide_8 h2 h1 ha]
      rw [dv_ev h2 hD, e, jnD_pos ((n64_rv h2 hD).mpr hn)]
    rw [if_neg n0]
    by_cases hneg : a.toInt < 0
    · obtain ⟨b, b1, b2, b3⟩ := key true (decide_eq_true hneg).symm
      refine ⟨b, ?_, b2, b3⟩
      have ge : ¬ (0 : Int64) ≤ Int32.toInt64 a := by
        rw [Int64.le_iff_toInt_le, hi, z0]; omega
      have eabs : g_JMath_abs (Int32.toInt64 a) = j64 a.toInt.natAbs := by
        unfold g_JMath_abs
        rw [if_neg ge]
        apply Int64.toInt_inj.mp
        rw [j64_toInt (by omega), Int64.toInt_neg, hi, Int.bmod_eq_of_le (by omega) (by omega)]
        omega
      rw [if_neg ge]
      unfold c_Real_scaled_22
      rw [ht, jgd_true, eabs, b1, obd_some, obd_some]
    · obtain ⟨b, b1, b2, b3⟩ := key false (decide_eq_false hneg).symm
      refine ⟨b, ?_, b2, b3⟩
      have ge : (0 : Int64) ≤ Int32.toInt64 a := by
        rw [Int64.le_iff_toInt_le, hi, z0]; omega
      have eabs : g_JMath_abs (Int32.toInt64 a) = j64 a.toInt.natAbs := by
        unfold g_JMath_abs
        rw [if_pos ge]
        apply Int64.toInt_inj.mp
        rw [j64_toInt (by omega), hi]
        omega
      rw [if_pos ge]
      unfold c_Real_scaled_22
      rw [ht, jgd_true, eabs, b1, obd_some, obd_some]
theorem short_le (v : Int32) : -32768 ≤ (Int16.toInt32 (Int32.toInt16 v)).toInt ∧ (Int16.toInt32 (Int32.toInt16 v)).toInt ≤ 32767 := by
  rw [Int16.toInt_toInt32]
  exact ⟨Int16.le_toInt _, by have := Int16.toInt_lt (Int32.toInt16 v); omega⟩
/-- one sample -/
theorem sample_ref {so : Nat} (hb : RCb S A C bx) (h3 : so < 3) (v : Int32) : ∃ b, (if cob C (A 5 so) 5 = true then c_Real_sample (A 5 so) (Int16.toInt32 (Int32.toInt16 v)) C else jgd (cob C (A 5 so) 8) (some (g_Shorts_sample (A 5 so) (Int16.toInt32 (Int32.toInt16 v))))) = some b ∧ vb so b ∧
    (if so = 2 then some (FP.i2d (Int16.toInt32 (Int32.toInt16 v))) else jnD (FP.ddiv (FP.i2d (Int16.toInt32 (Int32.toInt16 v))) 0x4070000000000000)) = some (dv so b) := by
  obtain ⟨s1, s2⟩ := short_le v
  generalize Int16.toInt32 (Int32.toInt16 v) = a at *
  by_cases h2 : so < 2
  · obtain ⟨b, b1, b2, b3⟩ := sample_real hb h2 (a := a) (by omega)
    exact ⟨b, by rw [if_pos (cob_of (ci := 5) (rp_of hb h2).1), b1], b2, by rw [if_neg (by omega), b3]⟩
  · have : so = 2 := by omega
    subst this
    refine ⟨Int32.toInt64 a, ?_, ⟨?_, ?_⟩, ?_⟩
    · rw [if_neg (by rw [(shorts_cob hb).1]; decide), (shorts_cob hb).2, jgd_true]; rfl
    · rw [Int64.le_iff_toInt_le, Int32.toInt_toInt64]; exact s1
    · rw [Int64.le_iff_toInt_le, Int32.toInt_toInt64]; exact s2
    · rw [if_pos rfl]
      show some (UInt64.ofNat (FP.Core.fromInt _ a.toInt)) = some (UInt64.ofNat (FP.Core.fromInt _ (Int32.toInt64 a).toInt))
      rw [Int32.toInt_toInt64]
theorem run_go {N M n : Nat} (hM : 30 ≤ M) (hN : 100 ^ (12 * M) ≤ N) (hE : E + 6400 ≤ 4000000) (hn : n ≤ 100) : ∀ (q nn i : Nat) (acc seed : Int32) (S : ST) (C : CT) (T : MT), JJ G (E + 64 * i) B bx m ad S A C T → c < S.1 16 0 → S.1 17 c ≠ 0 → i + q = n → q < nn →
    ∃ r S' C' T', c_B_run_52 N M nn (i32 n) (A 1 c) (A 5 (cso S c)) acc seed (i32 i) C = some (r, C') ∧ h_R_run_29 N nn (i32 c) (i32 n) acc seed (i32 i) T = some (r, T') ∧ JJ G (E + 6400) B bx m ad S' A C' T'
  | 0, nn, i, acc, seed, S, C, T, J, hc, h17, hq, hnn => by
    obtain ⟨nn, rfl⟩ : ∃ k, nn = k + 1 := ⟨nn - 1, by omega⟩
    have hle : i32 n ≤ i32 i := by rw [i32_le (by omega) (by omega)]; omega
    refine ⟨acc, S, C, T, ?_, ?_, jj_mono J (by omega)⟩
    · show (if i32 n ≤ i32 i then _ else _) = _
      rw [if_pos hle]
    · show (if i32 n ≤ i32 i then _ else _) = _
      rw [if_pos hle]
  | q + 1, nn, i, acc, seed, S, C, T, J, hc, h17, hq, hnn => by
    obtain ⟨nn, rfl⟩ : ∃ k, nn = k + 1 := ⟨nn - 1, by omega⟩
    have hle : ¬ i32 n ≤ i32 i := by rw [i32_le (by omega) (by omega)]; omega
    have hb := jj_b J
    have h3 := mem0_so J hc h17
    obtain ⟨-, s2⟩ := sort_of J hc
    rw [if_neg h17] at s2
    obtain ⟨b, b1, b2, b3⟩ := sample_ref hb h3 seed
    obtain ⟨out, S1, C1, T1, g1, g2, J1, dy⟩ := go_ref hM hN J hc h17 b2 (by omega)
    obtain ⟨r, S2, C2, T2, r1, r2, J2⟩ := run_go hM hN hE hn q nn (i + 1) (acc + i32 out) (seed * (1103515245 : Int32) + (12345 : Int32)) S1 C1 T1 (jj_mono J1 (by omega)) (by rw [dy.1 16 (by decide)]; exact hc) (by rw [dy.1 17 (by decide)]; exact h17) (by omega) (by omega)
    rw [dy_cso dy] at r1
    refine ⟨r, S2, C2, T2, ?_, ?_, J2⟩
    · show (if i32 n ≤ i32 i then _ else _) = _
      rw [if_neg hle, b1, obd_some, g1, cbd2_some]
      simp only [jlet]
      rw [show i32 i + 1 = i32 (i + 1) from i32_add i 1, r1]
    · show (if i32 n ≤ i32 i then _ else _) = _
      rw [if_neg hle]
      simp only [jlet]
      rw [s2, obd_some]
      by_cases h2 : cso S c = 2
      · rw [if_pos h2] at b3
        have b3' := Option.some.inj b3
        rw [if_pos (by rw [h2]; rfl)]
        unfold h_R_run_65
        rw [b3', g2, tbd2_some]
        simp only [jlet]
        rw [show i32 i + 1 = i32 (i + 1) from i32_add i 1, r2]
      · rw [if_neg h2] at b3
        rw [if_neg (show ¬ i32 (cso S c) = (2 : Int32) from i32_ne (b := 2) (by omega) (by decide) h2), b3, obd_some]
        unfold h_R_run_65
        rw [g2, tbd2_some]
        simp only [jlet]
        rw [show i32 i + 1 = i32 (i + 1) from i32_add i 1, r2]
theorem in_100 {v : Int32} : g_R_in v 1 100 = true ↔ ¬ v < (1 : Int32) ∧ v ≤ (100 : Int32) := by
  unfold g_R_in
  rw [← Int32.not_lt]
  by_cases h1 : v < 1
  · rw [if_pos h1]; exact ⟨fun q => (by cases q), fun q => absurd h1 q.1⟩
  · rw [if_neg h1]
    by_cases h2 : 100 < v
    · rw [if_pos h2]; exact ⟨fun q => (by cases q), fun q => absurd h2 q.2⟩
    · rw [if_neg h2]; exact ⟨fun _ => ⟨h1, h2⟩, fun _ => rfl⟩
theorem sim_run {N M : Nat} (hM : 30 ≤ M) (hN : 100 ^ (12 * M) ≤ N) (hN1 : 200 ≤ N) (hE : E + 6400 ≤ 4000000) : ls_9 N M bx (II G E B bx m ad) (II G (E + 6400) B bx m ad) := by
  rintro C T v w z ⟨S, A, J⟩
  have hb := jj_b J
  have ho : cob C bx 0 = true := cob_of (rb_tag hb)
  rcases fed_of J v with ⟨c, hc, rfl, h17, e1, e2⟩ | ⟨e1, e2⟩
  · have h3 := mem0_so J hc h17
    obtain ⟨s1, s2⟩ := sort_of J hc
    rw [if_neg h17] at s1 s2
    have hct := cob_of (ci := 1) (rc_tag (jj_c J hc))
    by_cases hin : g_R_in w 1 100 = true
    · obtain ⟨i1, i2⟩ := in_100.mp hin
      have hw : ∃ n, n ≤ 100 ∧ w = i32 n := by
        rcases i32_or w with h | ⟨n, hn, rfl⟩
        · exact absurd (show w < 1 from Int32.lt_of_lt_of_le h (by decide)) i1
        · refine ⟨n, ?_, rfl⟩
          rw [show (100 : Int32) = i32 100 from rfl, i32_le hn (by decide)] at i2
          exact i2
      obtain ⟨n, hn, rfl⟩ := hw
      obtain ⟨r, S', C', T', r1, r2, J'⟩ := run_go hM hN hE hn n N 0 0 z S C T J hc h17 (by omega) (by omega)
      refine ⟨r, C', T', ?_, ?_, S', A, J'⟩
      · unfold c_B_run
        rw [ho, jgd_true, e1, obd_some, jon_some, if_neg i1, if_pos i2, hct, jgd_true, s1, obd_some, jgd_true, numbersOf_some hb h3, obd_some, jon_some]
        exact r1
      · unfold h_R_run
        rw [e2, obd_some, if_pos (show true = true from rfl), if_pos hin]
        exact r2
    · refine ⟨-1, C, T, ?_, ?_, S, A, jj_mono J (by omega)⟩
      · unfold c_B_run
        rw [ho, jgd_true, e1, obd_some, jon_some]
        by_cases i1 : w < 1
        · rw [if_pos i1]
        · rw [if_neg i1, if_neg (fun i2 => hin (in_100.mpr ⟨i1, i2⟩))]
      · unfold h_R_run
        rw [e2, obd_some, if_pos (show true = true from rfl), if_neg hin]
  · refine ⟨-1, C, T, ?_, ?_, S, A, jj_mono J (by omega)⟩
    · unfold c_B_run
      rw [ho, jgd_true, e1, obd_some]
      rfl
    · unfold h_R_run
      rw [e2, obd_some, if_neg (by decide)]
end RUN
