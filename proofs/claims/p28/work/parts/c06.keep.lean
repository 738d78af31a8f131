/-! keep, told out; back and same of what was kept -/
section KEEPF
variable {G : GT} {E B bx m c : Nat} {ad : Nat → Nat} {S : ST} {A0 : AT} {C : CT}
/-- what a keep leaves as it was, and what it keeps of the chain's shape -/
def KPT (S S' : ST) (c : Nat) : Prop :=
  (∀ x, x ∉ [44, 45, 72, 73, 47, 50, 51, 52, 53] → S'.1 x = S.1 x) ∧ (∀ x, x ∉ [46, 48, 49] → S'.2.1 x = S.2.1 x) ∧ S'.2.2 = S.2.2 ∧
  (S'.1 44 0 = S.1 44 0 + 1 ∧ S'.1 45 (S.1 44 0) = c ∧ S'.1 72 (S.1 44 0) = (tre S c).1 ∧ (∀ i, i < 20 → S'.1 73 (20 * S.1 44 0 + i) = (tre S c).2 i) ∧
    ∀ i, i < (tre S c).1 → S'.1 51 (20 * S.1 44 0 + (tre S c).2 i) = S.1 17 ((tre S c).2 i) ∧ S'.1 52 (20 * S.1 44 0 + (tre S c).2 i) = S.1 20 ((tre S c).2 i))
theorem szN_no {x : Nat} (h : x ∉ [44, 45, 72, 73, 47, 50, 51, 52, 53]) : szN x = 0 := by
  simp only [List.mem_cons, List.not_mem_nil, or_false, not_or] at h
  unfold szN
  split <;> first | rfl | (exfalso; simp_all)
theorem szJ_no {x : Nat} (h : x ∉ [46, 48, 49]) : szJ x = 0 := by
  simp only [List.mem_cons, List.not_mem_nil, or_false, not_or] at h
  unfold szJ
  split <;> first | rfl | (exfalso; simp_all)
theorem o_keep {N : Nat} (hN : 100 ≤ N) (J0 : JF G E B bx m ad S A0 C) (hc : c < S.1 16 0) (h8 : S.1 44 0 < 8) : ∃ S' C', c_B_keep N bx (i32 c) C = some (i32 (S.1 44 0), C') ∧ JE G E B bx m ad S' C' ∧ KPT S S' c := by
  obtain ⟨T, hT⟩ : ∃ T, T = tOf S := ⟨_, rfl⟩
  have hb0 := jj_b J0
  have ho : cob C bx 0 = true := cob_of (rb_tag hb0)
  have hn8 := (jj_n J0).2.2
  have hk := chAt_some J0 hc
  unfold JF at J0
  rw [← hT] at J0
  obtain ⟨C1, u1, u2, u3, u4⟩ := gather_of hN J0 hc
  obtain ⟨A, J, hA, hfar, hdead⟩ := jj_norm u2
  have hH : TH A C1 (tre S c) := fun a ha => by
    have := u3 a ha
    rw [hA 3 3 (by decide), hA 1 _ (by decide)]; exact this
  obtain ⟨t, htt⟩ : ∃ t, t = tre S c := ⟨_, rfl⟩
  rw [← htt] at u1 u4 hH
  have hb := jj_b J
  have h20 := ti_bound u4 hc (jj_n J).2.1
  have htd : ∀ a, a < t.1 → t.2 a < S.1 16 0 := fun a ha => by have := u4.2.1 a ha; omega
  have hrm := rmV_le J htd t.1 (Nat.le_refl _)
  obtain ⟨k, hkk⟩ : ∃ k, k = S.1 44 0 := ⟨_, rfl⟩
  have hK : (ck C1).1 = (ck C1).1 := rfl
  -- the class
  have hva : ∀ t i, VA S t i → t ≠ 0 → A t i < (ck C1).1 := fun t i h h0 => (J.1.1.2.1 _ (va_tag J h h0)).2
  have hbx : bx < (ck C1).1 := (J.1.1.2.1 bx (by rw [hb.1.1]; decide)).2
  have Jk : JJ G E B bx m (adS ad (ad 0 + 100000)) S A (koC C1 (A 1 c) (3 * t.1) (rmV S t t.1)) T := by
    refine jj_else J (cw_koC J.1.1) (fun t i h h0 => koC_ag (hva t i h h0)) (fun hn i hi => koC_ag (hdead hn i hi)) (koC_ag hbx) ?_ ?_
    · obtain ⟨l1, l2, l3⟩ := J.1.2.1
      refine lsp_ad ⟨⟨?_, fun k hk => ?_⟩, ?_, fun k hk => ?_⟩
      · rw [(koC_ag l2).1]; exact l1.1
      · rw [(koC_ag (l3 k hk)).1]; exact l1.2 k hk
      · rw [koC_ck]; show m < (ck C1).1 + 3; omega
      · rw [koC_ck]; have := l3 k hk; show ad k < (ck C1).1 + 3; omega
    · intro z hz
      rw [(koC_ag (hva 2 0 rfl (by decide))).2.2.2.2.1] at hz
      have := J.1.2.2 z hz
      rw [koC_ck]
      show _ ∧ _
      have e0 : adS ad (ad 0 + 100000) 0 = ad 0 + 100000 := if_pos rfl
      rw [e0]
      constructor <;> omega
  have fa : ∀ x, (ck C1).1 ≤ x → x < (ck C1).1 + 10 → Fa bx S A (koC C1 (A 1 c) (3 * t.1) (rmV S t t.1)) x := fun x h1 h2 => ⟨by omega, fun t i h h0 => by have := hva t i h h0; omega, fun hn i hi => by
    rw [(koC_ag (hva 2 0 rfl (by decide))).2.2.2.2.1] at hn
    have := hdead hn i hi
    omega⟩
  have hHk : TH A (koC C1 (A 1 c) (3 * t.1) (rmV S t t.1)) t := fun a ha => by
    rw [(koC_ag (hva 3 3 (show (3 : Nat) < 4 by decide) (by decide))).2.2.2.2.1]; exact hH a ha
  obtain ⟨C2, w1, w2, w3⟩ := keep113_go (N := N) hN h20 htd t.1 N 0 _ Jk hHk koC_ko (fa _ (by omega) (by omega)) (fa _ (by omega) (by omega)) (by omega) (by omega) (fun x hx => absurd hx (Nat.not_lt_zero _))
  have J2 := jj_w2 Jk w2 (fa _ (by omega) (by omega)) (fa _ (by omega) (by omega)) (by rw [koC_ko.2.2.2.2.1]; decide) (by rw [koC_ko.2.2.2.2.2.2.1]; decide)
  have ko2 := ko_w2 (koC_ko (C := C1) (r := A 1 c) (L := 3 * t.1) (M := rmV S t t.1)) w2
  -- the reference
  have R0 : RT (gh S k c t) (tsI T 45 k (i32 c)) := rt_gh (jj_rt J0)
  have Jg := jj_gh J0 hkk R0
  have hg : ∀ x, x ∉ [45, 72, 73] → (gh S k c t).1 x = S.1 x := fun x hx => gh_k hx
  obtain ⟨T1, v1, v2, v3, v4⟩ := trees_of hN Jg (c := c) (by rw [hg 16 (by decide)]; exact hc)
  have etr : tre (gh S k c t) c = t := by
    have e0 : tre (gh S k c t) c = tre S c := by
      unfold tre hin
      rw [hg 17 (by decide), hg 10 (by decide), hg 18 (by decide)]
    exact e0.trans htt.symm
  rw [etr] at v3
  have hts : TS (gh S k c t) t := by
    have := ts_of J0 u4 hc
    unfold TS at this ⊢
    rw [hg 17 (by decide), hg 20 (by decide), hg 18 (by decide)]
    exact this
  obtain ⟨S1, T2, x1, x2, x3, x4, x5, x6⟩ := keep36_go (N := N) hN (k := k) (S0 := gh S k c t) (by omega) (by rw [hg 44 (by decide)]; exact hkk.symm) hts t.1 N 0 (gh S k c t) T1 v2 CC.refl v3 (by omega) (by omega)
  -- both
  have Jg2 := jj_gh (c := c) (t := t) J2 hkk (rt_tOf _)
  have Jc := jj_cc Jg2 (by rw [hg 44 (by decide)]; exact hkk) (by omega) x3 (rt_tOf S1)
  have e44 : S1.1 44 0 = k := by rw [cc_N x3 (x := 44) rfl, hg 44 (by decide)]; exact hkk.symm
  have ek1 : S1.1 1 = S.1 1 := by rw [cc_N x3 (x := 1) rfl, hg 1 (by decide)]
  have ek16 : S1.1 16 = S.1 16 := by rw [cc_N x3 (x := 16) rfl, hg 16 (by decide)]
  have ek20 : S1.1 20 = S.1 20 := by rw [cc_N x3 (x := 20) rfl, hg 20 (by decide)]
  have va1 : ∀ t i, VA S1 t i → VA S t i := fun t i h => by
    unfold VA at h ⊢
    rw [ek1, ek16, ek20, e44, hkk] at h
    exact h
  have hrk := rkb_new (K := (ck C1).1) (S' := S1) (S0 := gh S k c t) (X := C2) J hc u4 htt (by omega) rfl x3 (fun x hx => x5 x (Nat.zero_le _) hx) ko2 w3
  have hag32 : ∀ a, a ≠ bx → a ≠ A 3 2 → Ag C2 (kpC C2 bx (A 3 2) (ck C1).1 k) a := fun a h1 h2 => ag_csI (ag_csA (Ag.refl _ _) h2) h1
  have h32lt : A 3 2 < (ck C1).1 := hva 3 2 (show (2 : Nat) < 4 by decide) (by decide)
  have eck2 : ck C2 = ((ck C1).1 + 3, (ck C1).2 + 3 + 3 * t.1 + rmV S t t.1) := by
    have := congrArg (fun x : (Nat → Nat → Nat → Option Nat) × (Nat → Bool) × (Nat × Nat) => x.2.2) w2.2.2.2.2
    exact this.trans koC_ck
  have hrk' : RKb S1 (kpA A (ck C1).1 k) (kpC C2 bx (A 3 2) (ck C1).1 k) k := by
    have a0 := hag32 (ck C1).1 (by omega) (by omega)
    have a1 := hag32 ((ck C1).1 + 1) (by omega) (by omega)
    have a2 := hag32 ((ck C1).1 + 2) (by omega) (by omega)
    have p48 : kpA A (ck C1).1 k 48 k = (ck C1).1 := by simp [kpA]
    have p49 : kpA A (ck C1).1 k 49 k = (ck C1).1 + 1 := by simp [kpA]
    have p50 : kpA A (ck C1).1 k 50 k = (ck C1).1 + 2 := by simp [kpA]
    unfold RKb at hrk ⊢
    rw [p48, p49, p50] at hrk ⊢
    rw [a0.1, a1.1, a2.1, a1.2.1, a2.2.1, a0.2.2.2.2.1 48, a0.2.2.2.2.1 49, a0.2.2.2.2.1 50, a1.2.2.1 900, a2.2.2.2.1 900]
    exact hrk
  have hl2 := ad_lsp J2.1.2.1
  have R2 : RT (uN S1 44 0 (k + 1)) (tsI T2 44 0 (i32 (k + 1))) := by
    obtain ⟨a1, a2, a3, a4, a5, a6, a7, a8, a9, b1, b2, b3⟩ := x2
    have f1 : ∀ x, x ≠ 44 → (uN S1 44 0 (k + 1)).1 x = S1.1 x := fun x h => uN_k h
    have g1 : ∀ x, x ≠ 44 → (tsI T2 44 0 (i32 (k + 1))).1 x = T2.1 x := fun x h => funext fun j => by simp [tsI, up2, h]
    have ev : ∀ x, vso (uN S1 44 0 (k + 1)) x = vso S1 x := fun x => by unfold vso; rw [f1 2 (by decide), f1 3 (by decide)]
    have ec : ∀ x, cso (uN S1 44 0 (k + 1)) x = cso S1 x := fun x => by unfold cso; rw [f1 18 (by decide), f1 3 (by decide)]
    refine ⟨fun x hx j => ?_, fun x hx => ?_, fun x hx j => ?_, fun x hx j => ?_, a5, fun j => by rw [f1 3 (by decide)]; exact a6 j, fun j => by rw [ev]; exact a7 j, fun j => by rw [ec]; exact a8 j, fun j => by rw [ec]; exact a9 j, fun j => by rw [ec]; exact b1 j, fun j => by rw [ev]; exact b2 j, fun j => by rw [ec]; exact b3 j⟩
    · have : x ≠ 44 := fun z => by subst z; revert hx; decide
      rw [f1 x this, g1 x this]; exact a1 x hx j
    · by_cases z : x = 44
      · subst z
        simp [tsI, uN, up2]
      · rw [f1 x z, g1 x z]; exact a2 x hx
    · have : x ≠ 44 := fun z => by subst z; revert hx; decide
      rw [f1 x this, g1 x this]; exact a3 x hx j
    · have : x ≠ 44 := fun z => by subst z; revert hx; decide
      rw [g1 x this]; exact a4 x hx j
  have ro2 : RO (ad 0) B (uN S1 44 0 (k + 1)) A C2 := by
    intro z hz
    have f1 : ∀ x, x ≠ 44 → (uN S1 44 0 (k + 1)).1 x = S1.1 x := fun x h => uN_k h
    have f44 : (uN S1 44 0 (k + 1)).1 44 0 = k + 1 := by simp [uN, up2]
    rw [w2.2.2.2.2, (koC_ag (hva 2 0 rfl (by decide))).2.2.2.2.1] at hz
    have := J.1.2.2 z hz
    rw [f1 1 (by decide), f1 16 (by decide), f1 20 (by decide), f44, ek1, ek16, ek20, eck2]
    show (ck C1).1 + 3 + _ + _ + _ + _ + _ ≤ _ ∧ (ck C1).2 + 3 + 3 * t.1 + rmV S t t.1 + _ + _ + _ + _ + _ ≤ _
    rw [← hkk] at this
    omega
  have JFin := jj_kept (ad := ad) (K := (ck C1).1) (T' := tsI T2 44 0 (i32 (k + 1))) Jc e44.symm (by omega) (fun t i h => hfar t i (va1 t i h)) hrk' hl2 ro2 R2
  refine ⟨uN S1 44 0 (k + 1), kpC C2 bx (A 3 2) (ck C1).1 k, ?_, je_of JFin, ?_⟩
  · rw [← hkk]
    have e178 : c_B_keep_178 N bx (ck C1).1 C2 = some (i32 k, kpC C2 bx (A 3 2) (ck C1).1 k) := by
      have hb2 := jj_b J2
      have t32 := hb2.2.2.2.2.2.1
      have h8c : cgI (csA C2 900 (A 3 2) k (some (ck C1).1)) bx 0 8 = some (i32 (S.1 44 0)) := (show cgI C2 bx 0 8 = some (i32 (S.1 44 0)) from rb_keptCount hb2)
      unfold c_B_keep_178
      rw [rb_kepts hb2, obd_some, rb_keptCount hb2, obd_some, obd_some, ← hkk, cqA_of (n := 8) t32.1 (by decide) (show C2.1 (ck C1).1 = 3 + 1 from ko2.1) t32.2.1 (by omega) (by decide), obd_some, h8c, obd_some, ← hkk, cpI_of (ci := 0) (show (csA C2 900 (A 3 2) k (some (ck C1).1)).1 bx = 0 + 1 from hb2.1.1) (by decide) (by decide), obd_some]
      have e8 : cgI (csI (csA C2 900 (A 3 2) k (some (ck C1).1)) (16 * 0 + 8) bx 0 (i32 k + 1)) bx 0 8 = some (i32 (k + 1)) := by
        refine (if_pos (show C2.1 bx = 0 + 1 from hb2.1.1)).trans (congrArg some ?_)
        rw [show i32 k + 1 = i32 (k + 1) from i32_add k 1]
        simp [csI, up3]
      rw [e8, obd_some, show i32 (k + 1) - (1 : Int32) = i32 k from i32_sub (a := k + 1) (b := 1) (by omega), show i32 k + 1 = i32 (k + 1) from i32_add k 1]
      rfl
    have e94 : c_B_keep_94 N bx (A 1 c) (i32 t.1) (i32 (rmV S t t.1)) C1 = some (i32 k, kpC C2 bx (A 3 2) (ck C1).1 k) := by
      have hin := kinit_of (C := C1) (r := A 1 c) (L := 3 * t.1) (M := rmV S t t.1) (by omega) (by omega) (by omega)
      rw [show 3 * t.1 / 3 = t.1 by omega] at hin
      unfold c_B_keep_94 cnew
      dsimp only
      rw [show cfr C1 (3 + 1) 0 (jnfl 3) = cfr C1 4 0 3 from rfl, hin, obd_some]
      exact w1.trans e178
    unfold c_B_keep
    rw [ho, jgd_true, hk, obd_some, jon_some, rb_keptCount hb0, obd_some, if_neg (i32_nonneg (by omega)), obd_some, rb_kepts hb0, obd_some, obd_some, cal_of (n := 8) (by rw [hb0.2.2.2.2.2.1.1]; decide) hb0.2.2.2.2.2.1.2.1, obd_some, if_pos (by rw [i32_lt (by omega) (by decide)]; omega), jgd_true, u1, cbd2_some, ← hA 1 c (by decide)]
    exact (keep43_go hN J h20 hH htd t.1 N 0 (by omega) (by omega)).trans e94
  · have hgk : ∀ x, x ∉ [45, 72, 73] → (gh S k c t).1 x = S.1 x := hg
    unfold KPT
    rw [← hkk, ← htt]
    refine ⟨fun x hx => ?_, fun x hx => ?_, ?_, ?_, ?_, ?_, fun i hi => ?_, fun i hi => ?_⟩
    · funext j
      have hx' := hx
      simp only [List.mem_cons, List.not_mem_nil, or_false, not_or] at hx'
      rw [show (uN S1 44 0 (k + 1)).1 x = S1.1 x from uN_k hx'.1]
      rcases x3.1 x j with e | ⟨y, h1, -⟩
      · rw [e, hg x (by simp [hx'])]
      · rw [szN_no hx] at h1; exact absurd h1 (Nat.not_lt_zero _)
    · funext j
      rcases x3.2.1 x j with e | ⟨y, h1, -⟩
      · exact e
      · rw [szJ_no hx] at h1; exact absurd h1 (Nat.not_lt_zero _)
    · exact x3.2.2
    · simp [uN, up2]
    · show (uN S1 44 0 (k + 1)).1 45 k = c
      rw [show (uN S1 44 0 (k + 1)).1 45 = S1.1 45 from uN_k (by decide)]
      rcases x3.1 45 k with e | ⟨y, h1, -⟩
      · rw [e]; exact gh_45
      · exact absurd h1 (Nat.not_lt_zero _)
    · show (uN S1 44 0 (k + 1)).1 72 k = t.1
      rw [show (uN S1 44 0 (k + 1)).1 72 = S1.1 72 from uN_k (by decide)]
      rcases x3.1 72 k with e | ⟨y, h1, -⟩
      · rw [e]; exact gh_72
      · exact absurd h1 (Nat.not_lt_zero _)
    · show (uN S1 44 0 (k + 1)).1 73 (20 * k + i) = t.2 i
      rw [show (uN S1 44 0 (k + 1)).1 73 = S1.1 73 from uN_k (by decide)]
      rcases x3.1 73 (20 * k + i) with e | ⟨y, h1, -⟩
      · rw [e]; exact gh_73 hi
      · exact absurd h1 (Nat.not_lt_zero _)
    · obtain ⟨d1, d2, -⟩ := x5 i (Nat.zero_le _) hi
      rw [show (uN S1 44 0 (k + 1)).1 51 = S1.1 51 from uN_k (by decide), show (uN S1 44 0 (k + 1)).1 52 = S1.1 52 from uN_k (by decide)]
      unfold DN at d1 d2
      rw [show (gh S k c t).1 (srN 51) = S.1 17 from hg 17 (by decide)] at d1
      rw [show (gh S k c t).1 (srN 52) = S.1 20 from hg 20 (by decide)] at d2
      exact ⟨d1, d2⟩
/-- a chain with none within it is its own tree -/
theorem tri_none {inn : Nat → Nat → Nat} {d : Nat} : ∀ (q p : Nat) (t : TR), (∀ x, p ≤ x → x < p + q → inn d x = 0) → tri inn d q p t = t
  | 0, _, _, _ => rfl
  | q + 1, p, t, h => by
    show tri inn d q (p + 1) (if inn d p = 0 then t else tph t (inn d p - 1)) = t
    rw [if_pos (h p (by omega) (by omega))]
    exact tri_none q (p + 1) t (fun x h1 h2 => h x (by omega) (by omega))
theorem tre_alone (h : ∀ p, p < S.1 17 c → S.1 10 (S.1 18 (10 * c + p)) = 0) : tre S c = (1, fun _ => c) := by
  unfold tre
  show (if 0 < 1 then tro (S.1 17) (hin S) 20 1 (tri (hin S) c (S.1 17 c) 0 (1, fun _ => c)) else (1, fun _ => c)) = _
  rw [if_pos (by decide), tri_none _ _ _ (fun x _ h2 => h x (by omega))]
  show (if 1 < 1 then _ else _) = _
  rw [if_neg (by decide)]
theorem ba_13 {k j : Nat} {ps pl : Nat → Bool} (h : ps (j / 64) = true) : (baS S k ps pl).2.1 13 j = S.2.1 46 (3840 * k + j) := by
  simp [baS, h]
theorem ba_25 {k j : Nat} {ps pl : Nat → Bool} (h : pl (j / 64) = true) : (baS S k ps pl).2.1 25 j = S.2.1 49 (3840 * k + j) := by
  simp [baS, h]
theorem ba_26 {k j : Nat} {ps pl : Nat → Bool} (h : pl j = true) : (baS S k ps pl).1 26 j = S.1 50 (60 * k + j) := by
  simp [baS, h]
/-- what was kept of a chain with none within it comes back, and is the same -/
theorem o_back {N k : Nat} (hN : 100 ≤ N) (J : JF G E B bx m ad S A0 C) (hk : k < S.1 44 0) (hc : S.1 45 k = c) (ha : ∀ p, p < S.1 17 c → S.1 10 (S.1 18 (10 * c + p)) = 0) (h72 : S.1 72 k = 1) (h73 : S.1 73 (20 * k) = c) (h51 : S.1 51 (20 * k + c) = S.1 17 c) (h52 : S.1 52 (20 * k + c) = S.1 20 c) :
    ∃ C1, c_B_back N bx (i32 k) C = some (true, C1) ∧ ∃ C2, c_B_same N bx (i32 k) C1 = some (true, C2) ∧ CW B C1 ∧ (∃ S2, JE G E B bx m ad S2 C2) ∧ cob C1 bx 0 = true := by
  have n8 := (jj_n J).2.2
  have kat : ∀ {S : ST} {A : AT} {C : CT} {T : MT}, JJ G E B bx m ad S A C T → k < S.1 44 0 → c_B_keptAt bx (i32 k) C = some (some (A 48 k)) := fun {S A C T} J hk => by
    have n8 := (jj_n J).2.2
    rcases kept_of J (i32 k) with ⟨k', hk', e, -, e2⟩ | ⟨e1, -⟩
    · have : k = k' := (i32_inj (by omega) (by omega)).mp e
      subst this; exact e2
    · rw [jj_C J 44 (by decide), (in_i32 (n := S.1 44 0) (by omega)).mpr ⟨k, hk, rfl⟩] at e1; cases e1
  obtain ⟨t, C1, T1, r, htt, g1, g3, J1, hH, hM, hts, htd, hr⟩ := kept_both hN J hk
  have et : t = (1, fun _ => c) := by rw [htt, hc]; exact tre_alone ha
  have hf : FT S k t := by
    rw [et]
    refine ⟨h72, fun i hi => ?_⟩
    have : i = 0 := by have : i < 1 := hi; omega
    subst this
    exact ⟨h73, h51, h52⟩
  have hrt := hr.mpr hf
  have cpre : c_B_back N bx (i32 k) C = c_B_back_25 N N bx (A0 48 k) 0 0 C1 := by
    unfold c_B_back
    rw [cob_of (rb_tag (jj_b J)), jgd_true, kat J hk, obd_some, jon_some, jgd_true, g1, cbd2_some, hrt]
    rfl
  have rk1 := rk_of J1 hk
  have h20 := hts.1
  obtain ⟨v1, v2, v3⟩ := vk_of rk1 hf
  have hfr : ∀ t i, VA S t i → t ∈ [96, 68, 98] → A0 t i ≠ A0 50 k := fun t i h ht => ax_t J1.2.1 (show VA S 50 k from hk) h (Or.inl (fun q => by subst q; revert ht; decide))
  obtain ⟨ps, pl, C2, x1, x2, x3, x4⟩ := back25_go (b := A0 50 k) (L := rmV S t t.1) hN J1 h20 htd hfr hk hf.1 rfl (fun i hi => ksec_of rk1 hf hi) t.1 N 0 (fun _ => false) (fun _ => false) C1 T1 (by rw [ba_none]; exact J1) hH rk1.1.1 rk1.1.2.2.2 v1 v2 v3 (by omega) (by omega)
  -- the state that came back
  obtain ⟨S2, hS2⟩ : ∃ S2, S2 = baS S k ps pl := ⟨_, rfl⟩
  have d := (ba_dy : Dy S (baS S k ps pl))
  rw [← hS2] at x2 d
  have hk2 : k < S2.1 44 0 := by rw [d.1 44 (by decide)]; exact hk
  obtain ⟨t2, C3, T3, r3, htt3, y1, y3, J3, hH3, hM3, hts3, htd3, hr3⟩ := kept_both hN x2 hk2
  have et2 : t2 = (1, fun _ => c) := by
    rw [htt3, d.1 45 (by decide), hc]
    refine tre_alone fun p hp => ?_
    rw [d.1 10 (by decide), d.1 18 (by decide)]
    rw [d.1 17 (by decide)] at hp
    exact ha p hp
  have hf2 : FT S2 k t2 := by
    have := hf
    rw [et] at this
    rw [et2]
    unfold FT kch at this ⊢
    rw [d.1 72 (by decide), d.1 73 (by decide), d.1 51 (by decide), d.1 52 (by decide), d.1 17 (by decide), d.1 20 (by decide)]
    exact this
  have hrt3 := hr3.mpr hf2
  have t20 := hts3.1
  have rk3 := rk_of J3 hk2
  obtain ⟨z1, z2, z3⟩ := vk_of rk3 hf2
  obtain ⟨x, w1, w2⟩ := same25_go (k := k) hN J3 hts3.1 hH3 htd3 rk3.1.1 rk3.1.2.2.2 z1 z2 (by rw [chainCount_of J3 hk2, hf2.1]) z3 t2.1 N 0 (by omega) (by omega)
  have hx : x = true := by
    refine w2.mpr fun i _ hi => ?_
    have hi1 : i < 1 := by rw [et2] at hi; exact hi
    have e2 : t2.2 i = c := by rw [et2]
    rw [e2]
    have hps : ∀ p, p < S.1 17 c → ps (S.1 18 (10 * c + p)) = true := fun p hp => (x3 _).mpr (Or.inr ⟨0, p, Nat.le_refl _, by rw [et]; exact Nat.one_pos, by rw [et]; exact hp, by rw [et]⟩)
    have hpl : ∀ q, q < S.1 20 c → pl (3 * c + q) = true := fun q hq => (x4 _).mpr (Or.inr ⟨0, q, Nat.le_refl _, by rw [et]; exact Nat.one_pos, by rw [et]; exact hq, by rw [et]⟩)
    unfold SVc
    rw [d.1 17 (by decide), d.1 20 (by decide), d.1 18 (by decide)]
    refine ⟨fun p hp => ?_, fun q hq => ?_⟩
    · have h := hps p hp
      have hs := (mem_r J (by rw [← hc]; exact (rk_of J hk).2.1.1) hp).1
      have hl := rln_le J hs
      unfold SVs
      rw [dy_rln d, d.2.1 48 (by decide), d.1 47 (by decide), d.2.1 46 (by decide)]
      generalize S.1 18 (10 * c + p) = s at h hs hl ⊢
      refine ⟨?_, fun y hy => ?_⟩
      · rw [hS2]
        show _ = (if 15 = 15 ∧ ps s = true then S.2.1 48 (60 * k + s) else _)
        rw [if_pos ⟨rfl, h⟩]
      · have e14 : S2.1 14 s = S.1 47 (60 * k + s) := by rw [hS2]; exact if_pos ⟨rfl, h⟩
        rw [e14]
        have hm := Nat.mod_lt (S.1 47 (60 * k + s) + y) (show 0 < rln S s by omega)
        generalize (S.1 47 (60 * k + s) + y) % rln S s = z at hm
        rw [hS2]
        rw [ba_13 (by rw [show (64 * s + z) / 64 = s by omega]; exact h), show 3840 * k + (64 * s + z) = 64 * (60 * k + s) + z by omega]
    · have h := hpl q hq
      have hw := (lop_r J (by rw [← hc]; exact (rk_of J hk).2.1.1) hq).2.1
      unfold SVl
      rw [d.1 23 (by decide), d.2.1 49 (by decide), d.1 50 (by decide)]
      generalize 3 * c + q = l at h hw ⊢
      intro y hy
      have e26 : S2.1 26 l = S.1 50 (60 * k + l) := by rw [hS2]; exact ba_26 h
      rw [e26]
      have hm := Nat.mod_lt (S.1 50 (60 * k + l) + y) (show 0 < S.1 23 l by omega)
      have h64 : S.1 23 l ≤ 64 := hw.2.2.2.1
      generalize (S.1 50 (60 * k + l) + y) % S.1 23 l = z at hm
      rw [hS2]
      rw [ba_25 (by rw [show (64 * l + z) / 64 = l by omega]; exact h), show 3840 * k + (64 * l + z) = 64 * (60 * k + l) + z by omega]
  refine ⟨C2, cpre.trans x1, C3, ?_, x2.1.1, ⟨_, je_of J3⟩, cob_of (rb_tag (jj_b x2))⟩
  unfold c_B_same
  rw [cob_of (rb_tag (jj_b x2)), jgd_true, kat x2 hk2, obd_some, jon_some, jgd_true, y1, cbd2_some, hrt3]
  rw [hx] at w1
  exact w1
end KEEPF
