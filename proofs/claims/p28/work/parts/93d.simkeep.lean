/-! keep: the call -/
section SIMKEEP
variable {G : GT} {E B bx m k c : Nat} {ad : Nat → Nat} {S S' S0 : ST} {A : AT} {C C' : CT} {T T' : MT}
/-- more room -/
def adS (ad : Nat → Nat) (D : Nat) : Nat → Nat := fun k => if k = 0 then D else ad k
theorem lsp_ad {D : Nat} (h : lsp m ad C) : lsp m (adS ad D) C := by
  have z : ∀ k, k ∈ marrs → k ≠ 0 := by decide
  refine ⟨⟨h.1.1, fun k hk => ?_⟩, h.2.1, fun k hk => ?_⟩
  · unfold adS
    rw [if_neg (z k hk)]; exact h.1.2 k hk
  · unfold adS
    rw [if_neg (z k hk)]; exact h.2.2 k hk
theorem ad_lsp {D : Nat} (h : lsp m (adS ad D) C) : lsp m ad C := by
  have z : ∀ k, k ∈ marrs → k ≠ 0 := by decide
  refine ⟨⟨h.1.1, fun k hk => ?_⟩, h.2.1, fun k hk => ?_⟩
  · have := h.1.2 k hk
    unfold adS at this
    rw [if_neg (z k hk)] at this; exact this
  · have := h.2.2 k hk
    unfold adS at this
    rw [if_neg (z k hk)] at this; exact this
/-- the longs that are kept in all -/
def rmV (S : ST) (t : TR) (i : Nat) : Nat := sm (fun i => vcn S (t.2 i)) i
theorem rmV_le (J : JJ G E B bx m ad S A C T) {t : TR} (ht : ∀ a, a < t.1 → t.2 a < S.1 16 0) : ∀ n, n ≤ t.1 → rmV S t n ≤ 850 * n
  | 0, _ => Nat.le_refl _
  | n + 1, h => by
    have := rmV_le J ht n (by omega)
    have := vcn_le J (ht n (by omega))
    show rmV S t n + vcn S (t.2 n) ≤ _
    omega
theorem keep43_go {N : Nat} (hN : 100 ≤ N) {t : TR} (J : JJ G E B bx m ad S A C T) (h20 : t.1 ≤ 20) (hH : TH A C t) (ht : ∀ a, a < t.1 → t.2 a < S.1 16 0) {r : Nat} : ∀ (q g i : Nat), i + q = t.1 → q < g →
    c_B_keep_43 N g bx r (i32 t.1) (i32 (rmV S t i)) (i32 i) C = c_B_keep_94 N bx r (i32 t.1) (i32 (rmV S t t.1)) C
  | 0, 0, _, _, h => absurd h (by omega)
  | 0, g + 1, i, hi, _ => by
    have : i = t.1 := by omega
    unfold c_B_keep_43
    rw [if_pos (by rw [i32_le (by omega) (by omega)]; omega), this]
  | q + 1, 0, _, _, h => absurd h (by omega)
  | q + 1, g + 1, i, hi, hq => by
    have hb := jj_b J
    have hd := ht i (by omega)
    have hca : caA C (A 3 3) 1 (i32 i) = some (some (A 1 (t.2 i))) := by
      rw [caA_of (ci := 1) (n := 20) hb.2.2.2.2.2.2.1.1 (by decide) hb.2.2.2.2.2.2.1.2 (by omega) (by decide), hH i (by omega)]
    have ih := keep43_go hN J h20 hH ht (r := r) q g (i + 1) (by omega) (by omega)
    have e : rmV S t (i + 1) = rmV S t i + vcn S (t.2 i) := rfl
    unfold c_B_keep_43
    rw [if_neg (by rw [i32_le (by omega) (by omega)]; omega), rb_tree hb, obd_some, obd_some, cal_of (n := 20) (by rw [hb.2.2.2.2.2.2.1.1]; decide) hb.2.2.2.2.2.2.1.2, obd_some, if_neg (by rw [i32_le (by omega) (by omega)]; omega), obd_some, obd_some, hca, obd_some, jon_some, obd_some, obd_some, hca, obd_some, obd_some, cob_of (rc_tag (jj_c J hd)), jgd_true, cvc_of hN J hd, obd_some]
    unfold c_B_keep_85
    rw [i32_add, show i32 i + 1 = i32 (i + 1) from i32_add i 1, ← e]
    exact ih
/-- a chain's shape noted -/
def shC (C : CT) (a i d n l : Nat) : CT := csI (csI (csI C 900 a (3 * i) (i32 d)) 900 a (3 * i + 1) (i32 n)) 900 a (3 * i + 2) (i32 l)
theorem shape_of (J : JJ G E B bx m ad S A C T) {d K a i L : Nat} (hd : d < S.1 16 0) (tK : C.1 K = 4) (fK : C.2.2.2.2.1 49 K 0 = some a) (ta : C.1 a = 20) (la : C.2.1 a = L) (hL : L < 1000) (hi : 3 * i + 3 ≤ L) (hf : Fa bx S A C a) : c_Kept_shape K (i32 i) (some (A 1 d)) C = some (shC C a i d (S.1 17 d) (S.1 20 d)) := by
  have hr := jj_c J hd
  have e49 : ∀ C' : CT, C'.1 = C.1 → C'.2.2.2.2 = C.2.2.2.2 → cgA C' K 3 1 = some (some a) := fun C' h1 h2 => (if_pos (by rw [h1]; exact tK)).trans (congrArg some (by rw [h2]; exact fK))
  have ha1 : A 1 d ≠ a := hf.2.1 1 d hd (by decide)
  have e1 : cgI (csI C 900 a (3 * i) (i32 d)) (A 1 d) 1 2 = some (i32 (S.1 17 d)) := (cgI_ag (ag_csI (Ag.refl _ _) ha1)).trans (rc_size hr)
  have e2 : cgI (csI (csI C 900 a (3 * i) (i32 d)) 900 a (3 * i + 1) (i32 (S.1 17 d))) (A 1 d) 1 4 = some (i32 (S.1 20 d)) := (cgI_ag (ag_csI (ag_csI (Ag.refl _ _) ha1) ha1)).trans (rc_loopCount hr)
  have e3 : i32 i * (3 : Int32) = i32 (3 * i) := by rw [show (3 : Int32) = i32 3 from rfl, i32_mul, Nat.mul_comm]
  unfold c_Kept_shape
  rw [e3, if_neg (i32_nonneg (by omega)), e49 C rfl rfl, obd_some, obd_some, cal_of (n := L) (by rw [ta]; decide) la, obd_some, show i32 (3 * i) + (2 : Int32) = i32 (3 * i + 2) from i32_add _ 2, show i32 (3 * i) + (1 : Int32) = i32 (3 * i + 1) from i32_add _ 1, if_neg (by rw [i32_le (by omega) (by omega)]; omega), obd_some, obd_some, rc_number hr, obd_some, obd_some,
    cqI_of (n := L) ta la (by omega) (by omega), obd_some, e49 (csI C 900 a (3 * i) (i32 d)) rfl rfl, obd_some, e1, obd_some, obd_some, cqI_of (C := csI C 900 a (3 * i) (i32 d)) (n := L) ta la (by omega) (by omega), obd_some, e49 (csI (csI C 900 a (3 * i) (i32 d)) 900 a (3 * i + 1) (i32 (S.1 17 d))) rfl rfl, obd_some, e2, obd_some, obd_some, cqI_of (C := csI (csI C 900 a (3 * i) (i32 d)) 900 a (3 * i + 1) (i32 (S.1 17 d))) (n := L) ta la (by omega) (by omega), obd_some]
  rfl
theorem shC_w2 {a b i d n l : Nat} : W2 a b C (shC C a i d n l) := ⟨rfl, rfl, fun k x j q => by
  simp only [shC, csI, up3]
  rw [if_neg (fun z => q ⟨z.1, z.2.1⟩), if_neg (fun z => q ⟨z.1, z.2.1⟩), if_neg (fun z => q ⟨z.1, z.2.1⟩)], fun _ _ _ _ => rfl, rfl⟩
/-- what is noted of a chain's shape -/
def SHi (S : ST) (C : CT) (a i d : Nat) : Prop := C.2.2.1 900 a (3 * i) = i32 d ∧ C.2.2.1 900 a (3 * i + 1) = i32 (S.1 17 d) ∧ C.2.2.1 900 a (3 * i + 2) = i32 (S.1 20 d)
theorem shC_at {a i d : Nat} : SHi S (shC C a i d (S.1 17 d) (S.1 20 d)) a i d := by
  refine ⟨?_, ?_, ?_⟩ <;> simp [shC, csI, up3]
theorem shC_ne {a i i' d d' : Nat} (h : i' ≠ i) (hs : SHi S C a i' d') {n l : Nat} : SHi S (shC C a i d n l) a i' d' := by
  have e : ∀ y, y ≠ 3 * i → y ≠ 3 * i + 1 → y ≠ 3 * i + 2 → (shC C a i d n l).2.2.1 900 a y = C.2.2.1 900 a y := fun y h1 h2 h3 => by simp [shC, csI, up3, h1, h2, h3]
  exact ⟨by rw [e _ (by omega) (by omega) (by omega)]; exact hs.1, by rw [e _ (by omega) (by omega) (by omega)]; exact hs.2.1, by rw [e _ (by omega) (by omega) (by omega)]; exact hs.2.2⟩
theorem VSc_int {b x d a i d' n l : Nat} (h : VSc S C b x d) : VSc S (shC C a i d' n l) b x d := h
/-- what is known of the object under way -/
def KO (C : CT) (K a b r L M : Nat) : Prop := C.1 K = 4 ∧ C.2.2.2.2.1 48 K 0 = some r ∧ C.2.2.2.2.1 49 K 0 = some a ∧ C.2.2.2.2.1 50 K 0 = some b ∧ C.1 a = 20 ∧ C.2.1 a = L ∧ C.1 b = 21 ∧ C.2.1 b = M
theorem ko_w2 {K a b r L M a' b' : Nat} (h : KO C K a b r L M) (w : W2 a' b' C C') : KO C' K a b r L M := by
  unfold KO at h ⊢
  rw [w.1, w.2.1, w.2.2.2.2]; exact h
theorem keep113_go {N K a b r : Nat} (hN : 100 ≤ N) {t : TR} (h20 : t.1 ≤ 20) (ht : ∀ a, a < t.1 → t.2 a < S.1 16 0) : ∀ (q g i : Nat) (C : CT), JJ G E B bx m ad S A C T → TH A C t → KO C K a b r (3 * t.1) (rmV S t t.1) → Fa bx S A C a → Fa bx S A C b → i + q = t.1 → q < g → (∀ x, x < i → SHi S C a x (t.2 x) ∧ VSc S C b (rmV S t x) (t.2 x)) →
    ∃ C', c_B_keep_113 N g bx (i32 t.1) K (i32 (rmV S t i)) (i32 i) C = c_B_keep_178 N bx K C' ∧ W2 a b C C' ∧ ∀ x, x < t.1 → SHi S C' a x (t.2 x) ∧ VSc S C' b (rmV S t x) (t.2 x)
  | 0, 0, _, _, _, _, _, _, _, _, h, _ => absurd h (by omega)
  | 0, g + 1, i, C, J, hH, hk, ha, hb, hi, _, hd => by
    have : i = t.1 := by omega
    refine ⟨C, ?_, W2.refl, fun x hx => hd x (by omega)⟩
    unfold c_B_keep_113
    rw [if_pos (by rw [i32_le (by omega) (by omega)]; omega)]
  | q + 1, 0, _, _, _, _, _, _, _, _, h, _ => absurd h (by omega)
  | q + 1, g + 1, i, C, J, hH, hk, ha, hb, hi, hq, hd => by
    have hbb := jj_b J
    have hdi := ht i (by omega)
    have hrm := rmV_le J ht t.1 (Nat.le_refl _)
    have hm := sm_mono (f := fun i => vcn S (t.2 i)) (p := i + 1) (n := t.1) (by omega)
    have e : rmV S t (i + 1) = rmV S t i + vcn S (t.2 i) := rfl
    have hm : rmV S t (i + 1) ≤ rmV S t t.1 := hm
    have hca : caA C (A 3 3) 1 (i32 i) = some (some (A 1 (t.2 i))) := by
      rw [caA_of (ci := 1) (n := 20) hbb.2.2.2.2.2.2.1.1 (by decide) hbb.2.2.2.2.2.2.1.2 (by omega) (by decide), hH i (by omega)]
    have w1 : W2 a b C (shC C a i (t.2 i) (S.1 17 (t.2 i)) (S.1 20 (t.2 i))) := shC_w2
    have ta : C.1 a ≠ 0 := by rw [hk.2.2.2.2.1]; decide
    have tb : C.1 b ≠ 0 := by rw [hk.2.2.2.2.2.2.1]; decide
    have J1 := jj_w2 J w1 ha hb ta tb
    have k1 := ko_w2 hk w1
    obtain ⟨C2, u1, u2, u3⟩ := csave_of (x := rmV S t i) hN J1 hdi (w2_fa w1 hb) k1.2.2.2.2.2.2.1 k1.2.2.2.2.2.2.2 (by omega) (by omega)
    have w2 : W2 a b _ C2 := u2.w2
    have J2 := jj_w2 J1 w2 (w2_fa w1 ha) (w2_fa w1 hb) (by rw [w1.1]; exact ta) (by rw [w1.1]; exact tb)
    have hH2 : TH A C2 t := fun z hz => by rw [w2.2.2.2.2, w1.2.2.2.2]; exact hH z hz
    obtain ⟨C3, v1, v2, v3⟩ := keep113_go hN h20 ht q g (i + 1) C2 J2 hH2 (ko_w2 k1 w2) (w2_fa w2 (w2_fa w1 ha)) (w2_fa w2 (w2_fa w1 hb)) (by omega) (by omega) (fun x hx => by
      by_cases ex : x = i
      · subst ex
        refine ⟨?_, u3⟩
        have := shC_at (S := S) (C := C) (a := a) (i := x) (d := t.2 x)
        unfold SHi at this ⊢
        rw [u2.2.2.1]; exact this
      · obtain ⟨g1, g2⟩ := hd x (by omega)
        refine ⟨?_, (VSc_int g2).wb u2 ?_⟩
        · have := shC_ne (d := t.2 i) (n := S.1 17 (t.2 i)) (l := S.1 20 (t.2 i)) ex g1
          unfold SHi at this ⊢
          rw [u2.2.2.1]; exact this
        · have h1 := sm_mono (f := fun i => vcn S (t.2 i)) (p := x + 1) (n := i) (by omega)
          have h2 : rmV S t (x + 1) = rmV S t x + vcn S (t.2 x) := rfl
          have h1 : rmV S t (x + 1) ≤ rmV S t i := h1
          omega)
    refine ⟨C3, ?_, (w1.trans w2).trans v2, v3⟩
    have hb1 : RCb S A (shC C a i (t.2 i) (S.1 17 (t.2 i)) (S.1 20 (t.2 i))) bx := jj_b J1
    have hca1 : caA (shC C a i (t.2 i) (S.1 17 (t.2 i)) (S.1 20 (t.2 i))) (A 3 3) 1 (i32 i) = some (some (A 1 (t.2 i))) := hca
    have e50 : cgA (shC C a i (t.2 i) (S.1 17 (t.2 i)) (S.1 20 (t.2 i))) K 3 2 = some (some b) := (if_pos hk.1).trans (congrArg some hk.2.2.2.1)
    unfold c_B_keep_113
    rw [if_neg (by rw [i32_le (by omega) (by omega)]; omega), rb_tree hbb, obd_some, obd_some, cal_of (n := 20) (by rw [hbb.2.2.2.2.2.2.1.1]; decide) hbb.2.2.2.2.2.2.1.2, obd_some, if_neg (by rw [i32_le (by omega) (by omega)]; omega), obd_some, obd_some, hca, obd_some, jon_some, obd_some, obd_some, hca, obd_some, cob_of (ci := 3) hk.1, jgd_true,
      shape_of J hdi hk.1 hk.2.2.1 hk.2.2.2.2.1 hk.2.2.2.2.2.1 (by omega) (by omega) ha, obd_some, rb_tree hb1, obd_some, obd_some, hca1, obd_some, e50, obd_some, obd_some, cob_of (rc_tag (jj_c J1 hdi)), jgd_true, u1, cbd2_some]
    unfold c_B_keep_172
    rw [← e, show i32 i + 1 = i32 (i + 1) from i32_add i 1]
    exact v1
/-- the new object and its rows -/
def koC (C : CT) (r L M : Nat) : CT := csA (cfr (csA (cfr (csA (cfr C 4 0 3) 48 (ck C).1 0 (some r)) 20 L L) 49 (ck C).1 0 (some ((ck C).1 + 1))) 21 M M) 50 (ck C).1 0 (some ((ck C).1 + 2))
theorem kinit_of {r L M : Nat} (hL : L < 1000) (hM : M < 100000) (h3 : L % 3 = 0) : c_Kept_init (ck C).1 (some r) (i32 (L / 3)) (i32 M) (cfr C 4 0 3) = some (koC C r L M) := by
  have tK : (cfr C 4 0 3).1 (ck C).1 = 3 + 1 := by simp [cfr, up1]
  have e1 : ∀ n : Nat, n < 1000000 → (i32 n).toNatClampNeg = n := fun n h => i32_nat (by omega)
  have e3 : i32 (L / 3) * (3 : Int32) = i32 L := by rw [show (3 : Int32) = i32 3 from rfl, i32_mul]; congr 1; omega
  have c1 : cnI (i32 L) (csA (cfr C 4 0 3) 48 (ck C).1 0 (some r)) = some ((ck C).1 + 1, cfr (csA (cfr C 4 0 3) 48 (ck C).1 0 (some r)) 20 L L) := by
    unfold cnI
    rw [if_pos ⟨i32_nonneg (by omega), by rw [e1 L (by omega)]; omega⟩, e1 L (by omega)]
    rfl
  have c2 : ∀ D : CT, cnJ (i32 M) D = some ((ck D).1, cfr D 21 M M) := fun D => by
    unfold cnJ
    rw [if_pos ⟨i32_nonneg (by omega), by rw [e1 M (by omega)]; omega⟩, e1 M (by omega)]
  have tK2 : (cfr (csA (cfr C 4 0 3) 48 (ck C).1 0 (some r)) 20 L L).1 (ck C).1 = 3 + 1 := by
    show up1 (cfr C 4 0 3).1 ((ck C).1 + 1) 20 (ck C).1 = _
    unfold up1
    rw [if_neg (by omega)]; exact tK
  have tK3 : (cfr (csA (cfr (csA (cfr C 4 0 3) 48 (ck C).1 0 (some r)) 20 L L) 49 (ck C).1 0 (some ((ck C).1 + 1))) 21 M M).1 (ck C).1 = 3 + 1 := by
    show up1 (cfr (csA (cfr C 4 0 3) 48 (ck C).1 0 (some r)) 20 L L).1 ((ck C).1 + 1 + 1) 21 (ck C).1 = _
    unfold up1
    rw [if_neg (by omega)]; exact tK2
  have key36 : ∀ s0 : Int32, s0 = i32 M → c_Kept_init_36 s0 (ck C).1 (csA (cfr (csA (cfr C 4 0 3) 48 (ck C).1 0 (some r)) 20 L L) 49 (ck C).1 0 (some ((ck C).1 + 1))) = some (koC C r L M) := fun s0 hs => by
    subst hs
    unfold c_Kept_init_36
    rw [c2, cbd2_some, cpA_of (ci := 3) tK3 (by decide) (by decide), obd_some]
    rfl
  have key21 : ∀ s0 : Int32, s0 = i32 L → c_Kept_init_21 (ck C).1 (i32 M) s0 (ck C).1 (csA (cfr C 4 0 3) 48 (ck C).1 0 (some r)) = some (koC C r L M) := fun s0 hs => by
    subst hs
    unfold c_Kept_init_21
    rw [c1, cbd2_some, cpA_of (ci := 3) tK2 (by decide) (by decide), obd_some]
    by_cases g : (0 : Int32) ≤ i32 M
    · rw [if_pos g]; exact key36 _ rfl
    · exact absurd ((i32_le (a := 0) (by decide) (by omega)).mpr (Nat.zero_le _)) g
  unfold c_Kept_init
  rw [cpA_of (ci := 3) tK (by decide) (by decide), obd_some, e3]
  by_cases g : (0 : Int32) ≤ i32 (L / 3)
  · rw [if_pos g]; exact key21 _ rfl
  · exact absurd ((i32_le (a := 0) (by decide) (by omega)).mpr (Nat.zero_le _)) g
theorem koC_ag {r L M a : Nat} (h : a < (ck C).1) : Ag C (koC C r L M) a := by
  have n0 : a ≠ (ck C).1 := by omega
  have n1 : a ≠ (ck C).1 + 1 := by omega
  have n2 : a ≠ (ck C).1 + 1 + 1 := by omega
  refine ⟨?_, ?_, fun _ => rfl, fun _ => rfl, fun k => ?_, rfl⟩
  · show up1 (up1 (up1 C.1 (ck C).1 4) ((ck C).1 + 1) 20) ((ck C).1 + 1 + 1) 21 a = C.1 a
    simp [up1, n0, n1, n2]
  · show up1 (up1 (up1 C.2.1 (ck C).1 0) ((ck C).1 + 1) L) ((ck C).1 + 1 + 1) M a = C.2.1 a
    simp [up1, n0, n1, n2]
  · funext j
    simp [koC, csA, cfr, up3, n0]
theorem koC_ko {r L M : Nat} : KO (koC C r L M) (ck C).1 ((ck C).1 + 1) ((ck C).1 + 2) r L M := by
  refine ⟨?_, ?_, ?_, ?_, ?_, ?_, ?_, ?_⟩
  · show up1 (up1 (up1 C.1 (ck C).1 4) ((ck C).1 + 1) 20) ((ck C).1 + 1 + 1) 21 (ck C).1 = 4
    simp [up1]
    omega
  · simp [koC, csA, up3, cfr]
  · simp [koC, csA, up3, cfr]
  · simp [koC, csA, up3, cfr]
  · show up1 (up1 (up1 C.1 (ck C).1 4) ((ck C).1 + 1) 20) ((ck C).1 + 1 + 1) 21 ((ck C).1 + 1) = 20
    simp [up1]
  · show up1 (up1 (up1 C.2.1 (ck C).1 0) ((ck C).1 + 1) L) ((ck C).1 + 1 + 1) M ((ck C).1 + 1) = L
    simp [up1]
  · show up1 (up1 (up1 C.1 (ck C).1 4) ((ck C).1 + 1) 20) ((ck C).1 + 1 + 1) 21 ((ck C).1 + 2) = 21
    simp [up1]
  · show up1 (up1 (up1 C.2.1 (ck C).1 0) ((ck C).1 + 1) L) ((ck C).1 + 1 + 1) M ((ck C).1 + 2) = M
    simp [up1]
theorem koC_ck {r L M : Nat} : ck (koC C r L M) = ((ck C).1 + 3, (ck C).2 + 3 + L + M) := rfl
theorem cw_koC {r L M : Nat} (hw : CW B C) : CW B (koC C r L M) := by
  have h1 : CW B (cfr C 4 0 3) := cw_fr hw
  have t1 : (cfr C 4 0 3).1 (ck C).1 ≠ 0 := by simp [cfr, up1]
  have h2 : CW B (cfr (csA (cfr C 4 0 3) 48 (ck C).1 0 (some r)) 20 L L) := cw_fr (cw_csA h1 t1)
  have t2 : (cfr (csA (cfr C 4 0 3) 48 (ck C).1 0 (some r)) 20 L L).1 (ck C).1 ≠ 0 := by
    show up1 (cfr C 4 0 3).1 ((ck C).1 + 1) 20 (ck C).1 ≠ 0
    unfold up1
    rw [if_neg (by omega)]; exact t1
  have h3 : CW B (cfr (csA (cfr (csA (cfr C 4 0 3) 48 (ck C).1 0 (some r)) 20 L L) 49 (ck C).1 0 (some ((ck C).1 + 1))) 21 M M) := cw_fr (cw_csA h2 t2)
  refine cw_csA h3 ?_
  show up1 (cfr (csA (cfr C 4 0 3) 48 (ck C).1 0 (some r)) 20 L L).1 ((ck C).1 + 1 + 1) 21 (ck C).1 ≠ 0
  unfold up1
  rw [if_neg (by omega)]; exact t2
/-- what is kept as k, once it is written -/
theorem rkb_new {K : Nat} {t : TR} {X : CT} (J : JJ G E B bx m ad S A C T) (hc : c < S.1 16 0) (hti : TI S c t 21 0) (htt : t = tre S c) (h8 : k < 8) (h45 : S0 = gh S k c t) (hcc : CC S0 S' k) (hkd : ∀ x, x < t.1 → KD S0 S' k (t.2 x))
    (ko : KO X K (K + 1) (K + 2) (A 1 c) (3 * t.1) (rmV S t t.1)) (hsv : ∀ x, x < t.1 → SHi S X (K + 1) x (t.2 x) ∧ VSc S X (K + 2) (rmV S t x) (t.2 x)) : RKb S' (kpA A K k) X k := by
  have h20 := ti_bound hti hc (jj_n J).2.1
  have hg : ∀ x, x ∉ [45, 72, 73] → S0.1 x = S.1 x := fun x hx => by rw [h45]; exact gh_k hx
  have hN : ∀ x, szN x = 0 → x ∉ [45, 72, 73] → S'.1 x = S.1 x := fun x h1 h2 => (cc_N hcc h1).trans (hg x h2)
  have hJ0 : S0.2 = S.2 := by rw [h45]; rfl
  have e45 : S'.1 45 k = c := by rw [cc_N hcc (x := 45) rfl, h45]; exact gh_45
  have e72 : S'.1 72 k = t.1 := by rw [cc_N hcc (x := 72) rfl, h45]; exact gh_72
  have e73 : ∀ i, i < t.1 → kch S' k i = t.2 i := fun i hi => by
    unfold kch
    rw [cc_N hcc (x := 73) rfl, h45]; exact gh_73 (by omega)
  have hd : ∀ i, i < t.1 → t.2 i < S.1 16 0 := fun i hi => by have := hti.2.1 i hi; omega
  have e51 : ∀ i, i < t.1 → S'.1 51 (20 * k + t.2 i) = S.1 17 (t.2 i) := fun i hi => (show S'.1 51 (20 * k + t.2 i) = S0.1 17 (t.2 i) from (hkd i hi).1).trans (by rw [hg 17 (by decide)])
  have e52 : ∀ i, i < t.1 → S'.1 52 (20 * k + t.2 i) = S.1 20 (t.2 i) := fun i hi => (show S'.1 52 (20 * k + t.2 i) = S0.1 20 (t.2 i) from (hkd i hi).2.1).trans (by rw [hg 20 (by decide)])
  have e18 : S'.1 18 = S.1 18 := hN 18 rfl (by decide)
  have hks : ∀ i, i < t.1 → ∀ p, p < S.1 17 (t.2 i) → KDs S0 S' k (S.1 18 (10 * t.2 i + p)) := fun i hi p hp => by
    have := (hkd i hi).2.2.1 p (by rw [hg 17 (by decide)]; exact hp)
    rw [hg 18 (by decide)] at this
    exact this
  have hkl : ∀ i, i < t.1 → ∀ q, q < S.1 20 (t.2 i) → KDl S0 S' k (3 * t.2 i + q) := fun i hi q hq => (hkd i hi).2.2.2 q (by rw [hg 20 (by decide)]; exact hq)
  have s47 : ∀ {s}, KDs S0 S' k s → S'.1 47 (60 * k + s) = S.1 14 s := fun {s} h => (show S'.1 47 (60 * k + s) = S0.1 14 s from h.1).trans (by rw [hg 14 (by decide)])
  have s53 : ∀ {s}, KDs S0 S' k s → S'.1 53 (60 * k + s) = S.1 10 s := fun {s} h => (show S'.1 53 (60 * k + s) = S0.1 10 s from h.2.2.1).trans (by rw [hg 10 (by decide)])
  have s48 : ∀ {s}, KDs S0 S' k s → S'.2.1 48 (60 * k + s) = S.2.1 15 s := fun {s} h => (show S'.2.1 48 (60 * k + s) = S0.2.1 15 s from h.2.1).trans (by rw [hJ0])
  have s46 : ∀ {s}, KDs S0 S' k s → ∀ y, y < 64 → S'.2.1 46 (64 * (60 * k + s) + y) = S.2.1 13 (64 * s + y) := fun {s} h y hy => by
    have e : S'.2.1 46 (3840 * k + (64 * s + y)) = S0.2.1 13 (64 * s + y) := h.2.2.2 y hy
    rw [show 64 * (60 * k + s) + y = 3840 * k + (64 * s + y) by omega, e, hJ0]
  have l50 : ∀ {l}, KDl S0 S' k l → S'.1 50 (60 * k + l) = S.1 26 l := fun {l} h => (show S'.1 50 (60 * k + l) = S0.1 26 l from h.1).trans (by rw [hg 26 (by decide)])
  have l49 : ∀ {l}, KDl S0 S' k l → ∀ y, y < 64 → S'.2.1 49 (64 * (60 * k + l) + y) = S.2.1 25 (64 * l + y) := fun {l} h y hy => by
    have e : S'.2.1 49 (3840 * k + (64 * l + y)) = S0.2.1 25 (64 * l + y) := h.2 y hy
    rw [show 64 * (60 * k + l) + y = 3840 * k + (64 * l + y) by omega, e, hJ0]
  have hkx : Kx S S' := ⟨fun x hx => hN x (szN_in hx) (fun q => hx ((by decide : ∀ x, x ∈ [45, 72, 73] → x ∈ kNs) x q)), fun x hx => by rw [cc_J hcc (szJ_in hx), hJ0], by rw [hcc.2.2, hJ0]⟩
  have erln := kx_rln hkx
  have evso := kx_vso hkx
  have ecso := kx_cso hkx
  have e23 : S'.1 23 = S.1 23 := hN 23 rfl (by decide)
  have e10 : S'.1 10 = S.1 10 := hN 10 rfl (by decide)
  have eks : ∀ i, i < t.1 → ksz S' k (kch S' k i) = vcn S (t.2 i) := fun i hi => by
    unfold ksz vcn
    rw [e73 i hi, e51 i hi, e52 i hi, erln, e18, e23]
    rfl
  have esm : ∀ i, i ≤ t.1 → sm (fun i => ksz S' k (kch S' k i)) i = rmV S t i := fun i hi => sm_congr fun j hj => eks j (by omega)
  have p48 : kpA A K k 48 k = K := by simp [kpA]
  have p49 : kpA A K k 49 k = K + 1 := by simp [kpA]
  have p50 : kpA A K k 50 k = K + 2 := by simp [kpA]
  have p1 : kpA A K k 1 c = A 1 c := kpA_t (by decide)
  obtain ⟨o1, o2, o3, o4, o5, o6, o7, o8⟩ := ko
  have hlt : ∀ i, i < t.1 → ∀ p, p < S.1 17 (t.2 i) → S.1 18 (10 * t.2 i + p) < S.1 1 0 := fun i hi p hp => places_lt J (hd i hi) hp
  have etr : tro (fun c => S'.1 51 (20 * k + c)) (fun c p => S'.1 53 (60 * k + S'.1 18 (10 * c + p))) 21 0 (1, fun _ => c) = t := by
    have h0 : tro (S.1 17) (hin S) 21 0 (1, fun _ => c) = t := htt.symm
    rw [← h0]
    refine tro_cong _ _ _ fun a ha => ?_
    rw [h0] at ha ⊢
    refine ⟨e51 a ha, fun p hp => ?_⟩
    show S'.1 53 (60 * k + S'.1 18 (10 * t.2 a + p)) = S.1 10 (S.1 18 (10 * t.2 a + p))
    rw [e18]
    exact s53 (hks a ha p hp)
  have h0 : t.2 0 = c := hti.1.2
  have h1 : 1 ≤ t.1 := hti.1.1
  refine ⟨by rw [p48, p49, p50, e45, p1]; exact ⟨o1, o2, o3, o4⟩, ⟨by rw [e45, hN 16 rfl (by decide)]; exact hc, by rw [e72]; exact h1, by rw [e72]; exact h20, by rw [e73 0 h1, e45, h0], fun i hi => ?_, ⟨fun i hi p hp => ?_, ?_, fun i hi => ?_, fun i hi => ?_⟩⟩, ⟨by rw [p49]; exact o5, by rw [p49, e72]; exact o6, fun i hi => ?_⟩, by rw [p50]; exact o7, ?_, fun i hi => ?_⟩
  · rw [e72] at hi
    rw [e73 i hi, e51 i hi, e52 i hi, hN 16 rfl (by decide), hN 17 rfl (by decide), hN 20 rfl (by decide)]
    exact ⟨hd i hi, Nat.le_refl _, Nat.le_refl _⟩
  · rw [e72] at hi
    have e := e73 i hi
    unfold kch at e
    rw [e] at hp ⊢
    rw [e51 i hi] at hp
    rw [e18, e10]
    exact Or.inr (s53 (hks i hi p hp))
  · rw [e45, etr, e72]
  · rw [e72] at hi
    rw [e45, etr]
    exact (e73 i hi).symm
  · rw [e72] at hi
    have e := e73 i hi
    unfold kch at e
    rw [e, e51 i hi, e52 i hi, e18]
    refine ⟨fun p hp => ?_, fun q hq => ⟨?_, ?_⟩⟩
    · have h := hks i hi p hp
      have hs := hlt i hi p hp
      have w := jj_ws J hs
      obtain ⟨-, -, g3, -, -, -, g7, g8, -, gA, gB, -, gD⟩ := w
      generalize S.1 18 (10 * t.2 i + p) = s at *
      have f0 := s46 h 0 (by decide)
      rw [Nat.add_zero, Nat.add_zero] at f0
      unfold KWs
      rw [erln, evso, hN 2 rfl (by decide), hN 3 rfl (by decide), hkx.2.2, s47 h, s48 h, f0]
      exact ⟨fun q => (g3 q).2.2, g7, fun q => (g8 q).1, fun j hj => by rw [s46 h j hj]; exact gA j hj, fun j hj hr => by rw [s46 h j hj]; exact gB j hj hr, gD⟩
    · have w := jj_wc J (hd i hi)
      apply Classical.byContradiction
      intro z
      have := (w.2.2.2.1 (by omega)).1
      omega
    · have h := hkl i hi q hq
      have w := (jj_wc J (hd i hi)).2.2.2.2.1 q hq
      unfold KWl
      rw [ecso, e23, l50 h]
      exact ⟨w.2.2.2.2.1, fun j hj => by rw [l49 h j hj]; exact w.2.2.2.2.2.2.1 j hj⟩
  · rw [e72] at hi
    rw [p49, e73 i hi, e51 i hi, e52 i hi]
    exact (hsv i hi).1
  · rw [p50, e72, esm _ (Nat.le_refl _)]; exact o8
  · rw [e72] at hi
    rw [esm i (by omega), e73 i hi, e51 i hi, e52 i hi, erln, e18, e23, p50]
    obtain ⟨v1, v2⟩ := (hsv i hi).2
    refine ⟨fun p hp => ?_, fun q hq j hj => ?_⟩
    · have h := hks i hi p hp
      obtain ⟨x1, x2⟩ := v1 p hp
      rw [s48 h, s47 h]
      refine ⟨x1, fun j hj => ?_⟩
      have hle := rln_le J (hlt i hi p hp)
      rw [s46 h _ (Nat.lt_of_lt_of_le (Nat.mod_lt _ (by omega)) hle)]
      exact x2 j hj
    · have h := hkl i hi q hq
      have w := (jj_wc J (hd i hi)).2.2.2.2.1 q hq
      have hle := w.2.2.2.1
      rw [l50 h, l49 h _ (Nat.lt_of_lt_of_le (Nat.mod_lt _ (by omega)) hle)]
      exact v2 q hq j hj
theorem sim_keep {N M : Nat} (hN : 100 ≤ N) : ls_15 N M bx (II G E B bx m ad) (II G E B bx m ad) := by
  rintro C T v ⟨S, A0, J0⟩
  have hb0 := jj_b J0
  have ho : cob C bx 0 = true := cob_of (rb_tag hb0)
  have h44 := jj_C J0 44 (by decide)
  have hn8 := (jj_n J0).2.2
  rcases ch_or J0 v with ⟨c, hc, rfl, hq, hk⟩ | ⟨hq, hk⟩
  · by_cases h8 : S.1 44 0 = 8
    · refine ⟨-1, C, T, ?_, ?_, S, A0, J0⟩
      · unfold c_B_keep
        rw [ho, jgd_true, hk, obd_some, jon_some, rb_keptCount hb0, obd_some, if_neg (i32_nonneg (by omega)), obd_some, rb_kepts hb0, obd_some, obd_some, cal_of (n := 8) (by rw [hb0.2.2.2.2.2.1.1]; decide) hb0.2.2.2.2.2.1.2.1, obd_some, if_neg (by rw [i32_lt (by omega) (by decide)]; omega)]
      · unfold h_R_keep
        rw [hq, obd_some, if_pos rfl, h44, h8, if_pos (by rfl)]
    · obtain ⟨C1, u1, u2, u3, u4⟩ := gather_of hN J0 hc
      obtain ⟨A, J, hA, hfar, hdead⟩ := jj_norm u2
      have hH : TH A C1 (tre S c) := fun a ha => by
        have := u3 a ha
        rw [hA 3 3 (by decide), hA 1 _ (by decide)]; exact this
      obtain ⟨t, htt⟩ : ∃ t, t = tre S c := ⟨_, rfl⟩
      rw [← htt] at u1 u4 hH
      have hb := jj_b J
      have h20 := ti_bound u4 hc (jj_n J).2.1
      have htd : ∀ a, a < t.1 → t.2 a < S.1 16 0 := fun a ha => by have := u4.2.1 a ha; omega
      have hrm := rmV_le J htd t.1 (Nat.le_refl _)
      obtain ⟨k, hkk⟩ : ∃ k, k = S.1 44 0 := ⟨_, rfl⟩
      have hK : (ck C1).1 = (ck C1).1 := rfl
      -- the class
      have hva : ∀ t i, VA S t i → t ≠ 0 → A t i < (ck C1).1 := fun t i h h0 => (J.1.1.2.1 _ (va_tag J h h0)).2
      have hbx : bx < (ck C1).1 := (J.1.1.2.1 bx (by rw [hb.1.1]; decide)).2
      have Jk : JJ G E B bx m (adS ad (ad 0 + 100000)) S A (koC C1 (A 1 c) (3 * t.1) (rmV S t t.1)) T := by
        refine jj_else J (cw_koC J.1.1) (fun t i h h0 => koC_ag (hva t i h h0)) (fun hn i hi => koC_ag (hdead hn i hi)) (koC_ag hbx) ?_ ?_
        · obtain ⟨l1, l2, l3⟩ := J.1.2.1
          refine lsp_ad ⟨⟨?_, fun k hk => ?_⟩, ?_, fun k hk => ?_⟩
          · rw [(koC_ag l2).1]; exact l1.1
          · rw [(koC_ag (l3 k hk)).1]; exact l1.2 k hk
          · rw [koC_ck]; show m < (ck C1).1 + 3; omega
          · rw [koC_ck]; have := l3 k hk; show ad k < (ck C1).1 + 3; omega
        · intro z hz
          rw [(koC_ag (hva 2 0 rfl (by decide))).2.2.2.2.1] at hz
          have := J.1.2.2 z hz
          rw [koC_ck]
          show _ ∧ _
          have e0 : adS ad (ad 0 + 100000) 0 = ad 0 + 100000 := if_pos rfl
          rw [e0]
          constructor <;> omega
      have fa : ∀ x, (ck C1).1 ≤ x → x < (ck C1).1 + 10 → Fa bx S A (koC C1 (A 1 c) (3 * t.1) (rmV S t t.1)) x := fun x h1 h2 => ⟨by omega, fun t i h h0 => by have := hva t i h h0; omega, fun hn i hi => by
        rw [(koC_ag (hva 2 0 rfl (by decide))).2.2.2.2.1] at hn
        have := hdead hn i hi
        omega⟩
      have hHk : TH A (koC C1 (A 1 c) (3 * t.1) (rmV S t t.1)) t := fun a ha => by
        rw [(koC_ag (hva 3 3 (show (3 : Nat) < 4 by decide) (by decide))).2.2.2.2.1]; exact hH a ha
      obtain ⟨C2, w1, w2, w3⟩ := keep113_go (N := N) hN h20 htd t.1 N 0 _ Jk hHk koC_ko (fa _ (by omega) (by omega)) (fa _ (by omega) (by omega)) (by omega) (by omega) (fun x hx => absurd hx (Nat.not_lt_zero _))
      have J2 := jj_w2 Jk w2 (fa _ (by omega) (by omega)) (fa _ (by omega) (by omega)) (by rw [koC_ko.2.2.2.2.1]; decide) (by rw [koC_ko.2.2.2.2.2.2.1]; decide)
      have ko2 := ko_w2 (koC_ko (C := C1) (r := A 1 c) (L := 3 * t.1) (M := rmV S t t.1)) w2
      -- the reference
      have R0 : RT (gh S k c t) (tsI T 45 k (i32 c)) := rt_gh (jj_rt J0)
      have Jg := jj_gh J0 hkk R0
      have hg : ∀ x, x ∉ [45, 72, 73] → (gh S k c t).1 x = S.1 x := fun x hx => gh_k hx
      obtain ⟨T1, v1, v2, v3, v4⟩ := trees_of hN Jg (c := c) (by rw [hg 16 (by decide)]; exact hc)
      have etr : tre (gh S k c t) c = t := by
        have e0 : tre (gh S k c t) c = tre S c := by
          unfold tre hin
          rw [hg 17 (by decide), hg 10 (by decide), hg 18 (by decide)]
        exact e0.trans htt.symm
      rw [etr] at v3
      have hts : TS (gh S k c t) t := by
        have := ts_of J0 u4 hc
        unfold TS at this ⊢
        rw [hg 17 (by decide), hg 20 (by decide), hg 18 (by decide)]
        exact this
      obtain ⟨S1, T2, x1, x2, x3, x4, x5, x6⟩ := keep36_go (N := N) hN (k := k) (S0 := gh S k c t) (by omega) (by rw [hg 44 (by decide)]; exact hkk.symm) hts t.1 N 0 (gh S k c t) T1 v2 CC.refl v3 (by omega) (by omega)
      -- both
      have Jg2 := jj_gh (c := c) (t := t) J2 hkk (rt_tOf _)
      have Jc := jj_cc Jg2 (by rw [hg 44 (by decide)]; exact hkk) (by omega) x3 (rt_tOf S1)
      have e44 : S1.1 44 0 = k := by rw [cc_N x3 (x := 44) rfl, hg 44 (by decide)]; exact hkk.symm
      have ek1 : S1.1 1 = S.1 1 := by rw [cc_N x3 (x := 1) rfl, hg 1 (by decide)]
      have ek16 : S1.1 16 = S.1 16 := by rw [cc_N x3 (x := 16) rfl, hg 16 (by decide)]
      have ek20 : S1.1 20 = S.1 20 := by rw [cc_N x3 (x := 20) rfl, hg 20 (by decide)]
      have va1 : ∀ t i, VA S1 t i → VA S t i := fun t i h => by
        unfold VA at h ⊢
        rw [ek1, ek16, ek20, e44, hkk] at h
        exact h
      have hrk := rkb_new (K := (ck C1).1) (S' := S1) (S0 := gh S k c t) (X := C2) J hc u4 htt (by omega) rfl x3 (fun x hx => x5 x (Nat.zero_le _) hx) ko2 w3
      have hag32 : ∀ a, a ≠ bx → a ≠ A 3 2 → Ag C2 (kpC C2 bx (A 3 2) (ck C1).1 k) a := fun a h1 h2 => ag_csI (ag_csA (Ag.refl _ _) h2) h1
      have h32lt : A 3 2 < (ck C1).1 := hva 3 2 (show (2 : Nat) < 4 by decide) (by decide)
      have eck2 : ck C2 = ((ck C1).1 + 3, (ck C1).2 + 3 + 3 * t.1 + rmV S t t.1) := by
        have := congrArg (fun x : (Nat → Nat → Nat → Option Nat) × (Nat → Bool) × (Nat × Nat) => x.2.2) w2.2.2.2.2
        exact this.trans koC_ck
      have hrk' : RKb S1 (kpA A (ck C1).1 k) (kpC C2 bx (A 3 2) (ck C1).1 k) k := by
        have a0 := hag32 (ck C1).1 (by omega) (by omega)
        have a1 := hag32 ((ck C1).1 + 1) (by omega) (by omega)
        have a2 := hag32 ((ck C1).1 + 2) (by omega) (by omega)
        have p48 : kpA A (ck C1).1 k 48 k = (ck C1).1 := by simp [kpA]
        have p49 : kpA A (ck C1).1 k 49 k = (ck C1).1 + 1 := by simp [kpA]
        have p50 : kpA A (ck C1).1 k 50 k = (ck C1).1 + 2 := by simp [kpA]
        unfold RKb at hrk ⊢
        rw [p48, p49, p50] at hrk ⊢
        rw [a0.1, a1.1, a2.1, a1.2.1, a2.2.1, a0.2.2.2.2.1 48, a0.2.2.2.2.1 49, a0.2.2.2.2.1 50, a1.2.2.1 900, a2.2.2.2.1 900]
        exact hrk
      have hl2 := ad_lsp J2.1.2.1
      have R2 : RT (uN S1 44 0 (k + 1)) (tsI T2 44 0 (i32 (k + 1))) := by
        obtain ⟨a1, a2, a3, a4, a5, a6, a7, a8, a9, b1, b2, b3⟩ := x2
        have f1 : ∀ x, x ≠ 44 → (uN S1 44 0 (k + 1)).1 x = S1.1 x := fun x h => uN_k h
        have g1 : ∀ x, x ≠ 44 → (tsI T2 44 0 (i32 (k + 1))).1 x = T2.1 x := fun x h => funext fun j => by simp [tsI, up2, h]
        have ev : ∀ x, vso (uN S1 44 0 (k + 1)) x = vso S1 x := fun x => by unfold vso; rw [f1 2 (by decide), f1 3 (by decide)]
        have ec : ∀ x, cso (uN S1 44 0 (k + 1)) x = cso S1 x := fun x => by unfold cso; rw [f1 18 (by decide), f1 3 (by decide)]
        refine ⟨fun x hx j => ?_, fun x hx => ?_, fun x hx j => ?_, fun x hx j => ?_, a5, fun j => by rw [f1 3 (by decide)]; exact a6 j, fun j => by rw [ev]; exact a7 j, fun j => by rw [ec]; exact a8 j, fun j => by rw [ec]; exact a9 j, fun j => by rw [ec]; exact b1 j, fun j => by rw [ev]; exact b2 j, fun j => by rw [ec]; exact b3 j⟩
        · have : x ≠ 44 := fun z => by subst z; revert hx; decide
          rw [f1 x this, g1 x this]; exact a1 x hx j
        · by_cases z : x = 44
          · subst z
            simp [tsI, uN, up2]
          · rw [f1 x z, g1 x z]; exact a2 x hx
        · have : x ≠ 44 := fun z => by subst z; revert hx; decide
          rw [f1 x this, g1 x this]; exact a3 x hx j
        · have : x ≠ 44 := fun z => by subst z; revert hx; decide
          rw [g1 x this]; exact a4 x hx j
      have ro2 : RO (ad 0) B (uN S1 44 0 (k + 1)) A C2 := by
        intro z hz
        have f1 : ∀ x, x ≠ 44 → (uN S1 44 0 (k + 1)).1 x = S1.1 x := fun x h => uN_k h
        have f44 : (uN S1 44 0 (k + 1)).1 44 0 = k + 1 := by simp [uN, up2]
        rw [w2.2.2.2.2, (koC_ag (hva 2 0 rfl (by decide))).2.2.2.2.1] at hz
        have := J.1.2.2 z hz
        rw [f1 1 (by decide), f1 16 (by decide), f1 20 (by decide), f44, ek1, ek16, ek20, eck2]
        show (ck C1).1 + 3 + _ + _ + _ + _ + _ ≤ _ ∧ (ck C1).2 + 3 + 3 * t.1 + rmV S t t.1 + _ + _ + _ + _ + _ ≤ _
        rw [← hkk] at this
        omega
      have JF := jj_kept (ad := ad) (K := (ck C1).1) (T' := tsI T2 44 0 (i32 (k + 1))) Jc e44.symm (by omega) (fun t i h => hfar t i (va1 t i h)) hrk' hl2 ro2 R2
      refine ⟨i32 k, _, _, ?_, ?_, _, _, JF⟩
      · have e178 : c_B_keep_178 N bx (ck C1).1 C2 = some (i32 k, kpC C2 bx (A 3 2) (ck C1).1 k) := by
          have hb2 := jj_b J2
          have t32 := hb2.2.2.2.2.2.1
          have h8c : cgI (csA C2 900 (A 3 2) k (some (ck C1).1)) bx 0 8 = some (i32 (S.1 44 0)) := (show cgI C2 bx 0 8 = some (i32 (S.1 44 0)) from rb_keptCount hb2)
          unfold c_B_keep_178
          rw [rb_kepts hb2, obd_some, rb_keptCount hb2, obd_some, obd_some, ← hkk, cqA_of (n := 8) t32.1 (by decide) (show C2.1 (ck C1).1 = 3 + 1 from ko2.1) t32.2.1 (by omega) (by decide), obd_some, h8c, obd_some, ← hkk, cpI_of (ci := 0) (show (csA C2 900 (A 3 2) k (some (ck C1).1)).1 bx = 0 + 1 from hb2.1.1) (by decide) (by decide), obd_some]
          have e8 : cgI (csI (csA C2 900 (A 3 2) k (some (ck C1).1)) (16 * 0 + 8) bx 0 (i32 k + 1)) bx 0 8 = some (i32 (k + 1)) := by
            refine (if_pos (show C2.1 bx = 0 + 1 from hb2.1.1)).trans (congrArg some ?_)
            rw [show i32 k + 1 = i32 (k + 1) from i32_add k 1]
            simp [csI, up3]
          rw [e8, obd_some, show i32 (k + 1) - (1 : Int32) = i32 k from i32_sub (a := k + 1) (b := 1) (by omega), show i32 k + 1 = i32 (k + 1) from i32_add k 1]
          rfl
        have e94 : c_B_keep_94 N bx (A 1 c) (i32 t.1) (i32 (rmV S t t.1)) C1 = some (i32 k, kpC C2 bx (A 3 2) (ck C1).1 k) := by
          have hin := kinit_of (C := C1) (r := A 1 c) (L := 3 * t.1) (M := rmV S t t.1) (by omega) (by omega) (by omega)
          rw [show 3 * t.1 / 3 = t.1 by omega] at hin
          unfold c_B_keep_94 cnew
          dsimp only
          rw [show cfr C1 (3 + 1) 0 (jnfl 3) = cfr C1 4 0 3 from rfl, hin, obd_some]
          exact w1.trans e178
        unfold c_B_keep
        rw [ho, jgd_true, hk, obd_some, jon_some, rb_keptCount hb0, obd_some, if_neg (i32_nonneg (by omega)), obd_some, rb_kepts hb0, obd_some, obd_some, cal_of (n := 8) (by rw [hb0.2.2.2.2.2.1.1]; decide) hb0.2.2.2.2.2.1.2.1, obd_some, if_pos (by rw [i32_lt (by omega) (by decide)]; omega), jgd_true, u1, cbd2_some, ← hA 1 c (by decide)]
        exact (keep43_go hN J h20 hH htd t.1 N 0 (by omega) (by omega)).trans e94
      · unfold h_R_keep
        rw [hq, obd_some, if_pos rfl, h44, if_neg (show ¬ i32 (S.1 44 0) = (8 : Int32) from i32_ne (b := 8) (by omega) (by decide) h8), ← hkk, jrg_i32 (show k < 8 by omega) (by decide), obd_some, jlet_eq, v1, obd_some]
        exact x1
  · refine ⟨-1, C, T, ?_, ?_, S, A0, J0⟩
    · unfold c_B_keep
      rw [ho, jgd_true, hk, obd_some, jon_none]
    · unfold h_R_keep
      rw [hq, obd_some, if_neg (by decide)]
end SIMKEEP
