/-! the machine refines the functions (printed by wip/whole/dec.py) -/
/-! FilterBench$Kept.chainCount()I -/
set_option maxRecDepth 10000 in
set_option maxHeartbeats 4000000 in
theorem r_Kept_chainCount_e {B : Nat} {SA : Nat → Nat} {d : Nat} (hd : 0 ≤ d) : ∀ (L : JLoc) (v0 : Nat) (μ : JMem) (r : Int32), jget L 0 = .ref v0 → g_Kept_chainCount v0 μ.1 = some r → jR B SA d m_Kept_chainCount 0 L [] μ (some (.int r)) μ := by
  intro L v0 μ r hl0 h
  unfold g_Kept_chainCount at h
  refine jr_aload_n jf_142_0 rfl hl0 ?_
  replace h := obd_of h; obtain ⟨x1, hx1, h⟩ := h
  refine jr_getA jf_142_1 hx1 ?_
  replace h := obd_of h; obtain ⟨a2, rfl, h⟩ := h
  replace h := obd_of h; obtain ⟨x3, hx3, h⟩ := h
  refine jr_arraylength jf_142_4 hx3 ?_
  refine jr_iconst jf_142_5 jc_i_3 ?_
  refine jr_idiv jf_142_6 (by simp only [jdivI]; exact if_neg (by decide)) ?_
  obtain rfl := Option.some.inj h
  exact jr_retI jf_142_7 jmt_142
set_option maxRecDepth 10000 in
set_option maxHeartbeats 4000000 in
theorem r_Kept_chainCount {B : Nat} {SA : Nat → Nat} {d : Nat} (hd : 0 ≤ d) : ∀ (v0 : Nat) (μ : JMem) (r : Int32), g_Kept_chainCount v0 μ.1 = some r → jR B SA d m_Kept_chainCount 0 (lv_args 0 [.ref v0]) [] μ (some (.int r)) μ := by
  intro v0 μ r h
  exact r_Kept_chainCount_e hd (lv_args 0 _) _ _ _ (by simp [lv_args, jget, rv_cat, cat_int, cat_long, cat_double, cat_float, cat_ref]) h
/-! FilterBench$Kept.isShaped(ILFilterBench$Chain;)Z -/
set_option maxRecDepth 10000 in
set_option maxHeartbeats 4000000 in
theorem r_Kept_isShaped_e {B : Nat} {SA : Nat → Nat} {d : Nat} (hd : 0 ≤ d) : ∀ (L : JLoc) (v0 : Nat) (v1 : Int32) (v2 : Option Nat) (μ : JMem) (r : Bool), jget L 0 = .ref v0 → jget L 1 = .int v1 → jget L 2 = rv v2 → g_Kept_isShaped v0 v1 v2 μ.1 = some r → jR B SA d m_Kept_isShaped 0 L [] μ (some (.int (jb r))) μ := by
  intro L v0 v1 v2 μ r hl0 hl1 hl2 h
  unfold g_Kept_isShaped at h
  refine jr_iload_n jf_143_0 rfl hl1 ?_
  refine jr_iconst jf_143_1 jc_i_3 ?_
  refine jr_imul jf_143_2 ?_
  refine jr_istore_n jf_143_3 rfl jml_143 (by decide) ?_
  refine jr_iload_n jf_143_4 rfl jg1_same ?_
  replace h := ite_or h; rcases h with ⟨hc, h⟩ | ⟨hc, h⟩
  · refine jr_if_lt_t jf_143_5 hc ?_
    refine jr_iconst jf_143_66 jc_i_0 ?_
    obtain rfl := Option.some.inj h
    exact jr_retZ (x := false) jf_143_67 jmt_143
  · refine jr_if_lt_f jf_143_5 hc ?_
    refine jr_iload_n jf_143_8 rfl jg1_same ?_
    refine jr_iconst jf_143_9 jc_i_2 ?_
    refine jr_iadd jf_143_10 ?_
    refine jr_aload_n jf_143_11 rfl (jg1_ne rfl hl0) ?_
    replace h := obd_of h; obtain ⟨x1, hx1, h⟩ := h
    refine jr_getA jf_143_12 hx1 ?_
    replace h := obd_of h; obtain ⟨a2, rfl, h⟩ := h
    replace h := obd_of h; obtain ⟨x3, hx3, h⟩ := h
    refine jr_arraylength jf_143_15 hx3 ?_
    replace h := ite_or h; rcases h with ⟨hc, h⟩ | ⟨hc, h⟩
    · refine jr_if2_ge_t jf_143_16 hc ?_
      refine jr_iconst jf_143_66 jc_i_0 ?_
      obtain rfl := Option.some.inj h
      exact jr_retZ (x := false) jf_143_67 jmt_143
    · refine jr_if2_ge_f jf_143_16 hc ?_
      refine jr_aload_n jf_143_19 rfl (jg1_ne rfl hl0) ?_
      replace h := obd_of h; obtain ⟨x4, hx4, h⟩ := h
      refine jr_getA jf_143_20 hx4 ?_
      refine jr_iload_n jf_143_23 rfl jg1_same ?_
      replace h := obd_of h; obtain ⟨a5, rfl, h⟩ := h
      replace h := obd_of h; obtain ⟨x6, hx6, h⟩ := h
      refine jr_iaload jf_143_24 hx6 ?_
      refine jr_aload_n_A jf_143_25 rfl (jg1_pre (by first | rfl | exact rv_cat _) hl2) ?_
      replace h := obd_of h; obtain ⟨a7, rfl, h⟩ := h
      replace h := obd_of h; obtain ⟨x8, hx8, h⟩ := h
      refine jr_getI jf_143_26 hx8 ?_
      replace h := ite_or h; rcases h with ⟨hc, h⟩ | ⟨hc, h⟩
      · refine jr_if2_ne_f jf_143_29 hc ?_
        refine jr_aload_n jf_143_32 rfl (jg1_ne rfl hl0) ?_
        replace h := obd_of h; obtain ⟨x9, hx9, h⟩ := h
        refine jr_getA jf_143_33 hx9 ?_
        refine jr_iload_n jf_143_36 rfl jg1_same ?_
        refine jr_iconst jf_143_37 jc_i_1 ?_
        refine jr_iadd jf_143_38 ?_
        replace h := obd_of h; obtain ⟨a10, rfl, h⟩ := h
        replace h := obd_of h; obtain ⟨x11, hx11, h⟩ := h
        refine jr_iaload jf_143_39 hx11 ?_
        refine jr_aload_n jf_143_40 rfl (jg1_pre (by first | rfl | exact rv_cat _) hl2) ?_
        replace h := obd_of h; obtain ⟨x12, hx12, h⟩ := h
        refine jr_getI jf_143_41 hx12 ?_
        replace h := ite_or h; rcases h with ⟨hc, h⟩ | ⟨hc, h⟩
        · refine jr_if2_ne_f jf_143_44 hc ?_
          refine jr_aload_n jf_143_47 rfl (jg1_ne rfl hl0) ?_
          replace h := obd_of h; obtain ⟨x13, hx13, h⟩ := h
          refine jr_getA jf_143_48 hx13 ?_
          refine jr_iload_n jf_143_51 rfl jg1_same ?_
          refine jr_iconst jf_143_52 jc_i_2 ?_
          refine jr_iadd jf_143_53 ?_
          replace h := obd_of h; obtain ⟨a14, rfl, h⟩ := h
          replace h := obd_of h; obtain ⟨x15, hx15, h⟩ := h
          refine jr_iaload jf_143_54 hx15 ?_
          refine jr_aload_n jf_143_55 rfl (jg1_pre (by first | rfl | exact rv_cat _) hl2) ?_
          replace h := obd_of h; obtain ⟨x16, hx16, h⟩ := h
          refine jr_getI jf_143_56 hx16 ?_
          replace h := ite_or h; rcases h with ⟨hc, h⟩ | ⟨hc, h⟩
          · refine jr_if2_ne_f jf_143_59 hc ?_
            refine jr_iconst jf_143_62 jc_i_1 ?_
            refine jr_goto jf_143_63 ?_
            obtain rfl := Option.some.inj h
            exact jr_retZ (x := true) jf_143_67 jmt_143
          · refine jr_if2_ne_t jf_143_59 hc ?_
            refine jr_iconst jf_143_66 jc_i_0 ?_
            obtain rfl := Option.some.inj h
            exact jr_retZ (x := false) jf_143_67 jmt_143
        · refine jr_if2_ne_t jf_143_44 hc ?_
          refine jr_iconst jf_143_66 jc_i_0 ?_
          obtain rfl := Option.some.inj h
          exact jr_retZ (x := false) jf_143_67 jmt_143
      · refine jr_if2_ne_t jf_143_29 hc ?_
        refine jr_iconst jf_143_66 jc_i_0 ?_
        obtain rfl := Option.some.inj h
        exact jr_retZ (x := false) jf_143_67 jmt_143
set_option maxRecDepth 10000 in
set_option maxHeartbeats 4000000 in
theorem r_Kept_isShaped {B : Nat} {SA : Nat → Nat} {d : Nat} (hd : 0 ≤ d) : ∀ (v0 : Nat) (v1 : Int32) (v2 : Option Nat) (μ : JMem) (r : Bool), g_Kept_isShaped v0 v1 v2 μ.1 = some r → jR B SA d m_Kept_isShaped 0 (lv_args 0 [.ref v0, .int v1, rv v2]) [] μ (some (.int (jb r))) μ := by
  intro v0 v1 v2 μ r h
  exact r_Kept_isShaped_e hd (lv_args 0 _) _ _ _ _ _ (by simp [lv_args, jget, rv_cat, cat_int, cat_long, cat_double, cat_float, cat_ref]) (by simp [lv_args, jget, rv_cat, cat_int, cat_long, cat_double, cat_float, cat_ref]) (by simp [lv_args, jget, rv_cat, cat_int, cat_long, cat_double, cat_float, cat_ref]) h
/-! FilterBench.gatherAsKept(LFilterBench$Kept;)Z -/
set_option maxRecDepth 10000 in
set_option maxHeartbeats 4000000 in
theorem r_B_gatherAsKept_21 {N B : Nat} {SA : Nat → Nat} {d : Nat} (hd : 2 ≤ d) : ∀ (n : Nat), ∀ (L : JLoc) (v0 : Nat) (v1 : Nat) (v2 : Int32) (v3 : Int32) (μ : JMem) (r : Bool) (μ9 : JMem), jget L 0 = .ref v0 → jget L 1 = .ref v1 → jget L 2 = .int v2 → jget L 3 = .int v3 → g_B_gatherAsKept_21 N B n v0 v1 v2 v3 μ = some (r, μ9) → jR B SA d m_B_gatherAsKept 21 L [] μ (some (.int (jb r))) μ9 := by
  intro n
  induction n with
  | zero =>
    intro L v0 v1 v2 v3 μ r μ9 hl0 hl1 hl2 hl3 h
    unfold g_B_gatherAsKept_21 at h
    cases h
  | succ n ih =>
    intro L v0 v1 v2 v3 μ r μ9 hl0 hl1 hl2 hl3 h
    unfold g_B_gatherAsKept_21 at h
    refine jr_iload_n jf_141_21 rfl hl3 ?_
    refine jr_iload_n jf_141_22 rfl hl2 ?_
    replace h := ite_or h; rcases h with ⟨hc, h⟩ | ⟨hc, h⟩
    · refine jr_if2_ge_t jf_141_23 hc ?_
      refine jr_iconst jf_141_66 jc_i_1 ?_
      obtain ⟨rfl, rfl⟩ := Prod.mk.inj (Option.some.inj h)
      exact jr_retZ (x := true) jf_141_67 jmt_141
    · refine jr_if2_ge_f jf_141_23 hc ?_
      refine jr_iload_n jf_141_26 rfl hl3 ?_
      refine jr_aload_n jf_141_27 rfl hl0 ?_
      replace h := obd_of h; obtain ⟨x1, hx1, h⟩ := h
      refine jr_getA jf_141_28 hx1 ?_
      replace h := obd_of h; obtain ⟨a2, rfl, h⟩ := h
      replace h := obd_of h; obtain ⟨x3, hx3, h⟩ := h
      refine jr_arraylength jf_141_31 hx3 ?_
      replace h := ite_or h; rcases h with ⟨hc, h⟩ | ⟨hc, h⟩
      · refine jr_if2_ge_t jf_141_32 hc ?_
        refine jr_iconst jf_141_66 jc_i_1 ?_
        obtain ⟨rfl, rfl⟩ := Prod.mk.inj (Option.some.inj h)
        exact jr_retZ (x := true) jf_141_67 jmt_141
      · refine jr_if2_ge_f jf_141_32 hc ?_
        refine jr_aload_n jf_141_35 rfl hl0 ?_
        replace h := obd_of h; obtain ⟨x4, hx4, h⟩ := h
        refine jr_getA jf_141_36 hx4 ?_
        refine jr_iload_n jf_141_39 rfl hl3 ?_
        replace h := obd_of h; obtain ⟨a5, rfl, h⟩ := h
        replace h := obd_of h; obtain ⟨x6, hx6, h⟩ := h
        refine jr_aaload jf_141_40 hx6 ?_
        replace h := jon_or h; rcases h with ⟨rfl, h⟩ | ⟨a7, rfl, h⟩
        · refine jr_ifnull_n jf_141_41 ?_
          refine jr_iconst jf_141_58 jc_i_0 ?_
          obtain ⟨rfl, rfl⟩ := Prod.mk.inj (Option.some.inj h)
          exact jr_retZ (x := false) jf_141_59 jmt_141
        · refine jr_ifnull_s jf_141_41 ?_
          refine jr_aload_n jf_141_44 rfl hl1 ?_
          refine jr_iload_n jf_141_45 rfl hl3 ?_
          refine jr_aload_n jf_141_46 rfl hl0 ?_
          replace h := obd_of h; obtain ⟨x8, hx8, h⟩ := h
          refine jr_getA jf_141_47 hx8 ?_
          refine jr_iload_n jf_141_50 rfl hl3 ?_
          replace h := obd_of h; obtain ⟨a9, rfl, h⟩ := h
          replace h := obd_of h; obtain ⟨x10, hx10, h⟩ := h
          refine jr_aaload jf_141_51 hx10 ?_
          replace h := jgd_of h; obtain ⟨hb11, h⟩ := h
          replace h := obd_of h; obtain ⟨x12, hx12, h⟩ := h
          refine jr_V6_2 jf_141_52 hb11 (by omega) (r_Kept_isShaped (by omega) _ _ _ _ _ hx12) (Nat.le_of_ble_eq_true rfl) jml_143 (by simp only [jcats_cons, jcats_nil, cat_int, cat_long, cat_double, cat_float, cat_ref, rv_cat]; decide) ?_
          replace h := ite_or h; rcases h with ⟨hc, h⟩ | ⟨hc, h⟩
          · refine jr_ifz_ne_t jf_141_55 hc ?_
            refine jr_iinc jf_141_60 jc_i_1 jml_141 (by decide) hl3 ?_
            refine jr_goto jf_141_63 ?_
            exact ih _ _ _ _ _ _ _ _ (jg1_ne rfl hl0) (jg1_ne rfl hl1) (jg1_pre rfl hl2) jg1_same h
          · refine jr_ifz_ne_f jf_141_55 hc ?_
            refine jr_iconst jf_141_58 jc_i_0 ?_
            obtain ⟨rfl, rfl⟩ := Prod.mk.inj (Option.some.inj h)
            exact jr_retZ (x := false) jf_141_59 jmt_141
set_option maxRecDepth 10000 in
set_option maxHeartbeats 4000000 in
theorem r_B_gatherAsKept_e {N B : Nat} {SA : Nat → Nat} {d : Nat} (hd : 2 ≤ d) : ∀ (L : JLoc) (v0 : Nat) (v1 : Option Nat) (μ : JMem) (r : Bool) (μ9 : JMem), jget L 0 = .ref v0 → jget L 1 = rv v1 → g_B_gatherAsKept N B v0 v1 μ = some (r, μ9) → jR B SA d m_B_gatherAsKept 0 L [] μ (some (.int (jb r))) μ9 := by
  intro L v0 v1 μ r μ9 hl0 hl1 h
  unfold g_B_gatherAsKept at h
  refine jr_aload_n jf_141_0 rfl hl0 ?_
  refine jr_aload_n_A jf_141_1 rfl hl1 ?_
  replace h := obd_of h; obtain ⟨a1, rfl, h⟩ := h
  replace h := obd_of h; obtain ⟨x2, hx2, h⟩ := h
  refine jr_getA jf_141_2 hx2 ?_
  replace h := jgd_of h; obtain ⟨hb3, h⟩ := h
  replace h := jbd2_of h; obtain ⟨x4, μ5, hx4, h⟩ := h
  refine jr_V6_1 jf_141_5 hb3 (by omega) (r_B_gather (by omega) _ _ _ _ _ hx4) (Nat.le_of_ble_eq_true rfl) jml_126 (by simp only [jcats_cons, jcats_nil, cat_int, cat_long, cat_double, cat_float, cat_ref, rv_cat]; decide) ?_
  refine jr_istore_n jf_141_8 rfl jml_141 (by decide) ?_
  refine jr_iload_n jf_141_9 rfl jg1_same ?_
  refine jr_aload_n jf_141_10 rfl (jg1_pre (by first | rfl | exact rv_cat _) hl1) ?_
  replace h := jgd_of h; obtain ⟨hb6, h⟩ := h
  replace h := obd_of h; obtain ⟨x7, hx7, h⟩ := h
  refine jr_V6_0 jf_141_11 hb6 (by omega) (r_Kept_chainCount (by omega) _ _ _ hx7) (Nat.le_of_ble_eq_true rfl) jml_142 (Nat.le_of_ble_eq_true rfl) ?_
  replace h := ite_or h; rcases h with ⟨hc, h⟩ | ⟨hc, h⟩
  · refine jr_if2_eq_t jf_141_14 hc ?_
    refine jr_iconst jf_141_19 jc_i_0 ?_
    refine jr_istore_n jf_141_20 rfl jml_141 (by decide) ?_
    exact r_B_gatherAsKept_21 hd _ _ _ _ _ _ _ _ _ (jg1_ne rfl (jg1_ne rfl hl0)) (jg1_ne rfl (jg1_pre (by first | rfl | exact rv_cat _) hl1)) (jg1_pre rfl jg1_same) jg1_same h
  · refine jr_if2_eq_f jf_141_14 hc ?_
    refine jr_iconst jf_141_17 jc_i_0 ?_
    obtain ⟨rfl, rfl⟩ := Prod.mk.inj (Option.some.inj h)
    exact jr_retZ (x := false) jf_141_18 jmt_141
set_option maxRecDepth 10000 in
set_option maxHeartbeats 4000000 in
theorem r_B_gatherAsKept {N B : Nat} {SA : Nat → Nat} {d : Nat} (hd : 2 ≤ d) : ∀ (v0 : Nat) (v1 : Option Nat) (μ : JMem) (r : Bool) (μ9 : JMem), g_B_gatherAsKept N B v0 v1 μ = some (r, μ9) → jR B SA d m_B_gatherAsKept 0 (lv_args 0 [.ref v0, rv v1]) [] μ (some (.int (jb r))) μ9 := by
  intro v0 v1 μ r μ9 h
  exact r_B_gatherAsKept_e hd (lv_args 0 _) _ _ _ _ _ (by simp [lv_args, jget, rv_cat, cat_int, cat_long, cat_double, cat_float, cat_ref]) (by simp [lv_args, jget, rv_cat, cat_int, cat_long, cat_double, cat_float, cat_ref]) h
/-! FilterBench.keptAt(I)LFilterBench$Kept; -/
set_option maxRecDepth 10000 in
set_option maxHeartbeats 4000000 in
theorem r_B_keptAt_21 {B : Nat} {SA : Nat → Nat} {d : Nat} (hd : 0 ≤ d) : ∀ (L : JLoc) (μ : JMem) (r : Option Nat), g_B_keptAt_21 μ.1 = some r → jR B SA d m_B_keptAt 21 L [] μ (some (rv r)) μ := by
  intro L μ r h
  unfold g_B_keptAt_21 at h
  refine jr_aconst_null jf_140_21 ?_
  refine jr_goto jf_140_22 ?_
  obtain rfl := Option.some.inj h
  exact jr_retA jf_140_31 jmt_140
set_option maxRecDepth 10000 in
set_option maxHeartbeats 4000000 in
theorem r_B_keptAt_e {B : Nat} {SA : Nat → Nat} {d : Nat} (hd : 0 ≤ d) : ∀ (L : JLoc) (v0 : Nat) (v1 : Int32) (μ : JMem) (r : Option Nat), jget L 0 = .ref v0 → jget L 1 = .int v1 → g_B_keptAt v0 v1 μ.1 = some r → jR B SA d m_B_keptAt 0 L [] μ (some (rv r)) μ := by
  intro L v0 v1 μ r hl0 hl1 h
  unfold g_B_keptAt at h
  refine jr_iload_n jf_140_0 rfl hl1 ?_
  replace h := ite_or h; rcases h with ⟨hc, h⟩ | ⟨hc, h⟩
  · refine jr_if_lt_t jf_140_1 hc ?_
    exact r_B_keptAt_21 hd _  _ _ h
  · refine jr_if_lt_f jf_140_1 hc ?_
    refine jr_iload_n jf_140_4 rfl hl1 ?_
    refine jr_aload_n jf_140_5 rfl hl0 ?_
    replace h := obd_of h; obtain ⟨x1, hx1, h⟩ := h
    refine jr_getI jf_140_6 hx1 ?_
    replace h := ite_or h; rcases h with ⟨hc, h⟩ | ⟨hc, h⟩
    · refine jr_if2_ge_t jf_140_9 hc ?_
      exact r_B_keptAt_21 hd _  _ _ h
    · refine jr_if2_ge_f jf_140_9 hc ?_
      refine jr_iload_n jf_140_12 rfl hl1 ?_
      refine jr_aload_n jf_140_13 rfl hl0 ?_
      replace h := obd_of h; obtain ⟨x2, hx2, h⟩ := h
      refine jr_getA jf_140_14 hx2 ?_
      replace h := obd_of h; obtain ⟨a3, rfl, h⟩ := h
      replace h := obd_of h; obtain ⟨x4, hx4, h⟩ := h
      refine jr_arraylength jf_140_17 hx4 ?_
      replace h := ite_or h; rcases h with ⟨hc, h⟩ | ⟨hc, h⟩
      · refine jr_if2_lt_t jf_140_18 hc ?_
        refine jr_aload_n jf_140_25 rfl hl0 ?_
        replace h := obd_of h; obtain ⟨x5, hx5, h⟩ := h
        refine jr_getA jf_140_26 hx5 ?_
        refine jr_iload_n jf_140_29 rfl hl1 ?_
        replace h := obd_of h; obtain ⟨a6, rfl, h⟩ := h
        replace h := obd_of h; obtain ⟨x7, hx7, h⟩ := h
        refine jr_aaload jf_140_30 hx7 ?_
        obtain rfl := Option.some.inj h
        exact jr_retA jf_140_31 jmt_140
      · refine jr_if2_lt_f jf_140_18 hc ?_
        exact r_B_keptAt_21 hd _  _ _ h
set_option maxRecDepth 10000 in
set_option maxHeartbeats 4000000 in
theorem r_B_keptAt {B : Nat} {SA : Nat → Nat} {d : Nat} (hd : 0 ≤ d) : ∀ (v0 : Nat) (v1 : Int32) (μ : JMem) (r : Option Nat), g_B_keptAt v0 v1 μ.1 = some r → jR B SA d m_B_keptAt 0 (lv_args 0 [.ref v0, .int v1]) [] μ (some (rv r)) μ := by
  intro v0 v1 μ r h
  exact r_B_keptAt_e hd (lv_args 0 _) _ _ _ _ (by simp [lv_args, jget, rv_cat, cat_int, cat_long, cat_double, cat_float, cat_ref]) (by simp [lv_args, jget, rv_cat, cat_int, cat_long, cat_double, cat_float, cat_ref]) h
/-! FilterBench$Row.load([JI)I -/
set_option maxRecDepth 10000 in
set_option maxHeartbeats 4000000 in
theorem r_Row_load_35 {N B : Nat} {SA : Nat → Nat} {d : Nat} (hd : 2 ≤ d) {k2 : Nat → Option Nat → Int32 → Int32 → JMem → Option (Int32 × JMem)} (i2 : ∀ (L : JLoc) (v0 : Nat) (v1 : Option Nat) (v2 : Int32) (v3 : Int32) (μ : JMem) (r : Int32) (μ9 : JMem), jget L 0 = .ref v0 → jget L 1 = rv v1 → jget L 2 = .int v2 → jget L 3 = .int v3 → k2 v0 v1 v2 v3 μ = some (r, μ9) → jR B SA d m_Row_load 2 L [] μ (some (.int r)) μ9) : ∀ (L : JLoc) (v0 : Nat) (v1 : Option Nat) (v2 : Int32) (v3 : Int32) (μ : JMem) (r : Int32) (μ9 : JMem), jget L 0 = .ref v0 → jget L 1 = rv v1 → jget L 2 = .int v2 → jget L 3 = .int v3 → g_Row_load_35 N B k2 v0 v1 v2 v3 μ = some (r, μ9) → jR B SA d m_Row_load 35 L [] μ (some (.int r)) μ9 := by
  intro L v0 v1 v2 v3 μ r μ9 hl0 hl1 hl2 hl3 h
  unfold g_Row_load_35 at h
  refine jr_iinc jf_145_35 jc_i_1 jml_145 (by decide) hl3 ?_
  refine jr_goto jf_145_38 ?_
  exact i2 _ _ _ _ _ _ _ _ (jg1_ne rfl hl0) (jg1_ne rfl hl1) (jg1_pre rfl hl2) jg1_same h
set_option maxRecDepth 10000 in
set_option maxHeartbeats 4000000 in
theorem r_Row_load_2 {N B : Nat} {SA : Nat → Nat} {d : Nat} (hd : 2 ≤ d) : ∀ (n : Nat), ∀ (L : JLoc) (v0 : Nat) (v1 : Option Nat) (v2 : Int32) (v3 : Int32) (μ : JMem) (r : Int32) (μ9 : JMem), jget L 0 = .ref v0 → jget L 1 = rv v1 → jget L 2 = .int v2 → jget L 3 = .int v3 → g_Row_load_2 N B n v0 v1 v2 v3 μ = some (r, μ9) → jR B SA d m_Row_load 2 L [] μ (some (.int r)) μ9 := by
  intro n
  induction n with
  | zero =>
    intro L v0 v1 v2 v3 μ r μ9 hl0 hl1 hl2 hl3 h
    unfold g_Row_load_2 at h
    cases h
  | succ n ih =>
    intro L v0 v1 v2 v3 μ r μ9 hl0 hl1 hl2 hl3 h
    unfold g_Row_load_2 at h
    refine jr_iload_n jf_145_2 rfl hl3 ?_
    refine jr_aload_n jf_145_3 rfl hl0 ?_
    replace h := obd_of h; obtain ⟨x1, hx1, h⟩ := h
    refine jr_getA jf_145_4 hx1 ?_
    replace h := obd_of h; obtain ⟨a2, rfl, h⟩ := h
    replace h := obd_of h; obtain ⟨x3, hx3, h⟩ := h
    refine jr_arraylength jf_145_7 hx3 ?_
    replace h := ite_or h; rcases h with ⟨hc, h⟩ | ⟨hc, h⟩
    · refine jr_if2_ge_t jf_145_8 hc ?_
      refine jr_iload_n jf_145_41 rfl hl2 ?_
      refine jr_aload_n jf_145_42 rfl hl0 ?_
      replace h := obd_of h; obtain ⟨x4, hx4, h⟩ := h
      refine jr_getA jf_145_43 hx4 ?_
      replace h := obd_of h; obtain ⟨a5, rfl, h⟩ := h
      replace h := obd_of h; obtain ⟨x6, hx6, h⟩ := h
      refine jr_arraylength jf_145_46 hx6 ?_
      refine jr_iadd jf_145_47 ?_
      obtain ⟨rfl, rfl⟩ := Prod.mk.inj (Option.some.inj h)
      exact jr_retI jf_145_48 jmt_145
    · refine jr_if2_ge_f jf_145_8 hc ?_
      refine jr_iload_n jf_145_11 rfl hl2 ?_
      refine jr_iload_n jf_145_12 rfl hl3 ?_
      refine jr_iadd jf_145_13 ?_
      replace h := ite_or h; rcases h with ⟨hc, h⟩ | ⟨hc, h⟩
      · refine jr_if_lt_t jf_145_14 hc ?_
        exact r_Row_load_35 hd ih _ _ _ _ _ _ _ _ hl0 hl1 hl2 hl3 h
      · refine jr_if_lt_f jf_145_14 hc ?_
        refine jr_iload_n jf_145_17 rfl hl2 ?_
        refine jr_iload_n jf_145_18 rfl hl3 ?_
        refine jr_iadd jf_145_19 ?_
        refine jr_aload_n_A jf_145_20 rfl hl1 ?_
        replace h := obd_of h; obtain ⟨a7, rfl, h⟩ := h
        replace h := obd_of h; obtain ⟨x8, hx8, h⟩ := h
        refine jr_arraylength jf_145_21 hx8 ?_
        replace h := ite_or h; rcases h with ⟨hc, h⟩ | ⟨hc, h⟩
        · refine jr_if2_ge_t jf_145_22 hc ?_
          exact r_Row_load_35 hd ih _ _ (some _) _ _ _ _ _ hl0 hl1 hl2 hl3 h
        · refine jr_if2_ge_f jf_145_22 hc ?_
          refine jr_aload_n jf_145_25 rfl hl0 ?_
          refine jr_iload_n jf_145_26 rfl hl3 ?_
          refine jr_aload_n jf_145_27 rfl hl1 ?_
          refine jr_iload_n jf_145_28 rfl hl2 ?_
          refine jr_iload_n jf_145_29 rfl hl3 ?_
          refine jr_iadd jf_145_30 ?_
          replace h := obd_of h; obtain ⟨x9, hx9, h⟩ := h
          refine jr_laload jf_145_31 hx9 ?_
          replace h := jgd_of h; obtain ⟨hb10, h⟩ := h
          replace h := obd_of h; obtain ⟨μ11, hμ11, h⟩ := h
          refine jr_V6v_2 jf_145_32 hb10 (by omega) (r_Row_put (by omega) _ _ _ _ _ hμ11) (Nat.le_of_ble_eq_true rfl) jml_66 (Nat.le_of_ble_eq_true rfl) ?_
          exact r_Row_load_35 hd ih _ _ (some _) _ _ _ _ _ hl0 hl1 hl2 hl3 h
set_option maxRecDepth 10000 in
set_option maxHeartbeats 4000000 in
theorem r_Row_load_e {N B : Nat} {SA : Nat → Nat} {d : Nat} (hd : 2 ≤ d) : ∀ (L : JLoc) (v0 : Nat) (v1 : Option Nat) (v2 : Int32) (μ : JMem) (r : Int32) (μ9 : JMem), jget L 0 = .ref v0 → jget L 1 = rv v1 → jget L 2 = .int v2 → g_Row_load N B v0 v1 v2 μ = some (r, μ9) → jR B SA d m_Row_load 0 L [] μ (some (.int r)) μ9 := by
  intro L v0 v1 v2 μ r μ9 hl0 hl1 hl2 h
  unfold g_Row_load at h
  refine jr_iconst jf_145_0 jc_i_0 ?_
  refine jr_istore_n jf_145_1 rfl jml_145 (by decide) ?_
  exact r_Row_load_2 hd _ _ _ _ _ _ _ _ _ (jg1_ne rfl hl0) (jg1_ne rfl hl1) (jg1_pre rfl hl2) jg1_same h
set_option maxRecDepth 10000 in
set_option maxHeartbeats 4000000 in
theorem r_Row_load {N B : Nat} {SA : Nat → Nat} {d : Nat} (hd : 2 ≤ d) : ∀ (v0 : Nat) (v1 : Option Nat) (v2 : Int32) (μ : JMem) (r : Int32) (μ9 : JMem), g_Row_load N B v0 v1 v2 μ = some (r, μ9) → jR B SA d m_Row_load 0 (lv_args 0 [.ref v0, rv v1, .int v2]) [] μ (some (.int r)) μ9 := by
  intro v0 v1 v2 μ r μ9 h
  exact r_Row_load_e hd (lv_args 0 _) _ _ _ _ _ _ (by simp [lv_args, jget, rv_cat, cat_int, cat_long, cat_double, cat_float, cat_ref]) (by simp [lv_args, jget, rv_cat, cat_int, cat_long, cat_double, cat_float, cat_ref]) (by simp [lv_args, jget, rv_cat, cat_int, cat_long, cat_double, cat_float, cat_ref]) h
/-! FilterBench$Chain.load([JI)I -/
set_option maxRecDepth 10000 in
set_option maxHeartbeats 4000000 in
theorem r_Chain_load_38 {N B : Nat} {SA : Nat → Nat} {d : Nat} (hd : 3 ≤ d) {k5 : Nat → Option Nat → Int32 → Int32 → JMem → Option (Int32 × JMem)} (i5 : ∀ (L : JLoc) (v0 : Nat) (v1 : Option Nat) (v3 : Int32) (v4 : Int32) (μ : JMem) (r : Int32) (μ9 : JMem), jget L 0 = .ref v0 → jget L 1 = rv v1 → jget L 3 = .int v3 → jget L 4 = .int v4 → k5 v0 v1 v3 v4 μ = some (r, μ9) → jR B SA d m_Chain_load 5 L [] μ (some (.int r)) μ9) : ∀ (L : JLoc) (v0 : Nat) (v1 : Option Nat) (v4 : Int32) (s0 : Int32) (μ : JMem) (r : Int32) (μ9 : JMem), jget L 0 = .ref v0 → jget L 1 = rv v1 → jget L 4 = .int v4 → g_Chain_load_38 N B k5 v0 v1 v4 s0 μ = some (r, μ9) → jR B SA d m_Chain_load 38 L [.int s0] μ (some (.int r)) μ9 := by
  intro L v0 v1 v4 s0 μ r μ9 hl0 hl1 hl4 h
  unfold g_Chain_load_38 at h
  refine jr_istore_n jf_144_38 rfl jml_144 (by decide) ?_
  refine jr_iinc jf_144_39 jc_i_1 jml_144 (by decide) (jg1_ne rfl hl4) ?_
  refine jr_goto jf_144_42 ?_
  exact i5 _ _ _ _ _ _ _ _ (jg1_ne rfl (jg1_ne rfl hl0)) (jg1_ne rfl (jg1_ne rfl hl1)) (jg1_pre rfl jg1_same) jg1_same h
set_option maxRecDepth 10000 in
set_option maxHeartbeats 4000000 in
theorem r_Chain_load_5 {N B : Nat} {SA : Nat → Nat} {d : Nat} (hd : 3 ≤ d) : ∀ (n : Nat), ∀ (L : JLoc) (v0 : Nat) (v1 : Option Nat) (v3 : Int32) (v4 : Int32) (μ : JMem) (r : Int32) (μ9 : JMem), jget L 0 = .ref v0 → jget L 1 = rv v1 → jget L 3 = .int v3 → jget L 4 = .int v4 → g_Chain_load_5 N B n v0 v1 v3 v4 μ = some (r, μ9) → jR B SA d m_Chain_load 5 L [] μ (some (.int r)) μ9 := by
  intro n
  induction n with
  | zero =>
    intro L v0 v1 v3 v4 μ r μ9 hl0 hl1 hl3 hl4 h
    unfold g_Chain_load_5 at h
    cases h
  | succ n ih =>
    intro L v0 v1 v3 v4 μ r μ9 hl0 hl1 hl3 hl4 h
    unfold g_Chain_load_5 at h
    refine jr_iload jf_144_5 hl4 ?_
    refine jr_aload_n jf_144_7 rfl hl0 ?_
    replace h := jgd_of h; obtain ⟨hb1, h⟩ := h
    replace h := obd_of h; obtain ⟨x2, hx2, h⟩ := h
    refine jr_V6_0 jf_144_8 hb1 (by omega) (r_Chain_rowCount (by omega) _ _ _ hx2) (Nat.le_of_ble_eq_true rfl) jml_129 (Nat.le_of_ble_eq_true rfl) ?_
    replace h := ite_or h; rcases h with ⟨hc, h⟩ | ⟨hc, h⟩
    · refine jr_if2_ge_t jf_144_11 hc ?_
      refine jr_iload_n jf_144_45 rfl hl3 ?_
      obtain ⟨rfl, rfl⟩ := Prod.mk.inj (Option.some.inj h)
      exact jr_retI jf_144_46 jmt_144
    · refine jr_if2_ge_f jf_144_11 hc ?_
      refine jr_aload_n jf_144_14 rfl hl0 ?_
      refine jr_iload jf_144_15 hl4 ?_
      replace h := jgd_of h; obtain ⟨hb3, h⟩ := h
      replace h := obd_of h; obtain ⟨x4, hx4, h⟩ := h
      refine jr_V6_1 jf_144_17 hb3 (by omega) (r_Chain_rowAt (by omega) _ _ _ _ hx4) (Nat.le_of_ble_eq_true rfl) jml_130 (Nat.le_of_ble_eq_true rfl) ?_
      refine jr_astore_A jf_144_20 jml_144 (by decide) ?_
      refine jr_aload_A jf_144_22 jg1_same ?_
      replace h := jon_or h; rcases h with ⟨rfl, h⟩ | ⟨a5, rfl, h⟩
      · refine jr_ifnonnull_n jf_144_24 ?_
        refine jr_iload_n jf_144_27 rfl (jg1_ne rfl hl3) ?_
        refine jr_goto jf_144_28 ?_
        exact r_Chain_load_38 hd ih _ _ _ _ _ _ _ _ (jg1_ne rfl hl0) (jg1_ne rfl hl1) (jg1_pre rfl hl4) h
      · refine jr_ifnonnull_s jf_144_24 ?_
        refine jr_aload jf_144_31 jg1_same ?_
        refine jr_aload_n_A jf_144_33 rfl (jg1_ne rfl hl1) ?_
        refine jr_iload_n jf_144_34 rfl (jg1_ne rfl hl3) ?_
        replace h := jgd_of h; obtain ⟨hb6, h⟩ := h
        replace h := jbd2_of h; obtain ⟨x7, μ8, hx7, h⟩ := h
        refine jr_V6_2 jf_144_35 hb6 (by omega) (r_Row_load (by omega) _ _ _ _ _ _ hx7) (Nat.le_of_ble_eq_true rfl) jml_145 (by simp only [jcats_cons, jcats_nil, cat_int, cat_long, cat_double, cat_float, cat_ref, rv_cat]; decide) ?_
        exact r_Chain_load_38 hd ih _ _ _ _ _ _ _ _ (jg1_ne rfl hl0) (jg1_ne rfl hl1) (jg1_pre rfl hl4) h
set_option maxRecDepth 10000 in
set_option maxHeartbeats 4000000 in
theorem r_Chain_load_e {N B : Nat} {SA : Nat → Nat} {d : Nat} (hd : 3 ≤ d) : ∀ (L : JLoc) (v0 : Nat) (v1 : Option Nat) (v2 : Int32) (μ : JMem) (r : Int32) (μ9 : JMem), jget L 0 = .ref v0 → jget L 1 = rv v1 → jget L 2 = .int v2 → g_Chain_load N B v0 v1 v2 μ = some (r, μ9) → jR B SA d m_Chain_load 0 L [] μ (some (.int r)) μ9 := by
  intro L v0 v1 v2 μ r μ9 hl0 hl1 hl2 h
  unfold g_Chain_load at h
  refine jr_iload_n jf_144_0 rfl hl2 ?_
  refine jr_istore_n jf_144_1 rfl jml_144 (by decide) ?_
  refine jr_iconst jf_144_2 jc_i_0 ?_
  refine jr_istore jf_144_3 jml_144 (by decide) ?_
  exact r_Chain_load_5 hd _ _ _ _ _ _ _ _ _ (jg1_ne rfl (jg1_ne rfl hl0)) (jg1_ne rfl (jg1_ne rfl hl1)) (jg1_pre rfl jg1_same) jg1_same h
set_option maxRecDepth 10000 in
set_option maxHeartbeats 4000000 in
theorem r_Chain_load {N B : Nat} {SA : Nat → Nat} {d : Nat} (hd : 3 ≤ d) : ∀ (v0 : Nat) (v1 : Option Nat) (v2 : Int32) (μ : JMem) (r : Int32) (μ9 : JMem), g_Chain_load N B v0 v1 v2 μ = some (r, μ9) → jR B SA d m_Chain_load 0 (lv_args 0 [.ref v0, rv v1, .int v2]) [] μ (some (.int r)) μ9 := by
  intro v0 v1 v2 μ r μ9 h
  exact r_Chain_load_e hd (lv_args 0 _) _ _ _ _ _ _ (by simp [lv_args, jget, rv_cat, cat_int, cat_long, cat_double, cat_float, cat_ref]) (by simp [lv_args, jget, rv_cat, cat_int, cat_long, cat_double, cat_float, cat_ref]) (by simp [lv_args, jget, rv_cat, cat_int, cat_long, cat_double, cat_float, cat_ref]) h
/-! FilterBench.back(I)Z -/
set_option maxRecDepth 10000 in
set_option maxHeartbeats 4000000 in
theorem r_B_back_70 {N B : Nat} {SA : Nat → Nat} {d : Nat} (hd : 4 ≤ d) {k25 : Nat → Nat → Int32 → Int32 → JMem → Option (Bool × JMem)} (i25 : ∀ (L : JLoc) (v0 : Nat) (v2 : Nat) (v3 : Int32) (v4 : Int32) (μ : JMem) (r : Bool) (μ9 : JMem), jget L 0 = .ref v0 → jget L 2 = .ref v2 → jget L 3 = .int v3 → jget L 4 = .int v4 → k25 v0 v2 v3 v4 μ = some (r, μ9) → jR B SA d m_B_back 25 L [] μ (some (.int (jb r))) μ9) : ∀ (L : JLoc) (v0 : Nat) (v2 : Nat) (v3 : Int32) (v4 : Int32) (μ : JMem) (r : Bool) (μ9 : JMem), jget L 0 = .ref v0 → jget L 2 = .ref v2 → jget L 3 = .int v3 → jget L 4 = .int v4 → g_B_back_70 N B k25 v0 v2 v3 v4 μ = some (r, μ9) → jR B SA d m_B_back 70 L [] μ (some (.int (jb r))) μ9 := by
  intro L v0 v2 v3 v4 μ r μ9 hl0 hl2 hl3 hl4 h
  unfold g_B_back_70 at h
  refine jr_iinc jf_139_70 jc_i_1 jml_139 (by decide) hl4 ?_
  refine jr_goto jf_139_73 ?_
  exact i25 _ _ _ _ _ _ _ _ (jg1_ne rfl hl0) (jg1_ne rfl hl2) (jg1_pre rfl hl3) jg1_same h
set_option maxRecDepth 10000 in
set_option maxHeartbeats 4000000 in
theorem r_B_back_25 {N B : Nat} {SA : Nat → Nat} {d : Nat} (hd : 4 ≤ d) : ∀ (n : Nat), ∀ (L : JLoc) (v0 : Nat) (v2 : Nat) (v3 : Int32) (v4 : Int32) (μ : JMem) (r : Bool) (μ9 : JMem), jget L 0 = .ref v0 → jget L 2 = .ref v2 → jget L 3 = .int v3 → jget L 4 = .int v4 → g_B_back_25 N B n v0 v2 v3 v4 μ = some (r, μ9) → jR B SA d m_B_back 25 L [] μ (some (.int (jb r))) μ9 := by
  intro n
  induction n with
  | zero =>
    intro L v0 v2 v3 v4 μ r μ9 hl0 hl2 hl3 hl4 h
    unfold g_B_back_25 at h
    cases h
  | succ n ih =>
    intro L v0 v2 v3 v4 μ r μ9 hl0 hl2 hl3 hl4 h
    unfold g_B_back_25 at h
    refine jr_iload jf_139_25 hl4 ?_
    refine jr_aload_n jf_139_27 rfl hl2 ?_
    replace h := jgd_of h; obtain ⟨hb1, h⟩ := h
    replace h := obd_of h; obtain ⟨x2, hx2, h⟩ := h
    refine jr_V6_0 jf_139_28 hb1 (by omega) (r_Kept_chainCount (by omega) _ _ _ hx2) (Nat.le_of_ble_eq_true rfl) jml_142 (Nat.le_of_ble_eq_true rfl) ?_
    replace h := ite_or h; rcases h with ⟨hc, h⟩ | ⟨hc, h⟩
    · refine jr_if2_ge_t jf_139_31 hc ?_
      refine jr_iconst jf_139_76 jc_i_1 ?_
      obtain ⟨rfl, rfl⟩ := Prod.mk.inj (Option.some.inj h)
      exact jr_retZ (x := true) jf_139_77 jmt_139
    · refine jr_if2_ge_f jf_139_31 hc ?_
      refine jr_iload jf_139_34 hl4 ?_
      refine jr_aload_n jf_139_36 rfl hl0 ?_
      replace h := obd_of h; obtain ⟨x3, hx3, h⟩ := h
      refine jr_getA jf_139_37 hx3 ?_
      replace h := obd_of h; obtain ⟨a4, rfl, h⟩ := h
      replace h := obd_of h; obtain ⟨x5, hx5, h⟩ := h
      refine jr_arraylength jf_139_40 hx5 ?_
      replace h := ite_or h; rcases h with ⟨hc, h⟩ | ⟨hc, h⟩
      · refine jr_if2_ge_t jf_139_41 hc ?_
        refine jr_iconst jf_139_76 jc_i_1 ?_
        obtain ⟨rfl, rfl⟩ := Prod.mk.inj (Option.some.inj h)
        exact jr_retZ (x := true) jf_139_77 jmt_139
      · refine jr_if2_ge_f jf_139_41 hc ?_
        refine jr_aload_n jf_139_44 rfl hl0 ?_
        replace h := obd_of h; obtain ⟨x6, hx6, h⟩ := h
        refine jr_getA jf_139_45 hx6 ?_
        refine jr_iload jf_139_48 hl4 ?_
        replace h := obd_of h; obtain ⟨a7, rfl, h⟩ := h
        replace h := obd_of h; obtain ⟨x8, hx8, h⟩ := h
        refine jr_aaload jf_139_50 hx8 ?_
        replace h := jon_or h; rcases h with ⟨rfl, h⟩ | ⟨a9, rfl, h⟩
        · refine jr_ifnull_n jf_139_51 ?_
          exact r_B_back_70 hd ih _ _ _ _ _ _ _ _ hl0 hl2 hl3 hl4 h
        · refine jr_ifnull_s jf_139_51 ?_
          refine jr_aload_n jf_139_54 rfl hl0 ?_
          replace h := obd_of h; obtain ⟨x10, hx10, h⟩ := h
          refine jr_getA jf_139_55 hx10 ?_
          refine jr_iload jf_139_58 hl4 ?_
          replace h := obd_of h; obtain ⟨a11, rfl, h⟩ := h
          replace h := obd_of h; obtain ⟨x12, hx12, h⟩ := h
          refine jr_aaload jf_139_60 hx12 ?_
          refine jr_aload_n jf_139_61 rfl hl2 ?_
          replace h := obd_of h; obtain ⟨x13, hx13, h⟩ := h
          refine jr_getA jf_139_62 hx13 ?_
          refine jr_iload_n jf_139_65 rfl hl3 ?_
          replace h := obd_of h; obtain ⟨a14, rfl, h⟩ := h
          replace h := jgd_of h; obtain ⟨hb15, h⟩ := h
          replace h := jbd2_of h; obtain ⟨x16, μ17, hx16, h⟩ := h
          refine jr_V6_2 jf_139_66 hb15 (by omega) (r_Chain_load (by omega) _ _ _ _ _ _ hx16) (Nat.le_of_ble_eq_true rfl) jml_144 (by simp only [jcats_cons, jcats_nil, cat_int, cat_long, cat_double, cat_float, cat_ref, rv_cat]; decide) ?_
          refine jr_istore_n jf_139_69 rfl jml_139 (by decide) ?_
          exact r_B_back_70 hd ih _ _ _ _ _ _ _ _ (jg1_ne rfl hl0) (jg1_pre (by first | rfl | exact rv_cat _) hl2) jg1_same (jg1_ne rfl hl4) h
set_option maxRecDepth 10000 in
set_option maxHeartbeats 4000000 in
theorem r_B_back_e {N B : Nat} {SA : Nat → Nat} {d : Nat} (hd : 4 ≤ d) : ∀ (L : JLoc) (v0 : Nat) (v1 : Int32) (μ : JMem) (r : Bool) (μ9 : JMem), jget L 0 = .ref v0 → jget L 1 = .int v1 → g_B_back N B v0 v1 μ = some (r, μ9) → jR B SA d m_B_back 0 L [] μ (some (.int (jb r))) μ9 := by
  intro L v0 v1 μ r μ9 hl0 hl1 h
  unfold g_B_back at h
  refine jr_aload_n jf_139_0 rfl hl0 ?_
  refine jr_iload_n jf_139_1 rfl hl1 ?_
  replace h := jgd_of h; obtain ⟨hb1, h⟩ := h
  replace h := obd_of h; obtain ⟨x2, hx2, h⟩ := h
  refine jr_V6_1 jf_139_2 hb1 (by omega) (r_B_keptAt (by omega) _ _ _ _ hx2) (Nat.le_of_ble_eq_true rfl) jml_140 (Nat.le_of_ble_eq_true rfl) ?_
  refine jr_astore_n_A jf_139_5 rfl jml_139 (by decide) ?_
  refine jr_aload_n_A jf_139_6 rfl jg1_same ?_
  replace h := jon_or h; rcases h with ⟨rfl, h⟩ | ⟨a3, rfl, h⟩
  · refine jr_ifnull_n jf_139_7 ?_
    refine jr_iconst jf_139_18 jc_i_0 ?_
    obtain ⟨rfl, rfl⟩ := Prod.mk.inj (Option.some.inj h)
    exact jr_retZ (x := false) jf_139_19 jmt_139
  · refine jr_ifnull_s jf_139_7 ?_
    refine jr_aload_n jf_139_10 rfl (jg1_ne rfl hl0) ?_
    refine jr_aload_n jf_139_11 rfl jg1_same ?_
    replace h := jgd_of h; obtain ⟨hb4, h⟩ := h
    replace h := jbd2_of h; obtain ⟨x5, μ6, hx5, h⟩ := h
    refine jr_V6_1 jf_139_12 hb4 (by omega) (r_B_gatherAsKept (by omega) _ _ _ _ _ hx5) (Nat.le_of_ble_eq_true rfl) jml_141 (by simp only [jcats_cons, jcats_nil, cat_int, cat_long, cat_double, cat_float, cat_ref, rv_cat]; decide) ?_
    replace h := ite_or h; rcases h with ⟨hc, h⟩ | ⟨hc, h⟩
    · refine jr_ifz_ne_t jf_139_15 hc ?_
      refine jr_iconst jf_139_20 jc_i_0 ?_
      refine jr_istore_n jf_139_21 rfl jml_139 (by decide) ?_
      refine jr_iconst jf_139_22 jc_i_0 ?_
      refine jr_istore jf_139_23 jml_139 (by decide) ?_
      exact r_B_back_25 hd _ _ _ _ _ _ _ _ _ (jg1_ne rfl (jg1_ne rfl (jg1_ne rfl hl0))) (jg1_ne rfl (jg1_pre (by first | rfl | exact rv_cat _) jg1_same)) (jg1_pre rfl jg1_same) jg1_same h
    · refine jr_ifz_ne_f jf_139_15 hc ?_
      refine jr_iconst jf_139_18 jc_i_0 ?_
      obtain ⟨rfl, rfl⟩ := Prod.mk.inj (Option.some.inj h)
      exact jr_retZ (x := false) jf_139_19 jmt_139
set_option maxRecDepth 10000 in
set_option maxHeartbeats 4000000 in
theorem r_B_back {N B : Nat} {SA : Nat → Nat} {d : Nat} (hd : 4 ≤ d) : ∀ (v0 : Nat) (v1 : Int32) (μ : JMem) (r : Bool) (μ9 : JMem), g_B_back N B v0 v1 μ = some (r, μ9) → jR B SA d m_B_back 0 (lv_args 0 [.ref v0, .int v1]) [] μ (some (.int (jb r))) μ9 := by
  intro v0 v1 μ r μ9 h
  exact r_B_back_e hd (lv_args 0 _) _ _ _ _ _ (by simp [lv_args, jget, rv_cat, cat_int, cat_long, cat_double, cat_float, cat_ref]) (by simp [lv_args, jget, rv_cat, cat_int, cat_long, cat_double, cat_float, cat_ref]) h
/-! FilterBench$Row.holdsValues([JI)Z -/
set_option maxRecDepth 10000 in
set_option maxHeartbeats 4000000 in
theorem r_Row_holdsValues_2 {N B : Nat} {SA : Nat → Nat} {d : Nat} (hd : 2 ≤ d) : ∀ (n : Nat), ∀ (L : JLoc) (v0 : Nat) (v1 : Option Nat) (v2 : Int32) (v3 : Int32) (μ : JMem) (r : Bool), jget L 0 = .ref v0 → jget L 1 = rv v1 → jget L 2 = .int v2 → jget L 3 = .int v3 → g_Row_holdsValues_2 N n v0 v1 v2 v3 μ.1 = some r → jR B SA d m_Row_holdsValues 2 L [] μ (some (.int (jb r))) μ := by
  intro n
  induction n with
  | zero =>
    intro L v0 v1 v2 v3 μ r hl0 hl1 hl2 hl3 h
    unfold g_Row_holdsValues_2 at h
    cases h
  | succ n ih =>
    intro L v0 v1 v2 v3 μ r hl0 hl1 hl2 hl3 h
    unfold g_Row_holdsValues_2 at h
    refine jr_iload_n jf_148_2 rfl hl3 ?_
    refine jr_aload_n jf_148_3 rfl hl0 ?_
    replace h := obd_of h; obtain ⟨x1, hx1, h⟩ := h
    refine jr_getA jf_148_4 hx1 ?_
    replace h := obd_of h; obtain ⟨a2, rfl, h⟩ := h
    replace h := obd_of h; obtain ⟨x3, hx3, h⟩ := h
    refine jr_arraylength jf_148_7 hx3 ?_
    replace h := ite_or h; rcases h with ⟨hc, h⟩ | ⟨hc, h⟩
    · refine jr_if2_ge_t jf_148_8 hc ?_
      refine jr_iconst jf_148_47 jc_i_1 ?_
      obtain rfl := Option.some.inj h
      exact jr_retZ (x := true) jf_148_48 jmt_148
    · refine jr_if2_ge_f jf_148_8 hc ?_
      refine jr_iload_n jf_148_11 rfl hl2 ?_
      refine jr_iload_n jf_148_12 rfl hl3 ?_
      refine jr_iadd jf_148_13 ?_
      replace h := ite_or h; rcases h with ⟨hc, h⟩ | ⟨hc, h⟩
      · refine jr_if_lt_t jf_148_14 hc ?_
        refine jr_iconst jf_148_39 jc_i_0 ?_
        obtain rfl := Option.some.inj h
        exact jr_retZ (x := false) jf_148_40 jmt_148
      · refine jr_if_lt_f jf_148_14 hc ?_
        refine jr_iload_n jf_148_17 rfl hl2 ?_
        refine jr_iload_n jf_148_18 rfl hl3 ?_
        refine jr_iadd jf_148_19 ?_
        refine jr_aload_n_A jf_148_20 rfl hl1 ?_
        replace h := obd_of h; obtain ⟨a4, rfl, h⟩ := h
        replace h := obd_of h; obtain ⟨x5, hx5, h⟩ := h
        refine jr_arraylength jf_148_21 hx5 ?_
        replace h := ite_or h; rcases h with ⟨hc, h⟩ | ⟨hc, h⟩
        · refine jr_if2_ge_t jf_148_22 hc ?_
          refine jr_iconst jf_148_39 jc_i_0 ?_
          obtain rfl := Option.some.inj h
          exact jr_retZ (x := false) jf_148_40 jmt_148
        · refine jr_if2_ge_f jf_148_22 hc ?_
          refine jr_aload_n jf_148_25 rfl hl1 ?_
          refine jr_iload_n jf_148_26 rfl hl2 ?_
          refine jr_iload_n jf_148_27 rfl hl3 ?_
          refine jr_iadd jf_148_28 ?_
          replace h := obd_of h; obtain ⟨x6, hx6, h⟩ := h
          refine jr_laload jf_148_29 hx6 ?_
          refine jr_aload_n jf_148_30 rfl hl0 ?_
          refine jr_iload_n jf_148_31 rfl hl3 ?_
          replace h := jgd_of h; obtain ⟨hb7, h⟩ := h
          replace h := obd_of h; obtain ⟨x8, hx8, h⟩ := h
          refine jr_V6_1 jf_148_32 hb7 (by omega) (r_Row_at (by omega) _ _ _ _ hx8) (Nat.le_of_ble_eq_true rfl) jml_38 (Nat.le_of_ble_eq_true rfl) ?_
          refine jr_lcmp jf_148_35 ?_
          replace h := ite_or h; rcases h with ⟨hc, h⟩ | ⟨hc, h⟩
          · refine jr_ifl_eq_t jf_148_36 hc ?_
            refine jr_iinc jf_148_41 jc_i_1 jml_148 (by decide) hl3 ?_
            refine jr_goto jf_148_44 ?_
            exact ih _ _ (some _) _ _ _ _ (jg1_ne rfl hl0) (jg1_ne rfl hl1) (jg1_pre rfl hl2) jg1_same h
          · refine jr_ifl_eq_f jf_148_36 hc ?_
            refine jr_iconst jf_148_39 jc_i_0 ?_
            obtain rfl := Option.some.inj h
            exact jr_retZ (x := false) jf_148_40 jmt_148
set_option maxRecDepth 10000 in
set_option maxHeartbeats 4000000 in
theorem r_Row_holdsValues_e {N B : Nat} {SA : Nat → Nat} {d : Nat} (hd : 2 ≤ d) : ∀ (L : JLoc) (v0 : Nat) (v1 : Option Nat) (v2 : Int32) (μ : JMem) (r : Bool), jget L 0 = .ref v0 → jget L 1 = rv v1 → jget L 2 = .int v2 → g_Row_holdsValues N v0 v1 v2 μ.1 = some r → jR B SA d m_Row_holdsValues 0 L [] μ (some (.int (jb r))) μ := by
  intro L v0 v1 v2 μ r hl0 hl1 hl2 h
  unfold g_Row_holdsValues at h
  refine jr_iconst jf_148_0 jc_i_0 ?_
  refine jr_istore_n jf_148_1 rfl jml_148 (by decide) ?_
  exact r_Row_holdsValues_2 hd _ _ _ _ _ _ _ _ (jg1_ne rfl hl0) (jg1_ne rfl hl1) (jg1_pre rfl hl2) jg1_same h
set_option maxRecDepth 10000 in
set_option maxHeartbeats 4000000 in
theorem r_Row_holdsValues {N B : Nat} {SA : Nat → Nat} {d : Nat} (hd : 2 ≤ d) : ∀ (v0 : Nat) (v1 : Option Nat) (v2 : Int32) (μ : JMem) (r : Bool), g_Row_holdsValues N v0 v1 v2 μ.1 = some r → jR B SA d m_Row_holdsValues 0 (lv_args 0 [.ref v0, rv v1, .int v2]) [] μ (some (.int (jb r))) μ := by
  intro v0 v1 v2 μ r h
  exact r_Row_holdsValues_e hd (lv_args 0 _) _ _ _ _ _ (by simp [lv_args, jget, rv_cat, cat_int, cat_long, cat_double, cat_float, cat_ref]) (by simp [lv_args, jget, rv_cat, cat_int, cat_long, cat_double, cat_float, cat_ref]) (by simp [lv_args, jget, rv_cat, cat_int, cat_long, cat_double, cat_float, cat_ref]) h
/-! FilterBench$Chain.holdsValues([JI)Z -/
set_option maxRecDepth 10000 in
set_option maxHeartbeats 4000000 in
theorem r_Chain_holdsValues_5 {N B : Nat} {SA : Nat → Nat} {d : Nat} (hd : 3 ≤ d) : ∀ (n : Nat), ∀ (L : JLoc) (v0 : Nat) (v1 : Option Nat) (v3 : Int32) (v4 : Int32) (μ : JMem) (r : Bool), jget L 0 = .ref v0 → jget L 1 = rv v1 → jget L 3 = .int v3 → jget L 4 = .int v4 → g_Chain_holdsValues_5 N n v0 v1 v3 v4 μ.1 = some r → jR B SA d m_Chain_holdsValues 5 L [] μ (some (.int (jb r))) μ := by
  intro n
  induction n with
  | zero =>
    intro L v0 v1 v3 v4 μ r hl0 hl1 hl3 hl4 h
    unfold g_Chain_holdsValues_5 at h
    cases h
  | succ n ih =>
    intro L v0 v1 v3 v4 μ r hl0 hl1 hl3 hl4 h
    unfold g_Chain_holdsValues_5 at h
    refine jr_iload jf_147_5 hl4 ?_
    refine jr_aload_n jf_147_7 rfl hl0 ?_
    replace h := jgd_of h; obtain ⟨hb1, h⟩ := h
    replace h := obd_of h; obtain ⟨x2, hx2, h⟩ := h
    refine jr_V6_0 jf_147_8 hb1 (by omega) (r_Chain_rowCount (by omega) _ _ _ hx2) (Nat.le_of_ble_eq_true rfl) jml_129 (Nat.le_of_ble_eq_true rfl) ?_
    replace h := ite_or h; rcases h with ⟨hc, h⟩ | ⟨hc, h⟩
    · refine jr_if2_ge_t jf_147_11 hc ?_
      refine jr_iconst jf_147_53 jc_i_1 ?_
      obtain rfl := Option.some.inj h
      exact jr_retZ (x := true) jf_147_54 jmt_147
    · refine jr_if2_ge_f jf_147_11 hc ?_
      refine jr_aload_n jf_147_14 rfl hl0 ?_
      refine jr_iload jf_147_15 hl4 ?_
      replace h := jgd_of h; obtain ⟨hb3, h⟩ := h
      replace h := obd_of h; obtain ⟨x4, hx4, h⟩ := h
      refine jr_V6_1 jf_147_17 hb3 (by omega) (r_Chain_rowAt (by omega) _ _ _ _ hx4) (Nat.le_of_ble_eq_true rfl) jml_130 (Nat.le_of_ble_eq_true rfl) ?_
      refine jr_astore_A jf_147_20 jml_147 (by decide) ?_
      refine jr_aload_A jf_147_22 jg1_same ?_
      replace h := jon_or h; rcases h with ⟨rfl, h⟩ | ⟨a5, rfl, h⟩
      · refine jr_ifnull_n jf_147_24 ?_
        refine jr_iconst jf_147_37 jc_i_0 ?_
        obtain rfl := Option.some.inj h
        exact jr_retZ (x := false) jf_147_38 jmt_147
      · refine jr_ifnull_s jf_147_24 ?_
        refine jr_aload jf_147_27 jg1_same ?_
        refine jr_aload_n_A jf_147_29 rfl (jg1_ne rfl hl1) ?_
        refine jr_iload_n jf_147_30 rfl (jg1_ne rfl hl3) ?_
        replace h := jgd_of h; obtain ⟨hb6, h⟩ := h
        replace h := obd_of h; obtain ⟨x7, hx7, h⟩ := h
        refine jr_V6_2 jf_147_31 hb6 (by omega) (r_Row_holdsValues (by omega) _ _ _ _ _ hx7) (Nat.le_of_ble_eq_true rfl) jml_148 (by simp only [jcats_cons, jcats_nil, cat_int, cat_long, cat_double, cat_float, cat_ref, rv_cat]; decide) ?_
        replace h := ite_or h; rcases h with ⟨hc, h⟩ | ⟨hc, h⟩
        · refine jr_ifz_ne_t jf_147_34 hc ?_
          refine jr_iload_n jf_147_39 rfl (jg1_ne rfl hl3) ?_
          refine jr_aload jf_147_40 jg1_same ?_
          replace h := jgd_of h; obtain ⟨hb8, h⟩ := h
          replace h := obd_of h; obtain ⟨x9, hx9, h⟩ := h
          refine jr_V6_0 jf_147_42 hb8 (by omega) (r_Row_size (by omega) _ _ _ hx9) (Nat.le_of_ble_eq_true rfl) jml_100 (Nat.le_of_ble_eq_true rfl) ?_
          refine jr_iadd jf_147_45 ?_
          refine jr_istore_n jf_147_46 rfl jml_147 (by decide) ?_
          refine jr_iinc jf_147_47 jc_i_1 jml_147 (by decide) (jg1_ne rfl (jg1_pre rfl hl4)) ?_
          refine jr_goto jf_147_50 ?_
          exact ih _ _ _ _ _ _ _ (jg1_ne rfl (jg1_ne rfl (jg1_ne rfl hl0))) (jg1_ne rfl (jg1_ne rfl (jg1_ne rfl hl1))) (jg1_pre rfl jg1_same) jg1_same h
        · refine jr_ifz_ne_f jf_147_34 hc ?_
          refine jr_iconst jf_147_37 jc_i_0 ?_
          obtain rfl := Option.some.inj h
          exact jr_retZ (x := false) jf_147_38 jmt_147
set_option maxRecDepth 10000 in
set_option maxHeartbeats 4000000 in
theorem r_Chain_holdsValues_e {N B : Nat} {SA : Nat → Nat} {d : Nat} (hd : 3 ≤ d) : ∀ (L : JLoc) (v0 : Nat) (v1 : Option Nat) (v2 : Int32) (μ : JMem) (r : Bool), jget L 0 = .ref v0 → jget L 1 = rv v1 → jget L 2 = .int v2 → g_Chain_holdsValues N v0 v1 v2 μ.1 = some r → jR B SA d m_Chain_holdsValues 0 L [] μ (some (.int (jb r))) μ := by
  intro L v0 v1 v2 μ r hl0 hl1 hl2 h
  unfold g_Chain_holdsValues at h
  refine jr_iload_n jf_147_0 rfl hl2 ?_
  refine jr_istore_n jf_147_1 rfl jml_147 (by decide) ?_
  refine jr_iconst jf_147_2 jc_i_0 ?_
  refine jr_istore jf_147_3 jml_147 (by decide) ?_
  exact r_Chain_holdsValues_5 hd _ _ _ _ _ _ _ _ (jg1_ne rfl (jg1_ne rfl hl0)) (jg1_ne rfl (jg1_ne rfl hl1)) (jg1_pre rfl jg1_same) jg1_same h
set_option maxRecDepth 10000 in
set_option maxHeartbeats 4000000 in
theorem r_Chain_holdsValues {N B : Nat} {SA : Nat → Nat} {d : Nat} (hd : 3 ≤ d) : ∀ (v0 : Nat) (v1 : Option Nat) (v2 : Int32) (μ : JMem) (r : Bool), g_Chain_holdsValues N v0 v1 v2 μ.1 = some r → jR B SA d m_Chain_holdsValues 0 (lv_args 0 [.ref v0, rv v1, .int v2]) [] μ (some (.int (jb r))) μ := by
  intro v0 v1 v2 μ r h
  exact r_Chain_holdsValues_e hd (lv_args 0 _) _ _ _ _ _ (by simp [lv_args, jget, rv_cat, cat_int, cat_long, cat_double, cat_float, cat_ref]) (by simp [lv_args, jget, rv_cat, cat_int, cat_long, cat_double, cat_float, cat_ref]) (by simp [lv_args, jget, rv_cat, cat_int, cat_long, cat_double, cat_float, cat_ref]) h
/-! FilterBench.same(I)Z -/
set_option maxRecDepth 10000 in
set_option maxHeartbeats 4000000 in
theorem r_B_same_25 {N B : Nat} {SA : Nat → Nat} {d : Nat} (hd : 4 ≤ d) : ∀ (n : Nat), ∀ (L : JLoc) (v0 : Nat) (v2 : Nat) (v3 : Int32) (v4 : Int32) (μ : JMem) (r : Bool) (μ9 : JMem), jget L 0 = .ref v0 → jget L 2 = .ref v2 → jget L 3 = .int v3 → jget L 4 = .int v4 → g_B_same_25 N B n v0 v2 v3 v4 μ = some (r, μ9) → jR B SA d m_B_same 25 L [] μ (some (.int (jb r))) μ9 := by
  intro n
  induction n with
  | zero =>
    intro L v0 v2 v3 v4 μ r μ9 hl0 hl2 hl3 hl4 h
    unfold g_B_same_25 at h
    cases h
  | succ n ih =>
    intro L v0 v2 v3 v4 μ r μ9 hl0 hl2 hl3 hl4 h
    unfold g_B_same_25 at h
    refine jr_iload jf_146_25 hl4 ?_
    refine jr_aload_n jf_146_27 rfl hl2 ?_
    replace h := jgd_of h; obtain ⟨hb1, h⟩ := h
    replace h := obd_of h; obtain ⟨x2, hx2, h⟩ := h
    refine jr_V6_0 jf_146_28 hb1 (by omega) (r_Kept_chainCount (by omega) _ _ _ hx2) (Nat.le_of_ble_eq_true rfl) jml_142 (Nat.le_of_ble_eq_true rfl) ?_
    replace h := ite_or h; rcases h with ⟨hc, h⟩ | ⟨hc, h⟩
    · refine jr_if2_ge_t jf_146_31 hc ?_
      refine jr_iconst jf_146_93 jc_i_1 ?_
      obtain ⟨rfl, rfl⟩ := Prod.mk.inj (Option.some.inj h)
      exact jr_retZ (x := true) jf_146_94 jmt_146
    · refine jr_if2_ge_f jf_146_31 hc ?_
      refine jr_iload jf_146_34 hl4 ?_
      refine jr_aload_n jf_146_36 rfl hl0 ?_
      replace h := obd_of h; obtain ⟨x3, hx3, h⟩ := h
      refine jr_getA jf_146_37 hx3 ?_
      replace h := obd_of h; obtain ⟨a4, rfl, h⟩ := h
      replace h := obd_of h; obtain ⟨x5, hx5, h⟩ := h
      refine jr_arraylength jf_146_40 hx5 ?_
      replace h := ite_or h; rcases h with ⟨hc, h⟩ | ⟨hc, h⟩
      · refine jr_if2_ge_t jf_146_41 hc ?_
        refine jr_iconst jf_146_93 jc_i_1 ?_
        obtain ⟨rfl, rfl⟩ := Prod.mk.inj (Option.some.inj h)
        exact jr_retZ (x := true) jf_146_94 jmt_146
      · refine jr_if2_ge_f jf_146_41 hc ?_
        refine jr_aload_n jf_146_44 rfl hl0 ?_
        replace h := obd_of h; obtain ⟨x6, hx6, h⟩ := h
        refine jr_getA jf_146_45 hx6 ?_
        refine jr_iload jf_146_48 hl4 ?_
        replace h := obd_of h; obtain ⟨a7, rfl, h⟩ := h
        replace h := obd_of h; obtain ⟨x8, hx8, h⟩ := h
        refine jr_aaload jf_146_50 hx8 ?_
        replace h := jon_or h; rcases h with ⟨rfl, h⟩ | ⟨a9, rfl, h⟩
        · refine jr_ifnull_n jf_146_51 ?_
          refine jr_iconst jf_146_72 jc_i_0 ?_
          obtain ⟨rfl, rfl⟩ := Prod.mk.inj (Option.some.inj h)
          exact jr_retZ (x := false) jf_146_73 jmt_146
        · refine jr_ifnull_s jf_146_51 ?_
          refine jr_aload_n jf_146_54 rfl hl0 ?_
          replace h := obd_of h; obtain ⟨x10, hx10, h⟩ := h
          refine jr_getA jf_146_55 hx10 ?_
          refine jr_iload jf_146_58 hl4 ?_
          replace h := obd_of h; obtain ⟨a11, rfl, h⟩ := h
          replace h := obd_of h; obtain ⟨x12, hx12, h⟩ := h
          refine jr_aaload jf_146_60 hx12 ?_
          refine jr_aload_n jf_146_61 rfl hl2 ?_
          replace h := obd_of h; obtain ⟨x13, hx13, h⟩ := h
          refine jr_getA jf_146_62 hx13 ?_
          refine jr_iload_n jf_146_65 rfl hl3 ?_
          replace h := obd_of h; obtain ⟨a14, rfl, h⟩ := h
          replace h := jgd_of h; obtain ⟨hb15, h⟩ := h
          replace h := obd_of h; obtain ⟨x16, hx16, h⟩ := h
          refine jr_V6_2 jf_146_66 hb15 (by omega) (r_Chain_holdsValues (by omega) _ _ _ _ _ hx16) (Nat.le_of_ble_eq_true rfl) jml_147 (by simp only [jcats_cons, jcats_nil, cat_int, cat_long, cat_double, cat_float, cat_ref, rv_cat]; decide) ?_
          replace h := ite_or h; rcases h with ⟨hc, h⟩ | ⟨hc, h⟩
          · refine jr_ifz_ne_t jf_146_69 hc ?_
            refine jr_iload_n jf_146_74 rfl hl3 ?_
            refine jr_aload_n jf_146_75 rfl hl0 ?_
            replace h := obd_of h; obtain ⟨x17, hx17, h⟩ := h
            refine jr_getA jf_146_76 hx17 ?_
            refine jr_iload jf_146_79 hl4 ?_
            replace h := obd_of h; obtain ⟨a18, rfl, h⟩ := h
            replace h := obd_of h; obtain ⟨x19, hx19, h⟩ := h
            refine jr_aaload jf_146_81 hx19 ?_
            replace h := obd_of h; obtain ⟨a20, rfl, h⟩ := h
            replace h := jgd_of h; obtain ⟨hb21, h⟩ := h
            replace h := obd_of h; obtain ⟨x22, hx22, h⟩ := h
            refine jr_V6_0 jf_146_82 hb21 (by omega) (r_Chain_valueCount (by omega) _ _ _ hx22) (Nat.le_of_ble_eq_true rfl) jml_134 (Nat.le_of_ble_eq_true rfl) ?_
            refine jr_iadd jf_146_85 ?_
            refine jr_istore_n jf_146_86 rfl jml_146 (by decide) ?_
            refine jr_iinc jf_146_87 jc_i_1 jml_146 (by decide) (jg1_ne rfl hl4) ?_
            refine jr_goto jf_146_90 ?_
            exact ih _ _ _ _ _ _ _ _ (jg1_ne rfl (jg1_ne rfl hl0)) (jg1_ne rfl (jg1_pre (by first | rfl | exact rv_cat _) hl2)) (jg1_pre rfl jg1_same) jg1_same h
          · refine jr_ifz_ne_f jf_146_69 hc ?_
            refine jr_iconst jf_146_72 jc_i_0 ?_
            obtain ⟨rfl, rfl⟩ := Prod.mk.inj (Option.some.inj h)
            exact jr_retZ (x := false) jf_146_73 jmt_146
set_option maxRecDepth 10000 in
set_option maxHeartbeats 4000000 in
theorem r_B_same_e {N B : Nat} {SA : Nat → Nat} {d : Nat} (hd : 4 ≤ d) : ∀ (L : JLoc) (v0 : Nat) (v1 : Int32) (μ : JMem) (r : Bool) (μ9 : JMem), jget L 0 = .ref v0 → jget L 1 = .int v1 → g_B_same N B v0 v1 μ = some (r, μ9) → jR B SA d m_B_same 0 L [] μ (some (.int (jb r))) μ9 := by
  intro L v0 v1 μ r μ9 hl0 hl1 h
  unfold g_B_same at h
  refine jr_aload_n jf_146_0 rfl hl0 ?_
  refine jr_iload_n jf_146_1 rfl hl1 ?_
  replace h := jgd_of h; obtain ⟨hb1, h⟩ := h
  replace h := obd_of h; obtain ⟨x2, hx2, h⟩ := h
  refine jr_V6_1 jf_146_2 hb1 (by omega) (r_B_keptAt (by omega) _ _ _ _ hx2) (Nat.le_of_ble_eq_true rfl) jml_140 (Nat.le_of_ble_eq_true rfl) ?_
  refine jr_astore_n_A jf_146_5 rfl jml_146 (by decide) ?_
  refine jr_aload_n_A jf_146_6 rfl jg1_same ?_
  replace h := jon_or h; rcases h with ⟨rfl, h⟩ | ⟨a3, rfl, h⟩
  · refine jr_ifnull_n jf_146_7 ?_
    refine jr_iconst jf_146_18 jc_i_0 ?_
    obtain ⟨rfl, rfl⟩ := Prod.mk.inj (Option.some.inj h)
    exact jr_retZ (x := false) jf_146_19 jmt_146
  · refine jr_ifnull_s jf_146_7 ?_
    refine jr_aload_n jf_146_10 rfl (jg1_ne rfl hl0) ?_
    refine jr_aload_n jf_146_11 rfl jg1_same ?_
    replace h := jgd_of h; obtain ⟨hb4, h⟩ := h
    replace h := jbd2_of h; obtain ⟨x5, μ6, hx5, h⟩ := h
    refine jr_V6_1 jf_146_12 hb4 (by omega) (r_B_gatherAsKept (by omega) _ _ _ _ _ hx5) (Nat.le_of_ble_eq_true rfl) jml_141 (by simp only [jcats_cons, jcats_nil, cat_int, cat_long, cat_double, cat_float, cat_ref, rv_cat]; decide) ?_
    replace h := ite_or h; rcases h with ⟨hc, h⟩ | ⟨hc, h⟩
    · refine jr_ifz_ne_t jf_146_15 hc ?_
      refine jr_iconst jf_146_20 jc_i_0 ?_
      refine jr_istore_n jf_146_21 rfl jml_146 (by decide) ?_
      refine jr_iconst jf_146_22 jc_i_0 ?_
      refine jr_istore jf_146_23 jml_146 (by decide) ?_
      exact r_B_same_25 hd _ _ _ _ _ _ _ _ _ (jg1_ne rfl (jg1_ne rfl (jg1_ne rfl hl0))) (jg1_ne rfl (jg1_pre (by first | rfl | exact rv_cat _) jg1_same)) (jg1_pre rfl jg1_same) jg1_same h
    · refine jr_ifz_ne_f jf_146_15 hc ?_
      refine jr_iconst jf_146_18 jc_i_0 ?_
      obtain ⟨rfl, rfl⟩ := Prod.mk.inj (Option.some.inj h)
      exact jr_retZ (x := false) jf_146_19 jmt_146
set_option maxRecDepth 10000 in
set_option maxHeartbeats 4000000 in
theorem r_B_same {N B : Nat} {SA : Nat → Nat} {d : Nat} (hd : 4 ≤ d) : ∀ (v0 : Nat) (v1 : Int32) (μ : JMem) (r : Bool) (μ9 : JMem), g_B_same N B v0 v1 μ = some (r, μ9) → jR B SA d m_B_same 0 (lv_args 0 [.ref v0, .int v1]) [] μ (some (.int (jb r))) μ9 := by
  intro v0 v1 μ r μ9 h
  exact r_B_same_e hd (lv_args 0 _) _ _ _ _ _ (by simp [lv_args, jget, rv_cat, cat_int, cat_long, cat_double, cat_float, cat_ref]) (by simp [lv_args, jget, rv_cat, cat_int, cat_long, cat_double, cat_float, cat_ref]) h
/-! FilterBench.comparedToOnePlus(JJ)I -/
set_option maxRecDepth 10000 in
set_option maxHeartbeats 4000000 in
theorem r_B_comparedToOnePlus_e {B : Nat} {SA : Nat → Nat} {d : Nat} (hd : 4 ≤ d) : ∀ (L : JLoc) (v0 : Nat) (v1 : Int64) (v3 : Int64) (μ : JMem) (r : Int32), jget L 0 = .ref v0 → jget L 1 = .long v1 → jget L 3 = .long v3 → g_B_comparedToOnePlus v0 v1 v3 μ.1 = some r → jR B SA d m_B_comparedToOnePlus 0 L [] μ (some (.int r)) μ := by
  intro L v0 v1 v3 μ r hl0 hl1 hl3 h
  unfold g_B_comparedToOnePlus at h
  refine jr_aload_n jf_157_0 rfl hl0 ?_
  replace h := obd_of h; obtain ⟨x1, hx1, h⟩ := h
  refine jr_getA jf_157_1 hx1 ?_
  refine jr_lload_n jf_157_4 rfl hl1 ?_
  refine jr_ldc2l jf_157_5 ?_
  replace h := obd_of h; obtain ⟨a2, rfl, h⟩ := h
  replace h := jgd_of h; obtain ⟨hb3, h⟩ := h
  replace h := obd_of h; obtain ⟨x4, hx4, h⟩ := h
  refine jr_V6_2 jf_157_8 hb3 (by omega) (r_Real_compared (by omega) _ _ _ _ _ hx4) (Nat.le_of_ble_eq_true rfl) jml_105 (Nat.le_of_ble_eq_true rfl) ?_
  replace h := ite_or h; rcases h with ⟨hc, h⟩ | ⟨hc, h⟩
  · refine jr_if_le_t jf_157_11 hc ?_
    refine jr_aload_n jf_157_16 rfl hl0 ?_
    replace h := obd_of h; obtain ⟨x5, hx5, h⟩ := h
    refine jr_getA jf_157_17 hx5 ?_
    refine jr_lload_n jf_157_20 rfl hl1 ?_
    refine jr_ldc2l jf_157_21 ?_
    replace h := obd_of h; obtain ⟨a6, rfl, h⟩ := h
    replace h := jgd_of h; obtain ⟨hb7, h⟩ := h
    replace h := obd_of h; obtain ⟨x8, hx8, h⟩ := h
    refine jr_V6_2 jf_157_24 hb7 (by omega) (r_Real_compared (by omega) _ _ _ _ _ hx8) (Nat.le_of_ble_eq_true rfl) jml_105 (Nat.le_of_ble_eq_true rfl) ?_
    replace h := ite_or h; rcases h with ⟨hc, h⟩ | ⟨hc, h⟩
    · refine jr_if_lt_t jf_157_27 hc ?_
      refine jr_aload_n jf_157_57 rfl hl0 ?_
      replace h := obd_of h; obtain ⟨x9, hx9, h⟩ := h
      refine jr_getA jf_157_58 hx9 ?_
      refine jr_lload_n jf_157_61 rfl hl3 ?_
      refine jr_aload_n jf_157_62 rfl hl0 ?_
      replace h := obd_of h; obtain ⟨x10, hx10, h⟩ := h
      refine jr_getA jf_157_63 hx10 ?_
      refine jr_ldc2l jf_157_66 ?_
      replace h := obd_of h; obtain ⟨a11, rfl, h⟩ := h
      replace h := jgd_of h; obtain ⟨hb12, h⟩ := h
      replace h := obd_of h; obtain ⟨x13, hx13, h⟩ := h
      refine jr_V6_1 jf_157_69 hb12 (by omega) (r_Real_negative (by omega) _ _ _ _ hx13) (by simp only [jcats_cons, jcats_nil, cat_int, cat_long, cat_double, cat_float, cat_ref, rv_cat]; decide) jml_92 (Nat.le_of_ble_eq_true rfl) ?_
      replace h := obd_of h; obtain ⟨a14, rfl, h⟩ := h
      replace h := jgd_of h; obtain ⟨hb15, h⟩ := h
      replace h := obd_of h; obtain ⟨x16, hx16, h⟩ := h
      refine jr_V6_2 jf_157_72 hb15 (by omega) (r_Real_compared (by omega) _ _ _ _ _ hx16) (Nat.le_of_ble_eq_true rfl) jml_105 (Nat.le_of_ble_eq_true rfl) ?_
      replace h := ite_or h; rcases h with ⟨hc, h⟩ | ⟨hc, h⟩
      · refine jr_if_le_t jf_157_75 hc ?_
        refine jr_aload_n jf_157_80 rfl hl0 ?_
        replace h := obd_of h; obtain ⟨x17, hx17, h⟩ := h
        refine jr_getA jf_157_81 hx17 ?_
        refine jr_aload_n jf_157_84 rfl hl0 ?_
        replace h := obd_of h; obtain ⟨x18, hx18, h⟩ := h
        refine jr_getA jf_157_85 hx18 ?_
        refine jr_lload_n jf_157_88 rfl hl3 ?_
        refine jr_ldc2l jf_157_89 ?_
        replace h := obd_of h; obtain ⟨a19, rfl, h⟩ := h
        replace h := jgd_of h; obtain ⟨hb20, h⟩ := h
        replace h := obd_of h; obtain ⟨x21, hx21, h⟩ := h
        refine jr_V6_2 jf_157_92 hb20 (by omega) (r_Real_plus (by omega) _ _ _ _ _ hx21) (by simp only [jcats_cons, jcats_nil, cat_int, cat_long, cat_double, cat_float, cat_ref, rv_cat]; decide) jml_74 (Nat.le_of_ble_eq_true rfl) ?_
        refine jr_lload_n jf_157_95 rfl hl1 ?_
        replace h := obd_of h; obtain ⟨a22, rfl, h⟩ := h
        replace h := jgd_of h; obtain ⟨hb23, h⟩ := h
        replace h := obd_of h; obtain ⟨x24, hx24, h⟩ := h
        refine jr_V6_2 jf_157_96 hb23 (by omega) (r_Real_compared (by omega) _ _ _ _ _ hx24) (Nat.le_of_ble_eq_true rfl) jml_105 (Nat.le_of_ble_eq_true rfl) ?_
        obtain rfl := Option.some.inj h
        exact jr_retI jf_157_99 jmt_157
      · refine jr_if_le_f jf_157_75 hc ?_
        refine jr_iconst jf_157_78 jc_i_1 ?_
        obtain rfl := Option.some.inj h
        exact jr_retI jf_157_79 jmt_157
    · refine jr_if_lt_f jf_157_27 hc ?_
      refine jr_aload_n jf_157_30 rfl hl0 ?_
      replace h := obd_of h; obtain ⟨x25, hx25, h⟩ := h
      refine jr_getA jf_157_31 hx25 ?_
      refine jr_lload_n jf_157_34 rfl hl3 ?_
      refine jr_aload_n jf_157_35 rfl hl0 ?_
      replace h := obd_of h; obtain ⟨x26, hx26, h⟩ := h
      refine jr_getA jf_157_36 hx26 ?_
      refine jr_lload_n jf_157_39 rfl hl1 ?_
      refine jr_aload_n jf_157_40 rfl hl0 ?_
      replace h := obd_of h; obtain ⟨x27, hx27, h⟩ := h
      refine jr_getA jf_157_41 hx27 ?_
      refine jr_ldc2l jf_157_44 ?_
      replace h := obd_of h; obtain ⟨a28, rfl, h⟩ := h
      replace h := jgd_of h; obtain ⟨hb29, h⟩ := h
      replace h := obd_of h; obtain ⟨x30, hx30, h⟩ := h
      refine jr_V6_1 jf_157_47 hb29 (by omega) (r_Real_negative (by omega) _ _ _ _ hx30) (by simp only [jcats_cons, jcats_nil, cat_int, cat_long, cat_double, cat_float, cat_ref, rv_cat]; decide) jml_92 (Nat.le_of_ble_eq_true rfl) ?_
      replace h := obd_of h; obtain ⟨a31, rfl, h⟩ := h
      replace h := jgd_of h; obtain ⟨hb32, h⟩ := h
      replace h := obd_of h; obtain ⟨x33, hx33, h⟩ := h
      refine jr_V6_2 jf_157_50 hb32 (by omega) (r_Real_plus (by omega) _ _ _ _ _ hx33) (by simp only [jcats_cons, jcats_nil, cat_int, cat_long, cat_double, cat_float, cat_ref, rv_cat]; decide) jml_74 (Nat.le_of_ble_eq_true rfl) ?_
      replace h := obd_of h; obtain ⟨a34, rfl, h⟩ := h
      replace h := jgd_of h; obtain ⟨hb35, h⟩ := h
      replace h := obd_of h; obtain ⟨x36, hx36, h⟩ := h
      refine jr_V6_2 jf_157_53 hb35 (by omega) (r_Real_compared (by omega) _ _ _ _ _ hx36) (Nat.le_of_ble_eq_true rfl) jml_105 (Nat.le_of_ble_eq_true rfl) ?_
      obtain rfl := Option.some.inj h
      exact jr_retI jf_157_56 jmt_157
  · refine jr_if_le_f jf_157_11 hc ?_
    refine jr_iconst jf_157_14 jc_i_m1 ?_
    obtain rfl := Option.some.inj h
    exact jr_retI jf_157_15 jmt_157
set_option maxRecDepth 10000 in
set_option maxHeartbeats 4000000 in
theorem r_B_comparedToOnePlus {B : Nat} {SA : Nat → Nat} {d : Nat} (hd : 4 ≤ d) : ∀ (v0 : Nat) (v1 : Int64) (v3 : Int64) (μ : JMem) (r : Int32), g_B_comparedToOnePlus v0 v1 v3 μ.1 = some r → jR B SA d m_B_comparedToOnePlus 0 (lv_args 0 [.ref v0, .long v1, .long v3]) [] μ (some (.int r)) μ := by
  intro v0 v1 v3 μ r h
  exact r_B_comparedToOnePlus_e hd (lv_args 0 _) _ _ _ _ _ (by simp [lv_args, jget, rv_cat, cat_int, cat_long, cat_double, cat_float, cat_ref]) (by simp [lv_args, jget, rv_cat, cat_int, cat_long, cat_double, cat_float, cat_ref]) (by simp [lv_args, jget, rv_cat, cat_int, cat_long, cat_double, cat_float, cat_ref]) h
/-! FilterBench.judged(I)I -/
set_option maxRecDepth 10000 in
set_option maxHeartbeats 4000000 in
theorem r_B_judged_e {B : Nat} {SA : Nat → Nat} {d : Nat} (hd : 0 ≤ d) : ∀ (L : JLoc) (v0 : Int32) (μ : JMem) (r : Int32), jget L 0 = .int v0 → g_B_judged v0 = r → jR B SA d m_B_judged 0 L [] μ (some (.int r)) μ := by
  intro L v0 μ r hl0 h
  unfold g_B_judged at h
  refine jr_iload_n jf_155_0 rfl hl0 ?_
  replace h := ite_or h; rcases h with ⟨hc, h⟩ | ⟨hc, h⟩
  · refine jr_if_le_t jf_155_1 hc ?_
    refine jr_iload_n jf_155_8 rfl hl0 ?_
    replace h := ite_or h; rcases h with ⟨hc, h⟩ | ⟨hc, h⟩
    · refine jr_if_ne_f jf_155_9 hc ?_
      refine jr_iconst jf_155_12 jc_i_2 ?_
      refine jr_goto jf_155_13 ?_
      subst h
      exact jr_retI jf_155_17 jmt_155
    · refine jr_if_ne_t jf_155_9 hc ?_
      refine jr_iconst jf_155_16 jc_i_0 ?_
      subst h
      exact jr_retI jf_155_17 jmt_155
  · refine jr_if_le_f jf_155_1 hc ?_
    refine jr_iconst jf_155_4 jc_i_1 ?_
    refine jr_goto jf_155_5 ?_
    subst h
    exact jr_retI jf_155_17 jmt_155
set_option maxRecDepth 10000 in
set_option maxHeartbeats 4000000 in
theorem r_B_judged {B : Nat} {SA : Nat → Nat} {d : Nat} (hd : 0 ≤ d) : ∀ (v0 : Int32) (μ : JMem) (r : Int32), g_B_judged v0 = r → jR B SA d m_B_judged 0 (lv_args 0 [.int v0]) [] μ (some (.int r)) μ := by
  intro v0 μ r h
  exact r_B_judged_e hd (lv_args 0 _) _ _ _ (by simp [lv_args, jget, rv_cat, cat_int, cat_long, cat_double, cat_float, cat_ref]) h
/-! FilterBench$Real.isFinite(J)Z -/
set_option maxRecDepth 10000 in
set_option maxHeartbeats 4000000 in
theorem r_Real_isFinite_e {B : Nat} {SA : Nat → Nat} {d : Nat} (hd : 0 ≤ d) : ∀ (L : JLoc) (v0 : Nat) (v1 : Int64) (μ : JMem) (r : Bool), jget L 0 = .ref v0 → jget L 1 = .long v1 → g_Real_isFinite v0 v1 μ.1 = some r → jR B SA d m_Real_isFinite 0 L [] μ (some (.int (jb r))) μ := by
  intro L v0 v1 μ r hl0 hl1 h
  unfold g_Real_isFinite at h
  refine jr_lload_n jf_154_0 rfl hl1 ?_
  refine jr_aload_n jf_154_1 rfl hl0 ?_
  replace h := obd_of h; obtain ⟨x1, hx1, h⟩ := h
  refine jr_getJ jf_154_2 hx1 ?_
  refine jr_ldc2l jf_154_5 ?_
  refine jr_lxor jf_154_8 ?_
  refine jr_land jf_154_9 ?_
  refine jr_aload_n jf_154_10 rfl hl0 ?_
  replace h := obd_of h; obtain ⟨x2, hx2, h⟩ := h
  refine jr_getJ jf_154_11 hx2 ?_
  refine jr_lcmp jf_154_14 ?_
  replace h := ite_or h; rcases h with ⟨hc, h⟩ | ⟨hc, h⟩
  · refine jr_ifl_ge_t jf_154_15 hc ?_
    refine jr_iconst jf_154_22 jc_i_0 ?_
    obtain rfl := Option.some.inj h
    exact jr_retZ (x := false) jf_154_23 jmt_154
  · refine jr_ifl_ge_f jf_154_15 hc ?_
    refine jr_iconst jf_154_18 jc_i_1 ?_
    refine jr_goto jf_154_19 ?_
    obtain rfl := Option.some.inj h
    exact jr_retZ (x := true) jf_154_23 jmt_154
set_option maxRecDepth 10000 in
set_option maxHeartbeats 4000000 in
theorem r_Real_isFinite {B : Nat} {SA : Nat → Nat} {d : Nat} (hd : 0 ≤ d) : ∀ (v0 : Nat) (v1 : Int64) (μ : JMem) (r : Bool), g_Real_isFinite v0 v1 μ.1 = some r → jR B SA d m_Real_isFinite 0 (lv_args 0 [.ref v0, .long v1]) [] μ (some (.int (jb r))) μ := by
  intro v0 v1 μ r h
  exact r_Real_isFinite_e hd (lv_args 0 _) _ _ _ _ (by simp [lv_args, jget, rv_cat, cat_int, cat_long, cat_double, cat_float, cat_ref]) (by simp [lv_args, jget, rv_cat, cat_int, cat_long, cat_double, cat_float, cat_ref]) h
/-! FilterBench.judgedPair(JJ)I -/
set_option maxRecDepth 10000 in
set_option maxHeartbeats 4000000 in
theorem r_B_judgedPair_80 {B : Nat} {SA : Nat → Nat} {d : Nat} (hd : 5 ≤ d) : ∀ (L : JLoc) (s0 : Int32) (μ : JMem) (r : Int32), g_B_judgedPair_80 s0 μ.1 = some r → jR B SA d m_B_judgedPair 80 L [.int s0] μ (some (.int r)) μ := by
  intro L s0 μ r h
  unfold g_B_judgedPair_80 at h
  refine jr_S3_1 jf_156_80 (by omega) (r_B_judged (by omega) _ _ _ rfl) (Nat.le_of_ble_eq_true rfl) jml_155 (Nat.le_of_ble_eq_true rfl) ?_
  obtain rfl := Option.some.inj h
  exact jr_retI jf_156_83 jmt_156
set_option maxRecDepth 10000 in
set_option maxHeartbeats 4000000 in
theorem r_B_judgedPair_e {B : Nat} {SA : Nat → Nat} {d : Nat} (hd : 5 ≤ d) : ∀ (L : JLoc) (v0 : Nat) (v1 : Int64) (v3 : Int64) (μ : JMem) (r : Int32), jget L 0 = .ref v0 → jget L 1 = .long v1 → jget L 3 = .long v3 → g_B_judgedPair v0 v1 v3 μ.1 = some r → jR B SA d m_B_judgedPair 0 L [] μ (some (.int r)) μ := by
  intro L v0 v1 v3 μ r hl0 hl1 hl3 h
  unfold g_B_judgedPair at h
  refine jr_aload_n jf_156_0 rfl hl0 ?_
  replace h := obd_of h; obtain ⟨x1, hx1, h⟩ := h
  refine jr_getA jf_156_1 hx1 ?_
  refine jr_lload_n jf_156_4 rfl hl1 ?_
  replace h := obd_of h; obtain ⟨a2, rfl, h⟩ := h
  replace h := jgd_of h; obtain ⟨hb3, h⟩ := h
  replace h := obd_of h; obtain ⟨x4, hx4, h⟩ := h
  refine jr_V6_1 jf_156_5 hb3 (by omega) (r_Real_isFinite (by omega) _ _ _ _ hx4) (Nat.le_of_ble_eq_true rfl) jml_154 (Nat.le_of_ble_eq_true rfl) ?_
  replace h := ite_or h; rcases h with ⟨hc, h⟩ | ⟨hc, h⟩
  · refine jr_ifz_eq_f jf_156_8 hc ?_
    refine jr_aload_n jf_156_11 rfl hl0 ?_
    replace h := obd_of h; obtain ⟨x5, hx5, h⟩ := h
    refine jr_getA jf_156_12 hx5 ?_
    refine jr_lload_n jf_156_15 rfl hl3 ?_
    replace h := obd_of h; obtain ⟨a6, rfl, h⟩ := h
    replace h := jgd_of h; obtain ⟨hb7, h⟩ := h
    replace h := obd_of h; obtain ⟨x8, hx8, h⟩ := h
    refine jr_V6_1 jf_156_16 hb7 (by omega) (r_Real_isFinite (by omega) _ _ _ _ hx8) (Nat.le_of_ble_eq_true rfl) jml_154 (Nat.le_of_ble_eq_true rfl) ?_
    replace h := ite_or h; rcases h with ⟨hc, h⟩ | ⟨hc, h⟩
    · refine jr_ifz_ne_t jf_156_19 hc ?_
      refine jr_aload_n jf_156_24 rfl hl0 ?_
      replace h := obd_of h; obtain ⟨x9, hx9, h⟩ := h
      refine jr_getA jf_156_25 hx9 ?_
      refine jr_ldc2l jf_156_28 ?_
      refine jr_aload_n jf_156_31 rfl hl0 ?_
      replace h := obd_of h; obtain ⟨x10, hx10, h⟩ := h
      refine jr_getA jf_156_32 hx10 ?_
      refine jr_lload_n jf_156_35 rfl hl3 ?_
      replace h := obd_of h; obtain ⟨a11, rfl, h⟩ := h
      replace h := jgd_of h; obtain ⟨hb12, h⟩ := h
      replace h := obd_of h; obtain ⟨x13, hx13, h⟩ := h
      refine jr_V6_1 jf_156_36 hb12 (by omega) (r_Real_sizeOf (by omega) _ _ _ _ hx13) (by simp only [jcats_cons, jcats_nil, cat_int, cat_long, cat_double, cat_float, cat_ref, rv_cat]; decide) jml_31 (Nat.le_of_ble_eq_true rfl) ?_
      replace h := obd_of h; obtain ⟨a14, rfl, h⟩ := h
      replace h := jgd_of h; obtain ⟨hb15, h⟩ := h
      replace h := obd_of h; obtain ⟨x16, hx16, h⟩ := h
      refine jr_V6_2 jf_156_39 hb15 (by omega) (r_Real_compared (by omega) _ _ _ _ _ hx16) (Nat.le_of_ble_eq_true rfl) jml_105 (Nat.le_of_ble_eq_true rfl) ?_
      refine jr_istore jf_156_42 jml_156 (by decide) ?_
      refine jr_iload jf_156_44 jg1_same ?_
      replace h := ite_or h; rcases h with ⟨hc, h⟩ | ⟨hc, h⟩
      · refine jr_if_ge_t jf_156_46 hc ?_
        refine jr_aload_n jf_156_51 rfl (jg1_ne rfl hl0) ?_
        refine jr_aload_n jf_156_52 rfl (jg1_ne rfl hl0) ?_
        replace h := obd_of h; obtain ⟨x17, hx17, h⟩ := h
        refine jr_getA jf_156_53 hx17 ?_
        refine jr_lload_n jf_156_56 rfl (jg1_ne rfl hl1) ?_
        replace h := obd_of h; obtain ⟨a18, rfl, h⟩ := h
        replace h := jgd_of h; obtain ⟨hb19, h⟩ := h
        replace h := obd_of h; obtain ⟨x20, hx20, h⟩ := h
        refine jr_V6_1 jf_156_57 hb19 (by omega) (r_Real_sizeOf (by omega) _ _ _ _ hx20) (Nat.le_of_ble_eq_true rfl) jml_31 (Nat.le_of_ble_eq_true rfl) ?_
        refine jr_lload_n jf_156_60 rfl (jg1_ne rfl hl3) ?_
        replace h := jgd_of h; obtain ⟨hb21, h⟩ := h
        replace h := obd_of h; obtain ⟨x22, hx22, h⟩ := h
        refine jr_V6_2 jf_156_61 hb21 (by omega) (r_B_comparedToOnePlus (by omega) _ _ _ _ _ hx22) (Nat.le_of_ble_eq_true rfl) jml_157 (Nat.le_of_ble_eq_true rfl) ?_
        refine jr_istore jf_156_64 jml_156 (by decide) ?_
        refine jr_iload jf_156_66 jg1_same ?_
        refine jr_iload jf_156_68 (jg1_pre rfl jg1_same) ?_
        replace h := ite_or h; rcases h with ⟨hc, h⟩ | ⟨hc, h⟩
        · refine jr_if2_ge_t jf_156_70 hc ?_
          refine jr_iload jf_156_78 (jg1_pre rfl jg1_same) ?_
          exact r_B_judgedPair_80 hd _ _ _ _ h
        · refine jr_if2_ge_f jf_156_70 hc ?_
          refine jr_iload jf_156_73 jg1_same ?_
          refine jr_goto jf_156_75 ?_
          exact r_B_judgedPair_80 hd _ _ _ _ h
      · refine jr_if_ge_f jf_156_46 hc ?_
        refine jr_iconst jf_156_49 jc_i_0 ?_
        obtain rfl := Option.some.inj h
        exact jr_retI jf_156_50 jmt_156
    · refine jr_ifz_ne_f jf_156_19 hc ?_
      refine jr_iconst jf_156_22 jc_i_0 ?_
      obtain rfl := Option.some.inj h
      exact jr_retI jf_156_23 jmt_156
  · refine jr_ifz_eq_t jf_156_8 hc ?_
    refine jr_iconst jf_156_22 jc_i_0 ?_
    obtain rfl := Option.some.inj h
    exact jr_retI jf_156_23 jmt_156
set_option maxRecDepth 10000 in
set_option maxHeartbeats 4000000 in
theorem r_B_judgedPair {B : Nat} {SA : Nat → Nat} {d : Nat} (hd : 5 ≤ d) : ∀ (v0 : Nat) (v1 : Int64) (v3 : Int64) (μ : JMem) (r : Int32), g_B_judgedPair v0 v1 v3 μ.1 = some r → jR B SA d m_B_judgedPair 0 (lv_args 0 [.ref v0, .long v1, .long v3]) [] μ (some (.int r)) μ := by
  intro v0 v1 v3 μ r h
  exact r_B_judgedPair_e hd (lv_args 0 _) _ _ _ _ _ (by simp [lv_args, jget, rv_cat, cat_int, cat_long, cat_double, cat_float, cat_ref]) (by simp [lv_args, jget, rv_cat, cat_int, cat_long, cat_double, cat_float, cat_ref]) (by simp [lv_args, jget, rv_cat, cat_int, cat_long, cat_double, cat_float, cat_ref]) h
/-! FilterBench.judgedPole(J)I -/
set_option maxRecDepth 10000 in
set_option maxHeartbeats 4000000 in
theorem r_B_judgedPole_e {B : Nat} {SA : Nat → Nat} {d : Nat} (hd : 2 ≤ d) : ∀ (L : JLoc) (v0 : Nat) (v1 : Int64) (μ : JMem) (r : Int32), jget L 0 = .ref v0 → jget L 1 = .long v1 → g_B_judgedPole v0 v1 μ.1 = some r → jR B SA d m_B_judgedPole 0 L [] μ (some (.int r)) μ := by
  intro L v0 v1 μ r hl0 hl1 h
  unfold g_B_judgedPole at h
  refine jr_aload_n jf_153_0 rfl hl0 ?_
  replace h := obd_of h; obtain ⟨x1, hx1, h⟩ := h
  refine jr_getA jf_153_1 hx1 ?_
  refine jr_lload_n jf_153_4 rfl hl1 ?_
  replace h := obd_of h; obtain ⟨a2, rfl, h⟩ := h
  replace h := jgd_of h; obtain ⟨hb3, h⟩ := h
  replace h := obd_of h; obtain ⟨x4, hx4, h⟩ := h
  refine jr_V6_1 jf_153_5 hb3 (by omega) (r_Real_isFinite (by omega) _ _ _ _ hx4) (Nat.le_of_ble_eq_true rfl) jml_154 (Nat.le_of_ble_eq_true rfl) ?_
  replace h := ite_or h; rcases h with ⟨hc, h⟩ | ⟨hc, h⟩
  · refine jr_ifz_ne_t jf_153_8 hc ?_
    refine jr_aload_n jf_153_13 rfl hl0 ?_
    replace h := obd_of h; obtain ⟨x5, hx5, h⟩ := h
    refine jr_getA jf_153_14 hx5 ?_
    refine jr_ldc2l jf_153_17 ?_
    refine jr_aload_n jf_153_20 rfl hl0 ?_
    replace h := obd_of h; obtain ⟨x6, hx6, h⟩ := h
    refine jr_getA jf_153_21 hx6 ?_
    refine jr_lload_n jf_153_24 rfl hl1 ?_
    replace h := obd_of h; obtain ⟨a7, rfl, h⟩ := h
    replace h := jgd_of h; obtain ⟨hb8, h⟩ := h
    replace h := obd_of h; obtain ⟨x9, hx9, h⟩ := h
    refine jr_V6_1 jf_153_25 hb8 (by omega) (r_Real_sizeOf (by omega) _ _ _ _ hx9) (by simp only [jcats_cons, jcats_nil, cat_int, cat_long, cat_double, cat_float, cat_ref, rv_cat]; decide) jml_31 (Nat.le_of_ble_eq_true rfl) ?_
    replace h := obd_of h; obtain ⟨a10, rfl, h⟩ := h
    replace h := jgd_of h; obtain ⟨hb11, h⟩ := h
    replace h := obd_of h; obtain ⟨x12, hx12, h⟩ := h
    refine jr_V6_2 jf_153_28 hb11 (by omega) (r_Real_compared (by omega) _ _ _ _ _ hx12) (Nat.le_of_ble_eq_true rfl) jml_105 (Nat.le_of_ble_eq_true rfl) ?_
    refine jr_S3_1 jf_153_31 (by omega) (r_B_judged (by omega) _ _ _ rfl) (Nat.le_of_ble_eq_true rfl) jml_155 (Nat.le_of_ble_eq_true rfl) ?_
    obtain rfl := Option.some.inj h
    exact jr_retI jf_153_34 jmt_153
  · refine jr_ifz_ne_f jf_153_8 hc ?_
    refine jr_iconst jf_153_11 jc_i_0 ?_
    obtain rfl := Option.some.inj h
    exact jr_retI jf_153_12 jmt_153
set_option maxRecDepth 10000 in
set_option maxHeartbeats 4000000 in
theorem r_B_judgedPole {B : Nat} {SA : Nat → Nat} {d : Nat} (hd : 2 ≤ d) : ∀ (v0 : Nat) (v1 : Int64) (μ : JMem) (r : Int32), g_B_judgedPole v0 v1 μ.1 = some r → jR B SA d m_B_judgedPole 0 (lv_args 0 [.ref v0, .long v1]) [] μ (some (.int r)) μ := by
  intro v0 v1 μ r h
  exact r_B_judgedPole_e hd (lv_args 0 _) _ _ _ _ (by simp [lv_args, jget, rv_cat, cat_int, cat_long, cat_double, cat_float, cat_ref]) (by simp [lv_args, jget, rv_cat, cat_int, cat_long, cat_double, cat_float, cat_ref]) h
/-! FilterBench$Real.meaning(JZLFilterBench$Real;)J -/
set_option maxRecDepth 10000 in
set_option maxHeartbeats 4000000 in
theorem r_Real_meaning_e {B : Nat} {SA : Nat → Nat} {d : Nat} (hd : 3 ≤ d) : ∀ (L : JLoc) (v0 : Nat) (v1 : Int64) (v4 : Option Nat) (μ : JMem) (r : Int64), jget L 0 = .ref v0 → jget L 1 = .long v1 → jget L 4 = rv v4 → g_Real_meaning_e v0 v1 v4 μ.1 = some r → jR B SA d m_Real_meaning 0 L [] μ (some (.long r)) μ := by
  intro L v0 v1 v4 μ r hl0 hl1 hl4 h
  unfold g_Real_meaning_e at h
  refine jr_aload_A jf_151_0 hl4 ?_
  refine jr_aload_n jf_151_2 rfl hl0 ?_
  refine jr_lload_n jf_151_3 rfl hl1 ?_
  replace h := obd_of h; obtain ⟨a1, rfl, h⟩ := h
  replace h := jgd_of h; obtain ⟨hb2, h⟩ := h
  replace h := obd_of h; obtain ⟨x3, hx3, h⟩ := h
  refine jr_V6_2 jf_151_4 hb2 (by omega) (r_Real_taken (by omega) _ _ _ _ _ hx3) (Nat.le_of_ble_eq_true rfl) jml_30 (by simp only [jcats_cons, jcats_nil, cat_int, cat_long, cat_double, cat_float, cat_ref, rv_cat]; decide) ?_
  obtain rfl := Option.some.inj h
  exact jr_retJ jf_151_7 jmt_151
set_option maxRecDepth 10000 in
set_option maxHeartbeats 4000000 in
theorem r_Real_meaning {B : Nat} {SA : Nat → Nat} {d : Nat} (hd : 3 ≤ d) : ∀ (v0 : Nat) (v1 : Int64) (v3 : Bool) (v4 : Option Nat) (μ : JMem) (r : Int64), g_Real_meaning v0 v1 v3 v4 μ.1 = some r → jR B SA d m_Real_meaning 0 (lv_args 0 [.ref v0, .long v1, .int (jb v3), rv v4]) [] μ (some (.long r)) μ := by
  intro v0 v1 v3 v4 μ r h
  exact r_Real_meaning_e hd (lv_args 0 _) _ _ _ _ _ (by simp [lv_args, jget, rv_cat, cat_int, cat_long, cat_double, cat_float, cat_ref]) (by simp [lv_args, jget, rv_cat, cat_int, cat_long, cat_double, cat_float, cat_ref]) (by simp [lv_args, jget, rv_cat, cat_int, cat_long, cat_double, cat_float, cat_ref]) h
/-! FilterBench$Shorts.meaning(JZLFilterBench$Real;)J -/
set_option maxRecDepth 10000 in
set_option maxHeartbeats 4000000 in
theorem r_Shorts_meaning_13 {B : Nat} {SA : Nat → Nat} {d : Nat} (hd : 3 ≤ d) : ∀ (L : JLoc) (s0 : Int32) (s1 : Int64) (s2 : Option Nat) (μ : JMem) (r : Int64), g_Shorts_meaning_13 s0 s1 s2 μ.1 = some r → jR B SA d m_Shorts_meaning 13 L [.int s0, .long s1, rv s2] μ (some (.long r)) μ := by
  intro L s0 s1 s2 μ r h
  unfold g_Shorts_meaning_13 at h
  replace h := obd_of h; obtain ⟨a1, rfl, h⟩ := h
  replace h := jgd_of h; obtain ⟨hb2, h⟩ := h
  replace h := obd_of h; obtain ⟨x3, hx3, h⟩ := h
  refine jr_V6_2 jf_152_13 hb2 (by omega) (r_Real_scaled (by omega) _ _ _ _ _ hx3) (Nat.le_of_ble_eq_true rfl) jml_116 (Nat.le_of_ble_eq_true rfl) ?_
  obtain rfl := Option.some.inj h
  exact jr_retJ jf_152_16 jmt_152
set_option maxRecDepth 10000 in
set_option maxHeartbeats 4000000 in
theorem r_Shorts_meaning_e {B : Nat} {SA : Nat → Nat} {d : Nat} (hd : 3 ≤ d) : ∀ (L : JLoc) (v1 : Int64) (v3 : Bool) (v4 : Option Nat) (μ : JMem) (r : Int64), jget L 1 = .long v1 → jget L 3 = .int (jb v3) → jget L 4 = rv v4 → g_Shorts_meaning_e v1 v3 v4 μ.1 = some r → jR B SA d m_Shorts_meaning 0 L [] μ (some (.long r)) μ := by
  intro L v1 v3 v4 μ r hl1 hl3 hl4 h
  unfold g_Shorts_meaning_e at h
  refine jr_aload_A jf_152_0 hl4 ?_
  refine jr_lload_n jf_152_2 rfl hl1 ?_
  refine jr_iload_n jf_152_3 rfl hl3 ?_
  replace h := ite_or h; rcases h with ⟨hc, h⟩ | ⟨hc, h⟩
  · refine jr_ifz_eq_f jf_152_4 hc ?_
    refine jr_iconst jf_152_7 jc_i_0 ?_
    refine jr_goto jf_152_8 ?_
    exact r_Shorts_meaning_13 hd _ _ _ _ _ _ h
  · refine jr_ifz_eq_t jf_152_4 hc ?_
    refine jr_bipush jf_152_11 jc_b_m14 ?_
    exact r_Shorts_meaning_13 hd _ _ _ _ _ _ h
set_option maxRecDepth 10000 in
set_option maxHeartbeats 4000000 in
theorem r_Shorts_meaning {B : Nat} {SA : Nat → Nat} {d : Nat} (hd : 3 ≤ d) : ∀ (v0 : Nat) (v1 : Int64) (v3 : Bool) (v4 : Option Nat) (μ : JMem) (r : Int64), g_Shorts_meaning v0 v1 v3 v4 μ.1 = some r → jR B SA d m_Shorts_meaning 0 (lv_args 0 [.ref v0, .long v1, .int (jb v3), rv v4]) [] μ (some (.long r)) μ := by
  intro v0 v1 v3 v4 μ r h
  exact r_Shorts_meaning_e hd (lv_args 0 _) _ _ _ _ _ (by simp [lv_args, jget, rv_cat, cat_int, cat_long, cat_double, cat_float, cat_ref]) (by simp [lv_args, jget, rv_cat, cat_int, cat_long, cat_double, cat_float, cat_ref]) (by simp [lv_args, jget, rv_cat, cat_int, cat_long, cat_double, cat_float, cat_ref]) h
/-! FilterBench.meaningOf(LFilterBench$Section;I)J -/
set_option maxRecDepth 10000 in
set_option maxHeartbeats 4000000 in
theorem r_B_meaningOf_e {B : Nat} {SA : Nat → Nat} {d : Nat} (hd : 4 ≤ d) : ∀ (L : JLoc) (v0 : Nat) (v1 : Option Nat) (v2 : Int32) (μ : JMem) (r : Int64), jget L 0 = .ref v0 → jget L 1 = rv v1 → jget L 2 = .int v2 → g_B_meaningOf v0 v1 v2 μ.1 = some r → jR B SA d m_B_meaningOf 0 L [] μ (some (.long r)) μ := by
  intro L v0 v1 v2 μ r hl0 hl1 hl2 h
  unfold g_B_meaningOf at h
  refine jr_aload_n_A jf_150_0 rfl hl1 ?_
  replace h := obd_of h; obtain ⟨a1, rfl, h⟩ := h
  replace h := obd_of h; obtain ⟨x2, hx2, h⟩ := h
  refine jr_getA jf_150_1 hx2 ?_
  refine jr_aload_n jf_150_4 rfl hl1 ?_
  refine jr_iload_n jf_150_5 rfl hl2 ?_
  replace h := jgd_of h; obtain ⟨hb3, h⟩ := h
  replace h := obd_of h; obtain ⟨x4, hx4, h⟩ := h
  refine jr_V6_1 jf_150_6 hb3 (by omega) (r_Section_factor (by omega) _ _ _ _ hx4) (by simp only [jcats_cons, jcats_nil, cat_int, cat_long, cat_double, cat_float, cat_ref, rv_cat]; decide) jml_43 (Nat.le_of_ble_eq_true rfl) ?_
  refine jr_aload_n jf_150_9 rfl hl1 ?_
  replace h := jgd_of h; obtain ⟨hb5, h⟩ := h
  replace h := obd_of h; obtain ⟨x6, hx6, h⟩ := h
  refine jr_V6_0 jf_150_10 hb5 (by omega) (r_Section_takesWhole (by omega) _ _ _ hx6) (by simp only [jcats_cons, jcats_nil, cat_int, cat_long, cat_double, cat_float, cat_ref, rv_cat]; decide) jml_22 (Nat.le_of_ble_eq_true rfl) ?_
  refine jr_aload_n jf_150_13 rfl hl0 ?_
  replace h := obd_of h; obtain ⟨x7, hx7, h⟩ := h
  refine jr_getA jf_150_14 hx7 ?_
  replace h := obd_of h; obtain ⟨a8, rfl, h⟩ := h
  replace h := obd_of h; obtain ⟨x9, hx9, h⟩ := h
  rcases ite_or hx9 with ⟨hb, hx⟩ | ⟨hb0, hx⟩
  · refine jr_V8a_3 jf_150_17 hb (by omega) (r_Real_meaning (by omega) _ _ _ _ _ _ hx) (Nat.le_of_ble_eq_true rfl) jml_151 (by simp only [jcats_cons, jcats_nil, cat_int, cat_long, cat_double, cat_float, cat_ref, rv_cat]; decide) ?_
    obtain rfl := Option.some.inj h
    exact jr_retJ jf_150_20 jmt_150
  · obtain ⟨hb, hx⟩ := jgd_of hx
    refine jr_V8b_3 jf_150_17 hb0 hb (by omega) (r_Shorts_meaning (by omega) _ _ _ _ _ _ hx) (Nat.le_of_ble_eq_true rfl) jml_152 (by simp only [jcats_cons, jcats_nil, cat_int, cat_long, cat_double, cat_float, cat_ref, rv_cat]; decide) ?_
    obtain rfl := Option.some.inj h
    exact jr_retJ jf_150_20 jmt_150
set_option maxRecDepth 10000 in
set_option maxHeartbeats 4000000 in
theorem r_B_meaningOf {B : Nat} {SA : Nat → Nat} {d : Nat} (hd : 4 ≤ d) : ∀ (v0 : Nat) (v1 : Option Nat) (v2 : Int32) (μ : JMem) (r : Int64), g_B_meaningOf v0 v1 v2 μ.1 = some r → jR B SA d m_B_meaningOf 0 (lv_args 0 [.ref v0, rv v1, .int v2]) [] μ (some (.long r)) μ := by
  intro v0 v1 v2 μ r h
  exact r_B_meaningOf_e hd (lv_args 0 _) _ _ _ _ _ (by simp [lv_args, jget, rv_cat, cat_int, cat_long, cat_double, cat_float, cat_ref]) (by simp [lv_args, jget, rv_cat, cat_int, cat_long, cat_double, cat_float, cat_ref]) (by simp [lv_args, jget, rv_cat, cat_int, cat_long, cat_double, cat_float, cat_ref]) h
/-! FilterBench.poles(I)I -/
set_option maxRecDepth 10000 in
set_option maxHeartbeats 4000000 in
theorem r_B_poles_74 {B : Nat} {SA : Nat → Nat} {d : Nat} (hd : 6 ≤ d) : ∀ (L : JLoc) (v0 : Nat) (v2 : Nat) (μ : JMem) (r : Int32), jget L 0 = .ref v0 → jget L 2 = .ref v2 → g_B_poles_74 v0 v2 μ.1 = some r → jR B SA d m_B_poles 74 L [] μ (some (.int r)) μ := by
  intro L v0 v2 μ r hl0 hl2 h
  unfold g_B_poles_74 at h
  refine jr_aload_n jf_149_74 rfl hl0 ?_
  refine jr_aload_n jf_149_75 rfl hl0 ?_
  refine jr_aload_n jf_149_76 rfl hl2 ?_
  refine jr_iconst jf_149_77 jc_i_3 ?_
  replace h := jgd_of h; obtain ⟨hb1, h⟩ := h
  replace h := obd_of h; obtain ⟨x2, hx2, h⟩ := h
  refine jr_V6_2 jf_149_78 hb1 (by omega) (r_B_meaningOf (by omega) _ _ _ _ _ hx2) (Nat.le_of_ble_eq_true rfl) jml_150 (by simp only [jcats_cons, jcats_nil, cat_int, cat_long, cat_double, cat_float, cat_ref, rv_cat]; decide) ?_
  refine jr_aload_n jf_149_81 rfl hl0 ?_
  refine jr_aload_n jf_149_82 rfl hl2 ?_
  refine jr_iconst jf_149_83 jc_i_4 ?_
  replace h := jgd_of h; obtain ⟨hb3, h⟩ := h
  replace h := obd_of h; obtain ⟨x4, hx4, h⟩ := h
  refine jr_V6_2 jf_149_84 hb3 (by omega) (r_B_meaningOf (by omega) _ _ _ _ _ hx4) (Nat.le_of_ble_eq_true rfl) jml_150 (by simp only [jcats_cons, jcats_nil, cat_int, cat_long, cat_double, cat_float, cat_ref, rv_cat]; decide) ?_
  replace h := jgd_of h; obtain ⟨hb5, h⟩ := h
  replace h := obd_of h; obtain ⟨x6, hx6, h⟩ := h
  refine jr_V6_2 jf_149_87 hb5 (by omega) (r_B_judgedPair (by omega) _ _ _ _ _ hx6) (Nat.le_of_ble_eq_true rfl) jml_156 (Nat.le_of_ble_eq_true rfl) ?_
  obtain rfl := Option.some.inj h
  exact jr_retI jf_149_90 jmt_149
set_option maxRecDepth 10000 in
set_option maxHeartbeats 4000000 in
theorem r_B_poles_e {B : Nat} {SA : Nat → Nat} {d : Nat} (hd : 6 ≤ d) : ∀ (L : JLoc) (v0 : Nat) (v1 : Int32) (μ : JMem) (r : Int32), jget L 0 = .ref v0 → jget L 1 = .int v1 → g_B_poles v0 v1 μ.1 = some r → jR B SA d m_B_poles 0 L [] μ (some (.int r)) μ := by
  intro L v0 v1 μ r hl0 hl1 h
  unfold g_B_poles at h
  refine jr_aload_n jf_149_0 rfl hl0 ?_
  refine jr_iload_n jf_149_1 rfl hl1 ?_
  replace h := jgd_of h; obtain ⟨hb1, h⟩ := h
  replace h := obd_of h; obtain ⟨x2, hx2, h⟩ := h
  refine jr_V6_1 jf_149_2 hb1 (by omega) (r_B_sectionAt (by omega) _ _ _ _ hx2) (Nat.le_of_ble_eq_true rfl) jml_13 (Nat.le_of_ble_eq_true rfl) ?_
  refine jr_astore_n_A jf_149_5 rfl jml_149 (by decide) ?_
  refine jr_aload_n_A jf_149_6 rfl jg1_same ?_
  replace h := jon_or h; rcases h with ⟨rfl, h⟩ | ⟨a3, rfl, h⟩
  · refine jr_ifnonnull_n jf_149_7 ?_
    refine jr_iconst jf_149_10 jc_i_m1 ?_
    obtain rfl := Option.some.inj h
    exact jr_retI jf_149_11 jmt_149
  · refine jr_ifnonnull_s jf_149_7 ?_
    refine jr_aload_n jf_149_12 rfl jg1_same ?_
    replace h := obd_of h; obtain ⟨x4, hx4, h⟩ := h
    refine jr_getI jf_149_13 hx4 ?_
    refine jr_switch jf_149_16 ?_
    replace h := ite_or h; rcases h with ⟨hc, h⟩ | ⟨hc, h⟩
    · refine jsw_hit (by decide) hc ?_
      refine jr_aload_n jf_149_52 rfl (jg1_ne rfl hl0) ?_
      refine jr_aload_n jf_149_53 rfl (jg1_ne rfl hl0) ?_
      refine jr_aload_n jf_149_54 rfl jg1_same ?_
      refine jr_iconst jf_149_55 jc_i_1 ?_
      replace h := jgd_of h; obtain ⟨hb5, h⟩ := h
      replace h := obd_of h; obtain ⟨x6, hx6, h⟩ := h
      refine jr_V6_2 jf_149_56 hb5 (by omega) (r_B_meaningOf (by omega) _ _ _ _ _ hx6) (Nat.le_of_ble_eq_true rfl) jml_150 (by simp only [jcats_cons, jcats_nil, cat_int, cat_long, cat_double, cat_float, cat_ref, rv_cat]; decide) ?_
      replace h := jgd_of h; obtain ⟨hb7, h⟩ := h
      replace h := obd_of h; obtain ⟨x8, hx8, h⟩ := h
      refine jr_V6_1 jf_149_59 hb7 (by omega) (r_B_judgedPole (by omega) _ _ _ _ hx8) (Nat.le_of_ble_eq_true rfl) jml_153 (Nat.le_of_ble_eq_true rfl) ?_
      obtain rfl := Option.some.inj h
      exact jr_retI jf_149_62 jmt_149
    · refine jsw_miss (by decide) hc (by decide : (1 : Int) + 1 = 2) ?_
      replace h := ite_or h; rcases h with ⟨hc, h⟩ | ⟨hc, h⟩
      · refine jsw_hit (by decide) hc ?_
        exact r_B_poles_74 hd _ _ _ _ _ (jg1_ne rfl hl0) jg1_same h
      · refine jsw_miss (by decide) hc (by decide : (2 : Int) + 1 = 3) ?_
        replace h := ite_or h; rcases h with ⟨hc, h⟩ | ⟨hc, h⟩
        · refine jsw_hit (by decide) hc ?_
          exact r_B_poles_74 hd _ _ _ _ _ (jg1_ne rfl hl0) jg1_same h
        · refine jsw_miss (by decide) hc (by decide : (3 : Int) + 1 = 4) ?_
          replace h := ite_or h; rcases h with ⟨hc, h⟩ | ⟨hc, h⟩
          · refine jsw_hit (by decide) hc ?_
            exact r_B_poles_74 hd _ _ _ _ _ (jg1_ne rfl hl0) jg1_same h
          · refine jsw_miss (by decide) hc (by decide : (4 : Int) + 1 = 5) ?_
            replace h := ite_or h; rcases h with ⟨hc, h⟩ | ⟨hc, h⟩
            · refine jsw_hit (by decide) hc ?_
              refine jr_aload_n jf_149_63 rfl (jg1_ne rfl hl0) ?_
              refine jr_aload_n jf_149_64 rfl (jg1_ne rfl hl0) ?_
              refine jr_aload_n jf_149_65 rfl jg1_same ?_
              refine jr_iconst jf_149_66 jc_i_0 ?_
              replace h := jgd_of h; obtain ⟨hb9, h⟩ := h
              replace h := obd_of h; obtain ⟨x10, hx10, h⟩ := h
              refine jr_V6_2 jf_149_67 hb9 (by omega) (r_B_meaningOf (by omega) _ _ _ _ _ hx10) (Nat.le_of_ble_eq_true rfl) jml_150 (by simp only [jcats_cons, jcats_nil, cat_int, cat_long, cat_double, cat_float, cat_ref, rv_cat]; decide) ?_
              replace h := jgd_of h; obtain ⟨hb11, h⟩ := h
              replace h := obd_of h; obtain ⟨x12, hx12, h⟩ := h
              refine jr_V6_1 jf_149_70 hb11 (by omega) (r_B_judgedPole (by omega) _ _ _ _ hx12) (Nat.le_of_ble_eq_true rfl) jml_153 (Nat.le_of_ble_eq_true rfl) ?_
              obtain rfl := Option.some.inj h
              exact jr_retI jf_149_73 jmt_149
            · refine jsw_miss (by decide) hc (by decide : (5 : Int) + 1 = 6) ?_
              refine jsw_end ?_
              refine jr_iconst jf_149_91 jc_i_m1 ?_
              obtain rfl := Option.some.inj h
              exact jr_retI jf_149_92 jmt_149
set_option maxRecDepth 10000 in
set_option maxHeartbeats 4000000 in
theorem r_B_poles {B : Nat} {SA : Nat → Nat} {d : Nat} (hd : 6 ≤ d) : ∀ (v0 : Nat) (v1 : Int32) (μ : JMem) (r : Int32), g_B_poles v0 v1 μ.1 = some r → jR B SA d m_B_poles 0 (lv_args 0 [.ref v0, .int v1]) [] μ (some (.int r)) μ := by
  intro v0 v1 μ r h
  exact r_B_poles_e hd (lv_args 0 _) _ _ _ _ (by simp [lv_args, jget, rv_cat, cat_int, cat_long, cat_double, cat_float, cat_ref]) (by simp [lv_args, jget, rv_cat, cat_int, cat_long, cat_double, cat_float, cat_ref]) h
/-! java/util/Arrays.fill([II)V -/
set_option maxRecDepth 10000 in
set_option maxHeartbeats 4000000 in
theorem r_JArrays_fill_2_5 {N B : Nat} {SA : Nat → Nat} {d : Nat} (hd : 0 ≤ d) : ∀ (n : Nat), ∀ (L : JLoc) (v0 : Nat) (v1 : Int32) (v2 : Int32) (v3 : Int32) (μ : JMem) (μ9 : JMem), jget L 0 = .ref v0 → jget L 1 = .int v1 → jget L 2 = .int v2 → jget L 3 = .int v3 → g_JArrays_fill_2_5 N B n v0 v1 v2 v3 μ = some μ9 → jR B SA d m_JArrays_fill_2 5 L [] μ none μ9 := by
  intro n
  induction n with
  | zero =>
    intro L v0 v1 v2 v3 μ μ9 hl0 hl1 hl2 hl3 h
    unfold g_JArrays_fill_2_5 at h
    cases h
  | succ n ih =>
    intro L v0 v1 v2 v3 μ μ9 hl0 hl1 hl2 hl3 h
    unfold g_JArrays_fill_2_5 at h
    refine jr_iload_n jf_161_5 rfl hl2 ?_
    refine jr_iload_n jf_161_6 rfl hl3 ?_
    replace h := ite_or h; rcases h with ⟨hc, h⟩ | ⟨hc, h⟩
    · refine jr_if2_ge_t jf_161_7 hc ?_
      obtain rfl := Option.some.inj h
      exact jr_return jf_161_20 jmt_161
    · refine jr_if2_ge_f jf_161_7 hc ?_
      refine jr_aload_n jf_161_10 rfl hl0 ?_
      refine jr_iload_n jf_161_11 rfl hl2 ?_
      refine jr_iload_n jf_161_12 rfl hl1 ?_
      replace h := obd_of h; obtain ⟨μ1, hμ1, h⟩ := h
      refine jr_iastore jf_161_13 hμ1 ?_
      refine jr_iinc jf_161_14 jc_i_1 jml_161 (by decide) hl2 ?_
      refine jr_goto jf_161_17 ?_
      exact ih _ _ _ _ _ _ _ (jg1_ne rfl hl0) (jg1_pre rfl hl1) jg1_same (jg1_ne rfl hl3) h
set_option maxRecDepth 10000 in
set_option maxHeartbeats 4000000 in
theorem r_JArrays_fill_2_e {N B : Nat} {SA : Nat → Nat} {d : Nat} (hd : 0 ≤ d) : ∀ (L : JLoc) (v0 : Option Nat) (v1 : Int32) (μ : JMem) (μ9 : JMem), jget L 0 = rv v0 → jget L 1 = .int v1 → g_JArrays_fill_2 N B v0 v1 μ = some μ9 → jR B SA d m_JArrays_fill_2 0 L [] μ none μ9 := by
  intro L v0 v1 μ μ9 hl0 hl1 h
  unfold g_JArrays_fill_2 at h
  refine jr_iconst jf_161_0 jc_i_0 ?_
  refine jr_istore_n jf_161_1 rfl jml_161 (by decide) ?_
  refine jr_aload_n_A jf_161_2 rfl (jg1_ne rfl hl0) ?_
  replace h := obd_of h; obtain ⟨a1, rfl, h⟩ := h
  replace h := obd_of h; obtain ⟨x2, hx2, h⟩ := h
  refine jr_arraylength jf_161_3 hx2 ?_
  refine jr_istore_n jf_161_4 rfl jml_161 (by decide) ?_
  exact r_JArrays_fill_2_5 hd _ _ _ _ _ _ _ _ (jg1_ne rfl (jg1_ne rfl hl0)) (jg1_ne rfl (jg1_pre rfl hl1)) (jg1_pre rfl jg1_same) jg1_same h
set_option maxRecDepth 10000 in
set_option maxHeartbeats 4000000 in
theorem r_JArrays_fill_2 {N B : Nat} {SA : Nat → Nat} {d : Nat} (hd : 0 ≤ d) : ∀ (v0 : Option Nat) (v1 : Int32) (μ : JMem) (μ9 : JMem), g_JArrays_fill_2 N B v0 v1 μ = some μ9 → jR B SA d m_JArrays_fill_2 0 (lv_args 0 [rv v0, .int v1]) [] μ none μ9 := by
  intro v0 v1 μ μ9 h
  exact r_JArrays_fill_2_e hd (lv_args 0 _) _ _ _ _ (by simp [lv_args, jget, rv_cat, cat_int, cat_long, cat_double, cat_float, cat_ref]) (by simp [lv_args, jget, rv_cat, cat_int, cat_long, cat_double, cat_float, cat_ref]) h
/-! FilterBench$DeadCycles.begin()V -/
set_option maxRecDepth 10000 in
set_option maxHeartbeats 4000000 in
theorem r_DeadCycles_begin_14 {N B : Nat} {SA : Nat → Nat} {d : Nat} (hd : 1 ≤ d) : ∀ (L : JLoc) (v0 : Nat) (μ : JMem) (μ9 : JMem), jget L 0 = .ref v0 → g_DeadCycles_begin_14 N B v0 μ = some μ9 → jR B SA d m_DeadCycles_begin 14 L [] μ none μ9 := by
  intro L v0 μ μ9 hl0 h
  unfold g_DeadCycles_begin_14 at h
  refine jr_aload_n jf_160_14 rfl hl0 ?_
  refine jr_ldc jf_160_15 ?_
  replace h := jbd2_of h; obtain ⟨a1, μ2, ha1, h⟩ := h
  refine jr_newarray jf_160_17 rfl ha1 ?_
  replace h := obd_of h; obtain ⟨μ3, hμ3, h⟩ := h
  refine jr_putA (x := some _) jf_160_19 rfl hμ3 ?_
  refine jr_aload_n jf_160_22 rfl hl0 ?_
  refine jr_ldc jf_160_23 ?_
  replace h := jbd2_of h; obtain ⟨a4, μ5, ha4, h⟩ := h
  refine jr_newarray jf_160_25 rfl ha4 ?_
  replace h := obd_of h; obtain ⟨μ6, hμ6, h⟩ := h
  refine jr_putA (x := some _) jf_160_27 rfl hμ6 ?_
  refine jr_goto jf_160_30 ?_
  obtain rfl := Option.some.inj h
  exact jr_return jf_160_49 jmt_160
set_option maxRecDepth 10000 in
set_option maxHeartbeats 4000000 in
theorem r_DeadCycles_begin_e {N B : Nat} {SA : Nat → Nat} {d : Nat} (hd : 1 ≤ d) : ∀ (L : JLoc) (v0 : Nat) (μ : JMem) (μ9 : JMem), jget L 0 = .ref v0 → g_DeadCycles_begin N B v0 μ = some μ9 → jR B SA d m_DeadCycles_begin 0 L [] μ none μ9 := by
  intro L v0 μ μ9 hl0 h
  unfold g_DeadCycles_begin at h
  refine jr_aload_n jf_160_0 rfl hl0 ?_
  replace h := obd_of h; obtain ⟨x1, hx1, h⟩ := h
  refine jr_getA jf_160_1 hx1 ?_
  replace h := jon_or h; rcases h with ⟨rfl, h⟩ | ⟨a2, rfl, h⟩
  · refine jr_ifnull_n jf_160_4 ?_
    exact r_DeadCycles_begin_14 hd _ _ _ _ hl0 h
  · refine jr_ifnull_s jf_160_4 ?_
    refine jr_aload_n jf_160_7 rfl hl0 ?_
    replace h := obd_of h; obtain ⟨x3, hx3, h⟩ := h
    refine jr_getA jf_160_8 hx3 ?_
    replace h := jon_or h; rcases h with ⟨rfl, h⟩ | ⟨a4, rfl, h⟩
    · refine jr_ifnonnull_n jf_160_11 ?_
      exact r_DeadCycles_begin_14 hd _ _ _ _ hl0 h
    · refine jr_ifnonnull_s jf_160_11 ?_
      refine jr_aload_n jf_160_33 rfl hl0 ?_
      replace h := obd_of h; obtain ⟨x5, hx5, h⟩ := h
      refine jr_getA jf_160_34 hx5 ?_
      refine jr_iconst jf_160_37 jc_i_0 ?_
      replace h := obd_of h; obtain ⟨μ6, hμ6, h⟩ := h
      refine jr_S3v_2 jf_160_38 (by omega) (r_JArrays_fill_2 (by omega) _ _ _ _ hμ6) (Nat.le_of_ble_eq_true rfl) jml_161 (by simp only [jcats_cons, jcats_nil, cat_int, cat_long, cat_double, cat_float, cat_ref, rv_cat]; decide) ?_
      refine jr_aload_n jf_160_41 rfl hl0 ?_
      replace h := obd_of h; obtain ⟨x7, hx7, h⟩ := h
      refine jr_getA jf_160_42 hx7 ?_
      refine jr_lconst0 jf_160_45 ?_
      replace h := obd_of h; obtain ⟨μ8, hμ8, h⟩ := h
      refine jr_S3v_2 jf_160_46 (by omega) (r_JArrays_fill (by omega) _ _ _ _ hμ8) (Nat.le_of_ble_eq_true rfl) jml_132 (by simp only [jcats_cons, jcats_nil, cat_int, cat_long, cat_double, cat_float, cat_ref, rv_cat]; decide) ?_
      obtain rfl := Option.some.inj h
      exact jr_return jf_160_49 jmt_160
set_option maxRecDepth 10000 in
set_option maxHeartbeats 4000000 in
theorem r_DeadCycles_begin {N B : Nat} {SA : Nat → Nat} {d : Nat} (hd : 1 ≤ d) : ∀ (v0 : Nat) (μ : JMem) (μ9 : JMem), g_DeadCycles_begin N B v0 μ = some μ9 → jR B SA d m_DeadCycles_begin 0 (lv_args 0 [.ref v0]) [] μ none μ9 := by
  intro v0 μ μ9 h
  exact r_DeadCycles_begin_e hd (lv_args 0 _) _ _ _ (by simp [lv_args, jget, rv_cat, cat_int, cat_long, cat_double, cat_float, cat_ref]) h
/-! FilterBench$DeadCycles.setOwner(II)V -/
set_option maxRecDepth 10000 in
set_option maxHeartbeats 4000000 in
theorem r_DeadCycles_setOwner_e {B : Nat} {SA : Nat → Nat} {d : Nat} (hd : 0 ≤ d) : ∀ (L : JLoc) (v0 : Nat) (v1 : Int32) (v2 : Int32) (μ : JMem) (μ9 : JMem), jget L 0 = .ref v0 → jget L 1 = .int v1 → jget L 2 = .int v2 → g_DeadCycles_setOwner B v0 v1 v2 μ = some μ9 → jR B SA d m_DeadCycles_setOwner 0 L [] μ none μ9 := by
  intro L v0 v1 v2 μ μ9 hl0 hl1 hl2 h
  unfold g_DeadCycles_setOwner at h
  refine jr_aload_n jf_164_0 rfl hl0 ?_
  replace h := obd_of h; obtain ⟨x1, hx1, h⟩ := h
  refine jr_getA jf_164_1 hx1 ?_
  replace h := jon_or h; rcases h with ⟨rfl, h⟩ | ⟨a2, rfl, h⟩
  · refine jr_ifnull_n jf_164_4 ?_
    obtain rfl := Option.some.inj h
    exact jr_return jf_164_27 jmt_164
  · refine jr_ifnull_s jf_164_4 ?_
    refine jr_iload_n jf_164_7 rfl hl1 ?_
    replace h := ite_or h; rcases h with ⟨hc, h⟩ | ⟨hc, h⟩
    · refine jr_if_lt_t jf_164_8 hc ?_
      obtain rfl := Option.some.inj h
      exact jr_return jf_164_27 jmt_164
    · refine jr_if_lt_f jf_164_8 hc ?_
      refine jr_iload_n jf_164_11 rfl hl1 ?_
      refine jr_aload_n jf_164_12 rfl hl0 ?_
      replace h := obd_of h; obtain ⟨x3, hx3, h⟩ := h
      refine jr_getA jf_164_13 hx3 ?_
      replace h := obd_of h; obtain ⟨a4, rfl, h⟩ := h
      replace h := obd_of h; obtain ⟨x5, hx5, h⟩ := h
      refine jr_arraylength jf_164_16 hx5 ?_
      replace h := ite_or h; rcases h with ⟨hc, h⟩ | ⟨hc, h⟩
      · refine jr_if2_ge_t jf_164_17 hc ?_
        obtain rfl := Option.some.inj h
        exact jr_return jf_164_27 jmt_164
      · refine jr_if2_ge_f jf_164_17 hc ?_
        refine jr_aload_n jf_164_20 rfl hl0 ?_
        replace h := obd_of h; obtain ⟨x6, hx6, h⟩ := h
        refine jr_getA jf_164_21 hx6 ?_
        refine jr_iload_n jf_164_24 rfl hl1 ?_
        refine jr_iload_n jf_164_25 rfl hl2 ?_
        replace h := obd_of h; obtain ⟨a7, rfl, h⟩ := h
        replace h := obd_of h; obtain ⟨μ8, hμ8, h⟩ := h
        refine jr_iastore jf_164_26 hμ8 ?_
        obtain rfl := Option.some.inj h
        exact jr_return jf_164_27 jmt_164
set_option maxRecDepth 10000 in
set_option maxHeartbeats 4000000 in
theorem r_DeadCycles_setOwner {B : Nat} {SA : Nat → Nat} {d : Nat} (hd : 0 ≤ d) : ∀ (v0 : Nat) (v1 : Int32) (v2 : Int32) (μ : JMem) (μ9 : JMem), g_DeadCycles_setOwner B v0 v1 v2 μ = some μ9 → jR B SA d m_DeadCycles_setOwner 0 (lv_args 0 [.ref v0, .int v1, .int v2]) [] μ none μ9 := by
  intro v0 v1 v2 μ μ9 h
  exact r_DeadCycles_setOwner_e hd (lv_args 0 _) _ _ _ _ _ (by simp [lv_args, jget, rv_cat, cat_int, cat_long, cat_double, cat_float, cat_ref]) (by simp [lv_args, jget, rv_cat, cat_int, cat_long, cat_double, cat_float, cat_ref]) (by simp [lv_args, jget, rv_cat, cat_int, cat_long, cat_double, cat_float, cat_ref]) h
/-! FilterBench$DeadCycles.setTally(IJ)V -/
set_option maxRecDepth 10000 in
set_option maxHeartbeats 4000000 in
theorem r_DeadCycles_setTally_e {B : Nat} {SA : Nat → Nat} {d : Nat} (hd : 0 ≤ d) : ∀ (L : JLoc) (v0 : Nat) (v1 : Int32) (v2 : Int64) (μ : JMem) (μ9 : JMem), jget L 0 = .ref v0 → jget L 1 = .int v1 → jget L 2 = .long v2 → g_DeadCycles_setTally B v0 v1 v2 μ = some μ9 → jR B SA d m_DeadCycles_setTally 0 L [] μ none μ9 := by
  intro L v0 v1 v2 μ μ9 hl0 hl1 hl2 h
  unfold g_DeadCycles_setTally at h
  refine jr_aload_n jf_168_0 rfl hl0 ?_
  replace h := obd_of h; obtain ⟨x1, hx1, h⟩ := h
  refine jr_getA jf_168_1 hx1 ?_
  replace h := jon_or h; rcases h with ⟨rfl, h⟩ | ⟨a2, rfl, h⟩
  · refine jr_ifnull_n jf_168_4 ?_
    obtain rfl := Option.some.inj h
    exact jr_return jf_168_27 jmt_168
  · refine jr_ifnull_s jf_168_4 ?_
    refine jr_iload_n jf_168_7 rfl hl1 ?_
    replace h := ite_or h; rcases h with ⟨hc, h⟩ | ⟨hc, h⟩
    · refine jr_if_lt_t jf_168_8 hc ?_
      obtain rfl := Option.some.inj h
      exact jr_return jf_168_27 jmt_168
    · refine jr_if_lt_f jf_168_8 hc ?_
      refine jr_iload_n jf_168_11 rfl hl1 ?_
      refine jr_aload_n jf_168_12 rfl hl0 ?_
      replace h := obd_of h; obtain ⟨x3, hx3, h⟩ := h
      refine jr_getA jf_168_13 hx3 ?_
      replace h := obd_of h; obtain ⟨a4, rfl, h⟩ := h
      replace h := obd_of h; obtain ⟨x5, hx5, h⟩ := h
      refine jr_arraylength jf_168_16 hx5 ?_
      replace h := ite_or h; rcases h with ⟨hc, h⟩ | ⟨hc, h⟩
      · refine jr_if2_ge_t jf_168_17 hc ?_
        obtain rfl := Option.some.inj h
        exact jr_return jf_168_27 jmt_168
      · refine jr_if2_ge_f jf_168_17 hc ?_
        refine jr_aload_n jf_168_20 rfl hl0 ?_
        replace h := obd_of h; obtain ⟨x6, hx6, h⟩ := h
        refine jr_getA jf_168_21 hx6 ?_
        refine jr_iload_n jf_168_24 rfl hl1 ?_
        refine jr_lload_n jf_168_25 rfl hl2 ?_
        replace h := obd_of h; obtain ⟨a7, rfl, h⟩ := h
        replace h := obd_of h; obtain ⟨μ8, hμ8, h⟩ := h
        refine jr_lastore jf_168_26 hμ8 ?_
        obtain rfl := Option.some.inj h
        exact jr_return jf_168_27 jmt_168
set_option maxRecDepth 10000 in
set_option maxHeartbeats 4000000 in
theorem r_DeadCycles_setTally {B : Nat} {SA : Nat → Nat} {d : Nat} (hd : 0 ≤ d) : ∀ (v0 : Nat) (v1 : Int32) (v2 : Int64) (μ : JMem) (μ9 : JMem), g_DeadCycles_setTally B v0 v1 v2 μ = some μ9 → jR B SA d m_DeadCycles_setTally 0 (lv_args 0 [.ref v0, .int v1, .long v2]) [] μ none μ9 := by
  intro v0 v1 v2 μ μ9 h
  exact r_DeadCycles_setTally_e hd (lv_args 0 _) _ _ _ _ _ (by simp [lv_args, jget, rv_cat, cat_int, cat_long, cat_double, cat_float, cat_ref]) (by simp [lv_args, jget, rv_cat, cat_int, cat_long, cat_double, cat_float, cat_ref]) (by simp [lv_args, jget, rv_cat, cat_int, cat_long, cat_double, cat_float, cat_ref]) h
/-! FilterBench$DeadCycles.tallyOf(I)J -/
set_option maxRecDepth 10000 in
set_option maxHeartbeats 4000000 in
theorem r_DeadCycles_tallyOf_20 {B : Nat} {SA : Nat → Nat} {d : Nat} (hd : 0 ≤ d) : ∀ (L : JLoc) (μ : JMem) (r : Int64), g_DeadCycles_tallyOf_20 μ.1 = some r → jR B SA d m_DeadCycles_tallyOf 20 L [] μ (some (.long r)) μ := by
  intro L μ r h
  unfold g_DeadCycles_tallyOf_20 at h
  refine jr_lconst0 jf_169_20 ?_
  refine jr_goto jf_169_21 ?_
  obtain rfl := Option.some.inj h
  exact jr_retJ jf_169_30 jmt_169
set_option maxRecDepth 10000 in
set_option maxHeartbeats 4000000 in
theorem r_DeadCycles_tallyOf_e {B : Nat} {SA : Nat → Nat} {d : Nat} (hd : 0 ≤ d) : ∀ (L : JLoc) (v0 : Nat) (v1 : Int32) (μ : JMem) (r : Int64), jget L 0 = .ref v0 → jget L 1 = .int v1 → g_DeadCycles_tallyOf v0 v1 μ.1 = some r → jR B SA d m_DeadCycles_tallyOf 0 L [] μ (some (.long r)) μ := by
  intro L v0 v1 μ r hl0 hl1 h
  unfold g_DeadCycles_tallyOf at h
  refine jr_aload_n jf_169_0 rfl hl0 ?_
  replace h := obd_of h; obtain ⟨x1, hx1, h⟩ := h
  refine jr_getA jf_169_1 hx1 ?_
  replace h := jon_or h; rcases h with ⟨rfl, h⟩ | ⟨a2, rfl, h⟩
  · refine jr_ifnull_n jf_169_4 ?_
    exact r_DeadCycles_tallyOf_20 hd _  _ _ h
  · refine jr_ifnull_s jf_169_4 ?_
    refine jr_iload_n jf_169_7 rfl hl1 ?_
    replace h := ite_or h; rcases h with ⟨hc, h⟩ | ⟨hc, h⟩
    · refine jr_if_lt_t jf_169_8 hc ?_
      exact r_DeadCycles_tallyOf_20 hd _  _ _ h
    · refine jr_if_lt_f jf_169_8 hc ?_
      refine jr_iload_n jf_169_11 rfl hl1 ?_
      refine jr_aload_n jf_169_12 rfl hl0 ?_
      replace h := obd_of h; obtain ⟨x3, hx3, h⟩ := h
      refine jr_getA jf_169_13 hx3 ?_
      replace h := obd_of h; obtain ⟨a4, rfl, h⟩ := h
      replace h := obd_of h; obtain ⟨x5, hx5, h⟩ := h
      refine jr_arraylength jf_169_16 hx5 ?_
      replace h := ite_or h; rcases h with ⟨hc, h⟩ | ⟨hc, h⟩
      · refine jr_if2_lt_t jf_169_17 hc ?_
        refine jr_aload_n jf_169_24 rfl hl0 ?_
        replace h := obd_of h; obtain ⟨x6, hx6, h⟩ := h
        refine jr_getA jf_169_25 hx6 ?_
        refine jr_iload_n jf_169_28 rfl hl1 ?_
        replace h := obd_of h; obtain ⟨a7, rfl, h⟩ := h
        replace h := obd_of h; obtain ⟨x8, hx8, h⟩ := h
        refine jr_laload jf_169_29 hx8 ?_
        obtain rfl := Option.some.inj h
        exact jr_retJ jf_169_30 jmt_169
      · refine jr_if2_lt_f jf_169_17 hc ?_
        exact r_DeadCycles_tallyOf_20 hd _  _ _ h
set_option maxRecDepth 10000 in
set_option maxHeartbeats 4000000 in
theorem r_DeadCycles_tallyOf {B : Nat} {SA : Nat → Nat} {d : Nat} (hd : 0 ≤ d) : ∀ (v0 : Nat) (v1 : Int32) (μ : JMem) (r : Int64), g_DeadCycles_tallyOf v0 v1 μ.1 = some r → jR B SA d m_DeadCycles_tallyOf 0 (lv_args 0 [.ref v0, .int v1]) [] μ (some (.long r)) μ := by
  intro v0 v1 μ r h
  exact r_DeadCycles_tallyOf_e hd (lv_args 0 _) _ _ _ _ (by simp [lv_args, jget, rv_cat, cat_int, cat_long, cat_double, cat_float, cat_ref]) (by simp [lv_args, jget, rv_cat, cat_int, cat_long, cat_double, cat_float, cat_ref]) h
/-! FilterBench$DeadCycles.gatherFound()V -/
set_option maxRecDepth 10000 in
set_option maxHeartbeats 4000000 in
theorem r_DeadCycles_gatherFound_55 {N B : Nat} {SA : Nat → Nat} {d : Nat} (hd : 1 ≤ d) {k7 : Nat → Int32 → JMem → Option JMem} (i7 : ∀ (L : JLoc) (v0 : Nat) (v1 : Int32) (μ : JMem) (μ9 : JMem), jget L 0 = .ref v0 → jget L 1 = .int v1 → k7 v0 v1 μ = some μ9 → jR B SA d m_DeadCycles_gatherFound 7 L [] μ none μ9) : ∀ (L : JLoc) (v0 : Nat) (v1 : Int32) (μ : JMem) (μ9 : JMem), jget L 0 = .ref v0 → jget L 1 = .int v1 → g_DeadCycles_gatherFound_55 N B k7 v0 v1 μ = some μ9 → jR B SA d m_DeadCycles_gatherFound 55 L [] μ none μ9 := by
  intro L v0 v1 μ μ9 hl0 hl1 h
  unfold g_DeadCycles_gatherFound_55 at h
  refine jr_iinc jf_170_55 jc_i_1 jml_170 (by decide) hl1 ?_
  refine jr_goto jf_170_58 ?_
  exact i7 _ _ _ _ _ (jg1_pre (by first | rfl | exact rv_cat _) hl0) jg1_same h
set_option maxRecDepth 10000 in
set_option maxHeartbeats 4000000 in
theorem r_DeadCycles_gatherFound_7 {N B : Nat} {SA : Nat → Nat} {d : Nat} (hd : 1 ≤ d) : ∀ (n : Nat), ∀ (L : JLoc) (v0 : Nat) (v1 : Int32) (μ : JMem) (μ9 : JMem), jget L 0 = .ref v0 → jget L 1 = .int v1 → g_DeadCycles_gatherFound_7 N B n v0 v1 μ = some μ9 → jR B SA d m_DeadCycles_gatherFound 7 L [] μ none μ9 := by
  intro n
  induction n with
  | zero =>
    intro L v0 v1 μ μ9 hl0 hl1 h
    unfold g_DeadCycles_gatherFound_7 at h
    cases h
  | succ n ih =>
    intro L v0 v1 μ μ9 hl0 hl1 h
    unfold g_DeadCycles_gatherFound_7 at h
    refine jr_iload_n jf_170_7 rfl hl1 ?_
    refine jr_ldc jf_170_8 ?_
    replace h := ite_or h; rcases h with ⟨hc, h⟩ | ⟨hc, h⟩
    · refine jr_if2_ge_t jf_170_10 hc ?_
      obtain rfl := Option.some.inj h
      exact jr_return jf_170_61 jmt_170
    · refine jr_if2_ge_f jf_170_10 hc ?_
      refine jr_aload_n jf_170_13 rfl hl0 ?_
      refine jr_iload_n jf_170_14 rfl hl1 ?_
      replace h := jgd_of h; obtain ⟨hb1, h⟩ := h
      replace h := obd_of h; obtain ⟨x2, hx2, h⟩ := h
      refine jr_V6_1 jf_170_15 hb1 (by omega) (r_DeadCycles_tallyOf (by omega) _ _ _ _ hx2) (Nat.le_of_ble_eq_true rfl) jml_169 (Nat.le_of_ble_eq_true rfl) ?_
      refine jr_lconst0 jf_170_18 ?_
      refine jr_lcmp jf_170_19 ?_
      replace h := ite_or h; rcases h with ⟨hc, h⟩ | ⟨hc, h⟩
      · refine jr_ifl_eq_t jf_170_20 hc ?_
        exact r_DeadCycles_gatherFound_55 hd ih _ _ _ _ _ hl0 hl1 h
      · refine jr_ifl_eq_f jf_170_20 hc ?_
        refine jr_aload_n jf_170_23 rfl hl0 ?_
        refine jr_aload_n jf_170_24 rfl hl0 ?_
        replace h := obd_of h; obtain ⟨x3, hx3, h⟩ := h
        refine jr_getI jf_170_25 hx3 ?_
        refine jr_aload_n jf_170_28 rfl hl0 ?_
        refine jr_iload_n jf_170_29 rfl hl1 ?_
        replace h := jgd_of h; obtain ⟨hb4, h⟩ := h
        replace h := obd_of h; obtain ⟨x5, hx5, h⟩ := h
        refine jr_V6_1 jf_170_30 hb4 (by omega) (r_DeadCycles_tallyOf (by omega) _ _ _ _ hx5) (Nat.le_of_ble_eq_true rfl) jml_169 (Nat.le_of_ble_eq_true rfl) ?_
        replace h := jgd_of h; obtain ⟨hb6, h⟩ := h
        replace h := obd_of h; obtain ⟨μ7, hμ7, h⟩ := h
        refine jr_V6v_2 jf_170_33 hb6 (by omega) (r_DeadCycles_setTally (by omega) _ _ _ _ _ hμ7) (Nat.le_of_ble_eq_true rfl) jml_168 (Nat.le_of_ble_eq_true rfl) ?_
        refine jr_aload_n jf_170_36 rfl hl0 ?_
        refine jr_aload_n jf_170_37 rfl hl0 ?_
        replace h := obd_of h; obtain ⟨x8, hx8, h⟩ := h
        refine jr_getI jf_170_38 hx8 ?_
        refine jr_iload_n jf_170_41 rfl hl1 ?_
        replace h := jgd_of h; obtain ⟨hb9, h⟩ := h
        replace h := obd_of h; obtain ⟨μ10, hμ10, h⟩ := h
        refine jr_V6v_2 jf_170_42 hb9 (by omega) (r_DeadCycles_setOwner (by omega) _ _ _ _ _ hμ10) (Nat.le_of_ble_eq_true rfl) jml_164 (Nat.le_of_ble_eq_true rfl) ?_
        refine jr_aload_n jf_170_45 rfl hl0 ?_
        refine jr_dup jf_170_46 rfl ?_
        replace h := obd_of h; obtain ⟨x11, hx11, h⟩ := h
        refine jr_getI jf_170_47 hx11 ?_
        refine jr_iconst jf_170_50 jc_i_1 ?_
        refine jr_iadd jf_170_51 ?_
        replace h := obd_of h; obtain ⟨μ12, hμ12, h⟩ := h
        refine jr_putI jf_170_52 rfl hμ12 ?_
        exact r_DeadCycles_gatherFound_55 hd ih _ _ _ _ _ hl0 hl1 h
set_option maxRecDepth 10000 in
set_option maxHeartbeats 4000000 in
theorem r_DeadCycles_gatherFound_e {N B : Nat} {SA : Nat → Nat} {d : Nat} (hd : 1 ≤ d) : ∀ (L : JLoc) (v0 : Nat) (μ : JMem) (μ9 : JMem), jget L 0 = .ref v0 → g_DeadCycles_gatherFound N B v0 μ = some μ9 → jR B SA d m_DeadCycles_gatherFound 0 L [] μ none μ9 := by
  intro L v0 μ μ9 hl0 h
  unfold g_DeadCycles_gatherFound at h
  refine jr_aload_n jf_170_0 rfl hl0 ?_
  refine jr_iconst jf_170_1 jc_i_0 ?_
  replace h := obd_of h; obtain ⟨μ1, hμ1, h⟩ := h
  refine jr_putI jf_170_2 rfl hμ1 ?_
  refine jr_iconst jf_170_5 jc_i_0 ?_
  refine jr_istore_n jf_170_6 rfl jml_170 (by decide) ?_
  exact r_DeadCycles_gatherFound_7 hd _ _ _ _ _ _ (jg1_pre (by first | rfl | exact rv_cat _) hl0) jg1_same h
set_option maxRecDepth 10000 in
set_option maxHeartbeats 4000000 in
theorem r_DeadCycles_gatherFound {N B : Nat} {SA : Nat → Nat} {d : Nat} (hd : 1 ≤ d) : ∀ (v0 : Nat) (μ : JMem) (μ9 : JMem), g_DeadCycles_gatherFound N B v0 μ = some μ9 → jR B SA d m_DeadCycles_gatherFound 0 (lv_args 0 [.ref v0]) [] μ none μ9 := by
  intro v0 μ μ9 h
  exact r_DeadCycles_gatherFound_e hd (lv_args 0 _) _ _ _ (by simp [lv_args, jget, rv_cat, cat_int, cat_long, cat_double, cat_float, cat_ref]) h
/-! FilterBench$DeadCycles.ownerOf(I)I -/
set_option maxRecDepth 10000 in
set_option maxHeartbeats 4000000 in
theorem r_DeadCycles_ownerOf_20 {B : Nat} {SA : Nat → Nat} {d : Nat} (hd : 0 ≤ d) : ∀ (L : JLoc) (μ : JMem) (r : Int32), g_DeadCycles_ownerOf_20 μ.1 = some r → jR B SA d m_DeadCycles_ownerOf 20 L [] μ (some (.int r)) μ := by
  intro L μ r h
  unfold g_DeadCycles_ownerOf_20 at h
  refine jr_iconst jf_162_20 jc_i_0 ?_
  refine jr_goto jf_162_21 ?_
  obtain rfl := Option.some.inj h
  exact jr_retI jf_162_30 jmt_162
set_option maxRecDepth 10000 in
set_option maxHeartbeats 4000000 in
theorem r_DeadCycles_ownerOf_e {B : Nat} {SA : Nat → Nat} {d : Nat} (hd : 0 ≤ d) : ∀ (L : JLoc) (v0 : Nat) (v1 : Int32) (μ : JMem) (r : Int32), jget L 0 = .ref v0 → jget L 1 = .int v1 → g_DeadCycles_ownerOf v0 v1 μ.1 = some r → jR B SA d m_DeadCycles_ownerOf 0 L [] μ (some (.int r)) μ := by
  intro L v0 v1 μ r hl0 hl1 h
  unfold g_DeadCycles_ownerOf at h
  refine jr_aload_n jf_162_0 rfl hl0 ?_
  replace h := obd_of h; obtain ⟨x1, hx1, h⟩ := h
  refine jr_getA jf_162_1 hx1 ?_
  replace h := jon_or h; rcases h with ⟨rfl, h⟩ | ⟨a2, rfl, h⟩
  · refine jr_ifnull_n jf_162_4 ?_
    exact r_DeadCycles_ownerOf_20 hd _  _ _ h
  · refine jr_ifnull_s jf_162_4 ?_
    refine jr_iload_n jf_162_7 rfl hl1 ?_
    replace h := ite_or h; rcases h with ⟨hc, h⟩ | ⟨hc, h⟩
    · refine jr_if_lt_t jf_162_8 hc ?_
      exact r_DeadCycles_ownerOf_20 hd _  _ _ h
    · refine jr_if_lt_f jf_162_8 hc ?_
      refine jr_iload_n jf_162_11 rfl hl1 ?_
      refine jr_aload_n jf_162_12 rfl hl0 ?_
      replace h := obd_of h; obtain ⟨x3, hx3, h⟩ := h
      refine jr_getA jf_162_13 hx3 ?_
      replace h := obd_of h; obtain ⟨a4, rfl, h⟩ := h
      replace h := obd_of h; obtain ⟨x5, hx5, h⟩ := h
      refine jr_arraylength jf_162_16 hx5 ?_
      replace h := ite_or h; rcases h with ⟨hc, h⟩ | ⟨hc, h⟩
      · refine jr_if2_lt_t jf_162_17 hc ?_
        refine jr_aload_n jf_162_24 rfl hl0 ?_
        replace h := obd_of h; obtain ⟨x6, hx6, h⟩ := h
        refine jr_getA jf_162_25 hx6 ?_
        refine jr_iload_n jf_162_28 rfl hl1 ?_
        replace h := obd_of h; obtain ⟨a7, rfl, h⟩ := h
        replace h := obd_of h; obtain ⟨x8, hx8, h⟩ := h
        refine jr_iaload jf_162_29 hx8 ?_
        obtain rfl := Option.some.inj h
        exact jr_retI jf_162_30 jmt_162
      · refine jr_if2_lt_f jf_162_17 hc ?_
        exact r_DeadCycles_ownerOf_20 hd _  _ _ h
set_option maxRecDepth 10000 in
set_option maxHeartbeats 4000000 in
theorem r_DeadCycles_ownerOf {B : Nat} {SA : Nat → Nat} {d : Nat} (hd : 0 ≤ d) : ∀ (v0 : Nat) (v1 : Int32) (μ : JMem) (r : Int32), g_DeadCycles_ownerOf v0 v1 μ.1 = some r → jR B SA d m_DeadCycles_ownerOf 0 (lv_args 0 [.ref v0, .int v1]) [] μ (some (.int r)) μ := by
  intro v0 v1 μ r h
  exact r_DeadCycles_ownerOf_e hd (lv_args 0 _) _ _ _ _ (by simp [lv_args, jget, rv_cat, cat_int, cat_long, cat_double, cat_float, cat_ref]) (by simp [lv_args, jget, rv_cat, cat_int, cat_long, cat_double, cat_float, cat_ref]) h
/-! FilterBench$DeadCycles.next(I)I -/
set_option maxRecDepth 10000 in
set_option maxHeartbeats 4000000 in
theorem r_DeadCycles_next_38 {B : Nat} {SA : Nat → Nat} {d : Nat} (hd : 2 ≤ d) : ∀ (L : JLoc) (s0 : Int64) (μ : JMem) (r : Int32), g_DeadCycles_next_38 s0 μ.1 = some r → jR B SA d m_DeadCycles_next 38 L [.long s0] μ (some (.int r)) μ := by
  intro L s0 μ r h
  unfold g_DeadCycles_next_38 at h
  refine jr_l2i jf_165_38 ?_
  refine jr_sipush jf_165_39 jc_s_m32768 ?_
  refine jr_isub jf_165_42 ?_
  obtain rfl := Option.some.inj h
  exact jr_retI jf_165_43 jmt_165
set_option maxRecDepth 10000 in
set_option maxHeartbeats 4000000 in
theorem r_DeadCycles_next_e {B : Nat} {SA : Nat → Nat} {d : Nat} (hd : 2 ≤ d) : ∀ (L : JLoc) (v0 : Nat) (v1 : Int32) (μ : JMem) (r : Int32), jget L 0 = .ref v0 → jget L 1 = .int v1 → g_DeadCycles_next v0 v1 μ.1 = some r → jR B SA d m_DeadCycles_next 0 L [] μ (some (.int r)) μ := by
  intro L v0 v1 μ r hl0 hl1 h
  unfold g_DeadCycles_next at h
  refine jr_aload_n jf_165_0 rfl hl0 ?_
  replace h := obd_of h; obtain ⟨x1, hx1, h⟩ := h
  refine jr_getJ jf_165_1 hx1 ?_
  refine jr_iload_n jf_165_4 rfl hl1 ?_
  refine jr_sipush jf_165_5 jc_s_m32768 ?_
  refine jr_iadd jf_165_8 ?_
  refine jr_i2l jf_165_9 ?_
  refine jr_lmul jf_165_10 ?_
  refine jr_aload_n jf_165_11 rfl hl0 ?_
  replace h := obd_of h; obtain ⟨x2, hx2, h⟩ := h
  refine jr_getI jf_165_12 hx2 ?_
  refine jr_S3_2 jf_165_15 (by omega) (r_Shorts_rounded (by omega) _ _ _ _ rfl) (Nat.le_of_ble_eq_true rfl) jml_80 (Nat.le_of_ble_eq_true rfl) ?_
  refine jr_lstore_n jf_165_18 rfl jml_165 (by decide) ?_
  replace h := jlet_of h
  refine jr_lload_n jf_165_19 rfl jg2_same ?_
  refine jr_S3_1 jf_165_20 (by omega) (r_Shorts_isShort (by omega) _ _ _ rfl) (Nat.le_of_ble_eq_true rfl) jml_81 (Nat.le_of_ble_eq_true rfl) ?_
  replace h := ite_or h; rcases h with ⟨hc, h⟩ | ⟨hc, h⟩
  · refine jr_ifz_eq_f jf_165_23 hc ?_
    refine jr_lload_n jf_165_26 rfl jg2_same ?_
    refine jr_goto jf_165_27 ?_
    exact r_DeadCycles_next_38 hd _ _ _ _ h
  · refine jr_ifz_eq_t jf_165_23 hc ?_
    refine jr_lload_n jf_165_30 rfl jg2_same ?_
    refine jr_aload_n jf_165_31 rfl (jg2_ne rfl hl0) ?_
    replace h := obd_of h; obtain ⟨x4, hx4, h⟩ := h
    refine jr_getI jf_165_32 hx4 ?_
    refine jr_S3_2 jf_165_35 (by omega) (r_Shorts_limited (by omega) _ _ _ _ rfl) (Nat.le_of_ble_eq_true rfl) jml_82 (Nat.le_of_ble_eq_true rfl) ?_
    exact r_DeadCycles_next_38 hd _ _ _ _ h
set_option maxRecDepth 10000 in
set_option maxHeartbeats 4000000 in
theorem r_DeadCycles_next {B : Nat} {SA : Nat → Nat} {d : Nat} (hd : 2 ≤ d) : ∀ (v0 : Nat) (v1 : Int32) (μ : JMem) (r : Int32), g_DeadCycles_next v0 v1 μ.1 = some r → jR B SA d m_DeadCycles_next 0 (lv_args 0 [.ref v0, .int v1]) [] μ (some (.int r)) μ := by
  intro v0 v1 μ r h
  exact r_DeadCycles_next_e hd (lv_args 0 _) _ _ _ _ (by simp [lv_args, jget, rv_cat, cat_int, cat_long, cat_double, cat_float, cat_ref]) (by simp [lv_args, jget, rv_cat, cat_int, cat_long, cat_double, cat_float, cat_ref]) h
/-! java/lang/Math.min(II)I -/
set_option maxRecDepth 10000 in
set_option maxHeartbeats 4000000 in
theorem r_JMath_min_e {B : Nat} {SA : Nat → Nat} {d : Nat} (hd : 0 ≤ d) : ∀ (L : JLoc) (v0 : Int32) (v1 : Int32) (μ : JMem) (r : Int32), jget L 0 = .int v0 → jget L 1 = .int v1 → g_JMath_min v0 v1 = r → jR B SA d m_JMath_min 0 L [] μ (some (.int r)) μ := by
  intro L v0 v1 μ r hl0 hl1 h
  unfold g_JMath_min at h
  refine jr_iload_n jf_167_0 rfl hl0 ?_
  refine jr_iload_n jf_167_1 rfl hl1 ?_
  replace h := ite_or h; rcases h with ⟨hc, h⟩ | ⟨hc, h⟩
  · refine jr_if2_gt_t jf_167_2 hc ?_
    refine jr_iload_n jf_167_9 rfl hl1 ?_
    subst h
    exact jr_retI jf_167_10 jmt_167
  · refine jr_if2_gt_f jf_167_2 hc ?_
    refine jr_iload_n jf_167_5 rfl hl0 ?_
    refine jr_goto jf_167_6 ?_
    subst h
    exact jr_retI jf_167_10 jmt_167
set_option maxRecDepth 10000 in
set_option maxHeartbeats 4000000 in
theorem r_JMath_min {B : Nat} {SA : Nat → Nat} {d : Nat} (hd : 0 ≤ d) : ∀ (v0 : Int32) (v1 : Int32) (μ : JMem) (r : Int32), g_JMath_min v0 v1 = r → jR B SA d m_JMath_min 0 (lv_args 0 [.int v0, .int v1]) [] μ (some (.int r)) μ := by
  intro v0 v1 μ r h
  exact r_JMath_min_e hd (lv_args 0 _) _ _ _ _ (by simp [lv_args, jget, rv_cat, cat_int, cat_long, cat_double, cat_float, cat_ref]) (by simp [lv_args, jget, rv_cat, cat_int, cat_long, cat_double, cat_float, cat_ref]) h
/-! FilterBench$DeadCycles.newCycle(I)I -/
set_option maxRecDepth 10000 in
set_option maxHeartbeats 4000000 in
theorem r_DeadCycles_newCycle_51 {N B : Nat} {SA : Nat → Nat} {d : Nat} (hd : 3 ≤ d) : ∀ (L : JLoc) (v0 : Nat) (v2 : Int32) (v3 : Int32) (μ : JMem) (r : Int32) (μ9 : JMem), jget L 0 = .ref v0 → jget L 2 = .int v2 → jget L 3 = .int v3 → g_DeadCycles_newCycle_51 N B v0 v2 v3 μ = some (r, μ9) → jR B SA d m_DeadCycles_newCycle 51 L [] μ (some (.int r)) μ9 := by
  intro L v0 v2 v3 μ r μ9 hl0 hl2 hl3 h
  unfold g_DeadCycles_newCycle_51 at h
  refine jr_aload_n jf_166_51 rfl hl0 ?_
  refine jr_iload_n jf_166_52 rfl hl2 ?_
  refine jr_iload_n jf_166_53 rfl hl3 ?_
  refine jr_i2l jf_166_54 ?_
  replace h := jgd_of h; obtain ⟨hb1, h⟩ := h
  replace h := obd_of h; obtain ⟨μ2, hμ2, h⟩ := h
  refine jr_V6v_2 jf_166_55 hb1 (by omega) (r_DeadCycles_setTally (by omega) _ _ _ _ _ hμ2) (Nat.le_of_ble_eq_true rfl) jml_168 (Nat.le_of_ble_eq_true rfl) ?_
  refine jr_iload_n jf_166_58 rfl hl2 ?_
  refine jr_iconst jf_166_59 jc_i_1 ?_
  refine jr_iadd jf_166_60 ?_
  obtain ⟨rfl, rfl⟩ := Prod.mk.inj (Option.some.inj h)
  exact jr_retI jf_166_61 jmt_166
set_option maxRecDepth 10000 in
set_option maxHeartbeats 4000000 in
theorem r_DeadCycles_newCycle_14 {N B : Nat} {SA : Nat → Nat} {d : Nat} (hd : 3 ≤ d) : ∀ (n : Nat), ∀ (L : JLoc) (v0 : Nat) (v1 : Int32) (v2 : Int32) (v3 : Int32) (v4 : Int32) (v5 : Int32) (μ : JMem) (r : Int32) (μ9 : JMem), jget L 0 = .ref v0 → jget L 1 = .int v1 → jget L 2 = .int v2 → jget L 3 = .int v3 → jget L 4 = .int v4 → jget L 5 = .int v5 → g_DeadCycles_newCycle_14 N B n v0 v1 v2 v3 v4 v5 μ = some (r, μ9) → jR B SA d m_DeadCycles_newCycle 14 L [] μ (some (.int r)) μ9 := by
  intro n
  induction n with
  | zero =>
    intro L v0 v1 v2 v3 v4 v5 μ r μ9 hl0 hl1 hl2 hl3 hl4 hl5 h
    unfold g_DeadCycles_newCycle_14 at h
    cases h
  | succ n ih =>
    intro L v0 v1 v2 v3 v4 v5 μ r μ9 hl0 hl1 hl2 hl3 hl4 hl5 h
    unfold g_DeadCycles_newCycle_14 at h
    refine jr_iload jf_166_14 hl5 ?_
    refine jr_ldc jf_166_16 ?_
    replace h := ite_or h; rcases h with ⟨hc, h⟩ | ⟨hc, h⟩
    · refine jr_if2_ge_t jf_166_18 hc ?_
      exact r_DeadCycles_newCycle_51 hd _ _ _ _ _ _ _ hl0 hl2 hl3 h
    · refine jr_if2_ge_f jf_166_18 hc ?_
      refine jr_iload jf_166_21 hl4 ?_
      refine jr_iload_n jf_166_23 rfl hl1 ?_
      replace h := ite_or h; rcases h with ⟨hc, h⟩ | ⟨hc, h⟩
      · refine jr_if2_eq_t jf_166_24 hc ?_
        exact r_DeadCycles_newCycle_51 hd _ _ _ _ _ _ _ hl0 hl2 hl3 h
      · refine jr_if2_eq_f jf_166_24 hc ?_
        refine jr_iload_n jf_166_27 rfl hl2 ?_
        refine jr_iload jf_166_28 hl4 ?_
        refine jr_S3_2 jf_166_30 (by omega) (r_JMath_min (by omega) _ _ _ _ rfl) (Nat.le_of_ble_eq_true rfl) jml_167 (Nat.le_of_ble_eq_true rfl) ?_
        refine jr_istore_n jf_166_33 rfl jml_166 (by decide) ?_
        refine jr_iinc jf_166_34 jc_i_1 jml_166 (by decide) (jg1_ne rfl hl3) ?_
        refine jr_aload_n jf_166_37 rfl (jg1_ne rfl (jg1_ne rfl hl0)) ?_
        refine jr_iload jf_166_38 (jg1_ne rfl (jg1_ne rfl hl4)) ?_
        replace h := jgd_of h; obtain ⟨hb1, h⟩ := h
        replace h := obd_of h; obtain ⟨x2, hx2, h⟩ := h
        refine jr_V6_1 jf_166_40 hb1 (by omega) (r_DeadCycles_next (by omega) _ _ _ _ hx2) (Nat.le_of_ble_eq_true rfl) jml_165 (Nat.le_of_ble_eq_true rfl) ?_
        refine jr_istore jf_166_43 jml_166 (by decide) ?_
        refine jr_iinc jf_166_45 jc_i_1 jml_166 (by decide) (jg1_ne rfl (jg1_ne rfl (jg1_ne rfl hl5))) ?_
        refine jr_goto jf_166_48 ?_
        exact ih _ _ _ _ _ _ _ _ _ _ (jg1_ne rfl (jg1_ne rfl (jg1_ne rfl (jg1_ne rfl hl0)))) (jg1_ne rfl (jg1_ne rfl (jg1_ne rfl (jg1_pre rfl hl1)))) (jg1_ne rfl (jg1_ne rfl (jg1_pre rfl jg1_same))) (jg1_ne rfl (jg1_pre rfl jg1_same)) (jg1_pre rfl jg1_same) jg1_same h
set_option maxRecDepth 10000 in
set_option maxHeartbeats 4000000 in
theorem r_DeadCycles_newCycle_e {N B : Nat} {SA : Nat → Nat} {d : Nat} (hd : 3 ≤ d) : ∀ (L : JLoc) (v0 : Nat) (v1 : Int32) (μ : JMem) (r : Int32) (μ9 : JMem), jget L 0 = .ref v0 → jget L 1 = .int v1 → g_DeadCycles_newCycle N B v0 v1 μ = some (r, μ9) → jR B SA d m_DeadCycles_newCycle 0 L [] μ (some (.int r)) μ9 := by
  intro L v0 v1 μ r μ9 hl0 hl1 h
  unfold g_DeadCycles_newCycle at h
  refine jr_iload_n jf_166_0 rfl hl1 ?_
  refine jr_istore_n jf_166_1 rfl jml_166 (by decide) ?_
  refine jr_iconst jf_166_2 jc_i_1 ?_
  refine jr_istore_n jf_166_3 rfl jml_166 (by decide) ?_
  refine jr_aload_n jf_166_4 rfl (jg1_ne rfl (jg1_ne rfl hl0)) ?_
  refine jr_iload_n jf_166_5 rfl (jg1_ne rfl (jg1_pre rfl hl1)) ?_
  replace h := jgd_of h; obtain ⟨hb1, h⟩ := h
  replace h := obd_of h; obtain ⟨x2, hx2, h⟩ := h
  refine jr_V6_1 jf_166_6 hb1 (by omega) (r_DeadCycles_next (by omega) _ _ _ _ hx2) (Nat.le_of_ble_eq_true rfl) jml_165 (Nat.le_of_ble_eq_true rfl) ?_
  refine jr_istore jf_166_9 jml_166 (by decide) ?_
  refine jr_iconst jf_166_11 jc_i_0 ?_
  refine jr_istore jf_166_12 jml_166 (by decide) ?_
  exact r_DeadCycles_newCycle_14 hd _ _ _ _ _ _ _ _ _ _ _ (jg1_ne rfl (jg1_ne rfl (jg1_ne rfl (jg1_ne rfl hl0)))) (jg1_ne rfl (jg1_ne rfl (jg1_ne rfl (jg1_pre rfl hl1)))) (jg1_ne rfl (jg1_ne rfl (jg1_pre rfl jg1_same))) (jg1_ne rfl (jg1_pre rfl jg1_same)) (jg1_pre rfl jg1_same) jg1_same h
set_option maxRecDepth 10000 in
set_option maxHeartbeats 4000000 in
theorem r_DeadCycles_newCycle {N B : Nat} {SA : Nat → Nat} {d : Nat} (hd : 3 ≤ d) : ∀ (v0 : Nat) (v1 : Int32) (μ : JMem) (r : Int32) (μ9 : JMem), g_DeadCycles_newCycle N B v0 v1 μ = some (r, μ9) → jR B SA d m_DeadCycles_newCycle 0 (lv_args 0 [.ref v0, .int v1]) [] μ (some (.int r)) μ9 := by
  intro v0 v1 μ r μ9 h
  exact r_DeadCycles_newCycle_e hd (lv_args 0 _) _ _ _ _ _ (by simp [lv_args, jget, rv_cat, cat_int, cat_long, cat_double, cat_float, cat_ref]) (by simp [lv_args, jget, rv_cat, cat_int, cat_long, cat_double, cat_float, cat_ref]) h
/-! FilterBench$DeadCycles.walk(I)V -/
set_option maxRecDepth 10000 in
set_option maxHeartbeats 4000000 in
theorem r_DeadCycles_walk_112 {N B : Nat} {SA : Nat → Nat} {d : Nat} (hd : 4 ≤ d) : ∀ (L : JLoc) (v0 : Nat) (v4 : Int32) (v5 : Int32) (μ : JMem) (μ9 : JMem), jget L 0 = .ref v0 → jget L 4 = .int v4 → jget L 5 = .int v5 → g_DeadCycles_walk_112 N B v0 v4 v5 μ = some μ9 → jR B SA d m_DeadCycles_walk 112 L [] μ none μ9 := by
  intro L v0 v4 v5 μ μ9 hl0 hl4 hl5 h
  unfold g_DeadCycles_walk_112 at h
  refine jr_aload_n jf_163_112 rfl hl0 ?_
  refine jr_iload jf_163_113 hl4 ?_
  refine jr_iconst jf_163_115 jc_i_1 ?_
  refine jr_isub jf_163_116 ?_
  refine jr_aload_n jf_163_117 rfl hl0 ?_
  refine jr_iload jf_163_118 hl4 ?_
  refine jr_iconst jf_163_120 jc_i_1 ?_
  refine jr_isub jf_163_121 ?_
  replace h := jgd_of h; obtain ⟨hb1, h⟩ := h
  replace h := obd_of h; obtain ⟨x2, hx2, h⟩ := h
  refine jr_V6_1 jf_163_122 hb1 (by omega) (r_DeadCycles_tallyOf (by omega) _ _ _ _ hx2) (Nat.le_of_ble_eq_true rfl) jml_169 (Nat.le_of_ble_eq_true rfl) ?_
  refine jr_iload jf_163_125 hl5 ?_
  refine jr_i2l jf_163_127 ?_
  refine jr_bipush jf_163_128 jc_b_32 ?_
  refine jr_lshl jf_163_130 ?_
  refine jr_ladd jf_163_131 ?_
  replace h := jgd_of h; obtain ⟨hb3, h⟩ := h
  replace h := obd_of h; obtain ⟨μ4, hμ4, h⟩ := h
  refine jr_V6v_2 jf_163_132 hb3 (by omega) (r_DeadCycles_setTally (by omega) _ _ _ _ _ hμ4) (Nat.le_of_ble_eq_true rfl) jml_168 (Nat.le_of_ble_eq_true rfl) ?_
  obtain rfl := Option.some.inj h
  exact jr_return jf_163_135 jmt_163
set_option maxRecDepth 10000 in
set_option maxHeartbeats 4000000 in
theorem r_DeadCycles_walk_74 {N B : Nat} {SA : Nat → Nat} {d : Nat} (hd : 4 ≤ d) : ∀ (n : Nat), ∀ (L : JLoc) (v0 : Nat) (v2 : Int32) (v3 : Int32) (v4 : Int32) (v5 : Int32) (v6 : Int32) (μ : JMem) (μ9 : JMem), jget L 0 = .ref v0 → jget L 2 = .int v2 → jget L 3 = .int v3 → jget L 4 = .int v4 → jget L 5 = .int v5 → jget L 6 = .int v6 → g_DeadCycles_walk_74 N B n v0 v2 v3 v4 v5 v6 μ = some μ9 → jR B SA d m_DeadCycles_walk 74 L [] μ none μ9 := by
  intro n
  induction n with
  | zero =>
    intro L v0 v2 v3 v4 v5 v6 μ μ9 hl0 hl2 hl3 hl4 hl5 hl6 h
    unfold g_DeadCycles_walk_74 at h
    cases h
  | succ n ih =>
    intro L v0 v2 v3 v4 v5 v6 μ μ9 hl0 hl2 hl3 hl4 hl5 hl6 h
    unfold g_DeadCycles_walk_74 at h
    refine jr_iload jf_163_74 hl6 ?_
    refine jr_ldc jf_163_76 ?_
    replace h := ite_or h; rcases h with ⟨hc, h⟩ | ⟨hc, h⟩
    · refine jr_if2_ge_t jf_163_78 hc ?_
      exact r_DeadCycles_walk_112 hd _ _ _ _ _ _ hl0 hl4 hl5 h
    · refine jr_if2_ge_f jf_163_78 hc ?_
      refine jr_aload_n jf_163_81 rfl hl0 ?_
      refine jr_iload_n jf_163_82 rfl hl3 ?_
      replace h := jgd_of h; obtain ⟨hb1, h⟩ := h
      replace h := obd_of h; obtain ⟨x2, hx2, h⟩ := h
      refine jr_V6_1 jf_163_83 hb1 (by omega) (r_DeadCycles_ownerOf (by omega) _ _ _ _ hx2) (Nat.le_of_ble_eq_true rfl) jml_162 (Nat.le_of_ble_eq_true rfl) ?_
      refine jr_iload_n jf_163_86 rfl hl2 ?_
      replace h := ite_or h; rcases h with ⟨hc, h⟩ | ⟨hc, h⟩
      · refine jr_if2_ne_f jf_163_87 hc ?_
        refine jr_aload_n jf_163_90 rfl hl0 ?_
        refine jr_iload_n jf_163_91 rfl hl3 ?_
        refine jr_iload jf_163_92 hl4 ?_
        replace h := jgd_of h; obtain ⟨hb3, h⟩ := h
        replace h := obd_of h; obtain ⟨μ4, hμ4, h⟩ := h
        refine jr_V6v_2 jf_163_94 hb3 (by omega) (r_DeadCycles_setOwner (by omega) _ _ _ _ _ hμ4) (Nat.le_of_ble_eq_true rfl) jml_164 (Nat.le_of_ble_eq_true rfl) ?_
        refine jr_iinc jf_163_97 jc_i_1 jml_163 (by decide) hl5 ?_
        refine jr_aload_n jf_163_100 rfl (jg1_ne rfl hl0) ?_
        refine jr_iload_n jf_163_101 rfl (jg1_ne rfl hl3) ?_
        replace h := jgd_of h; obtain ⟨hb5, h⟩ := h
        replace h := obd_of h; obtain ⟨x6, hx6, h⟩ := h
        refine jr_V6_1 jf_163_102 hb5 (by omega) (r_DeadCycles_next (by omega) _ _ _ _ hx6) (Nat.le_of_ble_eq_true rfl) jml_165 (Nat.le_of_ble_eq_true rfl) ?_
        refine jr_istore_n jf_163_105 rfl jml_163 (by decide) ?_
        refine jr_iinc jf_163_106 jc_i_1 jml_163 (by decide) (jg1_ne rfl (jg1_ne rfl hl6)) ?_
        refine jr_goto jf_163_109 ?_
        exact ih _ _ _ _ _ _ _ _ _ (jg1_ne rfl (jg1_ne rfl (jg1_ne rfl hl0))) (jg1_ne rfl (jg1_pre rfl (jg1_ne rfl hl2))) (jg1_ne rfl jg1_same) (jg1_ne rfl (jg1_ne rfl (jg1_pre rfl hl4))) (jg1_pre rfl (jg1_ne rfl jg1_same)) jg1_same h
      · refine jr_if2_ne_t jf_163_87 hc ?_
        exact r_DeadCycles_walk_112 hd _ _ _ _ _ _ hl0 hl4 hl5 h
set_option maxRecDepth 10000 in
set_option maxHeartbeats 4000000 in
theorem r_DeadCycles_walk_64 {N B : Nat} {SA : Nat → Nat} {d : Nat} (hd : 4 ≤ d) : ∀ (L : JLoc) (v0 : Nat) (v1 : Int32) (v2 : Int32) (s0 : Int32) (μ : JMem) (μ9 : JMem), jget L 0 = .ref v0 → jget L 1 = .int v1 → jget L 2 = .int v2 → g_DeadCycles_walk_64 N B v0 v1 v2 s0 μ = some μ9 → jR B SA d m_DeadCycles_walk 64 L [.int s0] μ none μ9 := by
  intro L v0 v1 v2 s0 μ μ9 hl0 hl1 hl2 h
  unfold g_DeadCycles_walk_64 at h
  refine jr_istore jf_163_64 jml_163 (by decide) ?_
  refine jr_iconst jf_163_66 jc_i_0 ?_
  refine jr_istore jf_163_67 jml_163 (by decide) ?_
  refine jr_iload_n jf_163_69 rfl (jg1_ne rfl (jg1_ne rfl hl1)) ?_
  refine jr_istore_n jf_163_70 rfl jml_163 (by decide) ?_
  refine jr_iconst jf_163_71 jc_i_0 ?_
  refine jr_istore jf_163_72 jml_163 (by decide) ?_
  exact r_DeadCycles_walk_74 hd _ _ _ _ _ _ _ _ _ _ (jg1_ne rfl (jg1_ne rfl (jg1_ne rfl (jg1_ne rfl hl0)))) (jg1_ne rfl (jg1_pre rfl (jg1_ne rfl (jg1_ne rfl hl2)))) (jg1_ne rfl jg1_same) (jg1_ne rfl (jg1_ne rfl (jg1_pre rfl jg1_same))) (jg1_pre rfl (jg1_ne rfl jg1_same)) jg1_same h
set_option maxRecDepth 10000 in
set_option maxHeartbeats 4000000 in
theorem r_DeadCycles_walk_42 {N B : Nat} {SA : Nat → Nat} {d : Nat} (hd : 4 ≤ d) : ∀ (L : JLoc) (v0 : Nat) (v1 : Int32) (v2 : Int32) (v3 : Int32) (μ : JMem) (μ9 : JMem), jget L 0 = .ref v0 → jget L 1 = .int v1 → jget L 2 = .int v2 → jget L 3 = .int v3 → g_DeadCycles_walk_42 N B v0 v1 v2 v3 μ = some μ9 → jR B SA d m_DeadCycles_walk 42 L [] μ none μ9 := by
  intro L v0 v1 v2 v3 μ μ9 hl0 hl1 hl2 hl3 h
  unfold g_DeadCycles_walk_42 at h
  refine jr_aload_n jf_163_42 rfl hl0 ?_
  refine jr_iload_n jf_163_43 rfl hl3 ?_
  replace h := jgd_of h; obtain ⟨hb1, h⟩ := h
  replace h := obd_of h; obtain ⟨x2, hx2, h⟩ := h
  refine jr_V6_1 jf_163_44 hb1 (by omega) (r_DeadCycles_ownerOf (by omega) _ _ _ _ hx2) (Nat.le_of_ble_eq_true rfl) jml_162 (Nat.le_of_ble_eq_true rfl) ?_
  refine jr_iload_n jf_163_47 rfl hl2 ?_
  replace h := ite_or h; rcases h with ⟨hc, h⟩ | ⟨hc, h⟩
  · refine jr_if2_ne_f jf_163_48 hc ?_
    refine jr_aload_n jf_163_51 rfl hl0 ?_
    refine jr_iload_n jf_163_52 rfl hl3 ?_
    replace h := jgd_of h; obtain ⟨hb3, h⟩ := h
    replace h := jbd2_of h; obtain ⟨x4, μ5, hx4, h⟩ := h
    refine jr_V6_1 jf_163_53 hb3 (by omega) (r_DeadCycles_newCycle (by omega) _ _ _ _ _ hx4) (Nat.le_of_ble_eq_true rfl) jml_166 (Nat.le_of_ble_eq_true rfl) ?_
    refine jr_goto jf_163_56 ?_
    exact r_DeadCycles_walk_64 hd _ _ _ _ _ _ _ hl0 hl1 hl2 h
  · refine jr_if2_ne_t jf_163_48 hc ?_
    refine jr_aload_n jf_163_59 rfl hl0 ?_
    refine jr_iload_n jf_163_60 rfl hl3 ?_
    replace h := jgd_of h; obtain ⟨hb6, h⟩ := h
    replace h := obd_of h; obtain ⟨x7, hx7, h⟩ := h
    refine jr_V6_1 jf_163_61 hb6 (by omega) (r_DeadCycles_ownerOf (by omega) _ _ _ _ hx7) (Nat.le_of_ble_eq_true rfl) jml_162 (Nat.le_of_ble_eq_true rfl) ?_
    exact r_DeadCycles_walk_64 hd _ _ _ _ _ _ _ hl0 hl1 hl2 h
set_option maxRecDepth 10000 in
set_option maxHeartbeats 4000000 in
theorem r_DeadCycles_walk_9 {N B : Nat} {SA : Nat → Nat} {d : Nat} (hd : 4 ≤ d) : ∀ (n : Nat), ∀ (L : JLoc) (v0 : Nat) (v1 : Int32) (v2 : Int32) (v3 : Int32) (v4 : Int32) (μ : JMem) (μ9 : JMem), jget L 0 = .ref v0 → jget L 1 = .int v1 → jget L 2 = .int v2 → jget L 3 = .int v3 → jget L 4 = .int v4 → g_DeadCycles_walk_9 N B n v0 v1 v2 v3 v4 μ = some μ9 → jR B SA d m_DeadCycles_walk 9 L [] μ none μ9 := by
  intro n
  induction n with
  | zero =>
    intro L v0 v1 v2 v3 v4 μ μ9 hl0 hl1 hl2 hl3 hl4 h
    unfold g_DeadCycles_walk_9 at h
    cases h
  | succ n ih =>
    intro L v0 v1 v2 v3 v4 μ μ9 hl0 hl1 hl2 hl3 hl4 h
    unfold g_DeadCycles_walk_9 at h
    refine jr_iload jf_163_9 hl4 ?_
    refine jr_ldc jf_163_11 ?_
    replace h := ite_or h; rcases h with ⟨hc, h⟩ | ⟨hc, h⟩
    · refine jr_if2_ge_t jf_163_13 hc ?_
      exact r_DeadCycles_walk_42 hd _ _ _ _ _ _ _ hl0 hl1 hl2 hl3 h
    · refine jr_if2_ge_f jf_163_13 hc ?_
      refine jr_aload_n jf_163_16 rfl hl0 ?_
      refine jr_iload_n jf_163_17 rfl hl3 ?_
      replace h := jgd_of h; obtain ⟨hb1, h⟩ := h
      replace h := obd_of h; obtain ⟨x2, hx2, h⟩ := h
      refine jr_V6_1 jf_163_18 hb1 (by omega) (r_DeadCycles_ownerOf (by omega) _ _ _ _ hx2) (Nat.le_of_ble_eq_true rfl) jml_162 (Nat.le_of_ble_eq_true rfl) ?_
      replace h := ite_or h; rcases h with ⟨hc, h⟩ | ⟨hc, h⟩
      · refine jr_if_ne_f jf_163_21 hc ?_
        refine jr_aload_n jf_163_24 rfl hl0 ?_
        refine jr_iload_n jf_163_25 rfl hl3 ?_
        refine jr_iload_n jf_163_26 rfl hl2 ?_
        replace h := jgd_of h; obtain ⟨hb3, h⟩ := h
        replace h := obd_of h; obtain ⟨μ4, hμ4, h⟩ := h
        refine jr_V6v_2 jf_163_27 hb3 (by omega) (r_DeadCycles_setOwner (by omega) _ _ _ _ _ hμ4) (Nat.le_of_ble_eq_true rfl) jml_164 (Nat.le_of_ble_eq_true rfl) ?_
        refine jr_aload_n jf_163_30 rfl hl0 ?_
        refine jr_iload_n jf_163_31 rfl hl3 ?_
        replace h := jgd_of h; obtain ⟨hb5, h⟩ := h
        replace h := obd_of h; obtain ⟨x6, hx6, h⟩ := h
        refine jr_V6_1 jf_163_32 hb5 (by omega) (r_DeadCycles_next (by omega) _ _ _ _ hx6) (Nat.le_of_ble_eq_true rfl) jml_165 (Nat.le_of_ble_eq_true rfl) ?_
        refine jr_istore_n jf_163_35 rfl jml_163 (by decide) ?_
        refine jr_iinc jf_163_36 jc_i_1 jml_163 (by decide) (jg1_ne rfl hl4) ?_
        refine jr_goto jf_163_39 ?_
        exact ih _ _ _ _ _ _ _ _ (jg1_ne rfl (jg1_ne rfl hl0)) (jg1_ne rfl (jg1_ne rfl hl1)) (jg1_ne rfl (jg1_pre rfl hl2)) (jg1_pre rfl jg1_same) jg1_same h
      · refine jr_if_ne_t jf_163_21 hc ?_
        exact r_DeadCycles_walk_42 hd _ _ _ _ _ _ _ hl0 hl1 hl2 hl3 h
set_option maxRecDepth 10000 in
set_option maxHeartbeats 4000000 in
theorem r_DeadCycles_walk_e {N B : Nat} {SA : Nat → Nat} {d : Nat} (hd : 4 ≤ d) : ∀ (L : JLoc) (v0 : Nat) (v1 : Int32) (μ : JMem) (μ9 : JMem), jget L 0 = .ref v0 → jget L 1 = .int v1 → g_DeadCycles_walk N B v0 v1 μ = some μ9 → jR B SA d m_DeadCycles_walk 0 L [] μ none μ9 := by
  intro L v0 v1 μ μ9 hl0 hl1 h
  unfold g_DeadCycles_walk at h
  refine jr_iconst jf_163_0 jc_i_m1 ?_
  refine jr_iload_n jf_163_1 rfl hl1 ?_
  refine jr_isub jf_163_2 ?_
  refine jr_istore_n jf_163_3 rfl jml_163 (by decide) ?_
  refine jr_iload_n jf_163_4 rfl (jg1_pre rfl hl1) ?_
  refine jr_istore_n jf_163_5 rfl jml_163 (by decide) ?_
  refine jr_iconst jf_163_6 jc_i_0 ?_
  refine jr_istore jf_163_7 jml_163 (by decide) ?_
  exact r_DeadCycles_walk_9 hd _ _ _ _ _ _ _ _ _ (jg1_ne rfl (jg1_ne rfl (jg1_ne rfl hl0))) (jg1_ne rfl (jg1_ne rfl (jg1_pre rfl hl1))) (jg1_ne rfl (jg1_pre rfl jg1_same)) (jg1_pre rfl jg1_same) jg1_same h
set_option maxRecDepth 10000 in
set_option maxHeartbeats 4000000 in
theorem r_DeadCycles_walk {N B : Nat} {SA : Nat → Nat} {d : Nat} (hd : 4 ≤ d) : ∀ (v0 : Nat) (v1 : Int32) (μ : JMem) (μ9 : JMem), g_DeadCycles_walk N B v0 v1 μ = some μ9 → jR B SA d m_DeadCycles_walk 0 (lv_args 0 [.ref v0, .int v1]) [] μ none μ9 := by
  intro v0 v1 μ μ9 h
  exact r_DeadCycles_walk_e hd (lv_args 0 _) _ _ _ _ (by simp [lv_args, jget, rv_cat, cat_int, cat_long, cat_double, cat_float, cat_ref]) (by simp [lv_args, jget, rv_cat, cat_int, cat_long, cat_double, cat_float, cat_ref]) h
/-! FilterBench$DeadCycles.look(LFilterBench$Section;)Z -/
set_option maxRecDepth 10000 in
set_option maxHeartbeats 4000000 in
theorem r_DeadCycles_look_129 {N B : Nat} {SA : Nat → Nat} {d : Nat} (hd : 5 ≤ d) {k110 : Nat → Int32 → JMem → Option (Bool × JMem)} (i110 : ∀ (L : JLoc) (v0 : Nat) (v2 : Int32) (μ : JMem) (r : Bool) (μ9 : JMem), jget L 0 = .ref v0 → jget L 2 = .int v2 → k110 v0 v2 μ = some (r, μ9) → jR B SA d m_DeadCycles_look 110 L [] μ (some (.int (jb r))) μ9) : ∀ (L : JLoc) (v0 : Nat) (v2 : Int32) (μ : JMem) (r : Bool) (μ9 : JMem), jget L 0 = .ref v0 → jget L 2 = .int v2 → g_DeadCycles_look_129 N B k110 v0 v2 μ = some (r, μ9) → jR B SA d m_DeadCycles_look 129 L [] μ (some (.int (jb r))) μ9 := by
  intro L v0 v2 μ r μ9 hl0 hl2 h
  unfold g_DeadCycles_look_129 at h
  refine jr_iinc jf_159_129 jc_i_1 jml_159 (by decide) hl2 ?_
  refine jr_goto jf_159_132 ?_
  exact i110 _ _ _ _ _ _ (jg1_ne rfl hl0) jg1_same h
set_option maxRecDepth 10000 in
set_option maxHeartbeats 4000000 in
theorem r_DeadCycles_look_110 {N B : Nat} {SA : Nat → Nat} {d : Nat} (hd : 5 ≤ d) : ∀ (n : Nat), ∀ (L : JLoc) (v0 : Nat) (v2 : Int32) (μ : JMem) (r : Bool) (μ9 : JMem), jget L 0 = .ref v0 → jget L 2 = .int v2 → g_DeadCycles_look_110 N B n v0 v2 μ = some (r, μ9) → jR B SA d m_DeadCycles_look 110 L [] μ (some (.int (jb r))) μ9 := by
  intro n
  induction n with
  | zero =>
    intro L v0 v2 μ r μ9 hl0 hl2 h
    unfold g_DeadCycles_look_110 at h
    cases h
  | succ n ih =>
    intro L v0 v2 μ r μ9 hl0 hl2 h
    unfold g_DeadCycles_look_110 at h
    refine jr_iload_n jf_159_110 rfl hl2 ?_
    refine jr_ldc jf_159_111 ?_
    replace h := ite_or h; rcases h with ⟨hc, h⟩ | ⟨hc, h⟩
    · refine jr_if2_ge_t jf_159_113 hc ?_
      refine jr_aload_n jf_159_135 rfl hl0 ?_
      replace h := jgd_of h; obtain ⟨hb1, h⟩ := h
      replace h := obd_of h; obtain ⟨μ2, hμ2, h⟩ := h
      refine jr_V6v_0 jf_159_136 hb1 (by omega) (r_DeadCycles_gatherFound (by omega) _ _ _ hμ2) (Nat.le_of_ble_eq_true rfl) jml_170 (Nat.le_of_ble_eq_true rfl) ?_
      refine jr_iconst jf_159_139 jc_i_1 ?_
      obtain ⟨rfl, rfl⟩ := Prod.mk.inj (Option.some.inj h)
      exact jr_retZ (x := true) jf_159_140 jmt_159
    · refine jr_if2_ge_f jf_159_113 hc ?_
      refine jr_aload_n jf_159_116 rfl hl0 ?_
      refine jr_iload_n jf_159_117 rfl hl2 ?_
      replace h := jgd_of h; obtain ⟨hb3, h⟩ := h
      replace h := obd_of h; obtain ⟨x4, hx4, h⟩ := h
      refine jr_V6_1 jf_159_118 hb3 (by omega) (r_DeadCycles_ownerOf (by omega) _ _ _ _ hx4) (Nat.le_of_ble_eq_true rfl) jml_162 (Nat.le_of_ble_eq_true rfl) ?_
      replace h := ite_or h; rcases h with ⟨hc, h⟩ | ⟨hc, h⟩
      · refine jr_if_ne_f jf_159_121 hc ?_
        refine jr_aload_n jf_159_124 rfl hl0 ?_
        refine jr_iload_n jf_159_125 rfl hl2 ?_
        replace h := jgd_of h; obtain ⟨hb5, h⟩ := h
        replace h := obd_of h; obtain ⟨μ6, hμ6, h⟩ := h
        refine jr_V6v_1 jf_159_126 hb5 (by omega) (r_DeadCycles_walk (by omega) _ _ _ _ hμ6) (Nat.le_of_ble_eq_true rfl) jml_163 (Nat.le_of_ble_eq_true rfl) ?_
        exact r_DeadCycles_look_129 hd ih _ _ _ _ _ _ hl0 hl2 h
      · refine jr_if_ne_t jf_159_121 hc ?_
        exact r_DeadCycles_look_129 hd ih _ _ _ _ _ _ hl0 hl2 h
set_option maxRecDepth 10000 in
set_option maxHeartbeats 4000000 in
theorem r_DeadCycles_look_74 {N B : Nat} {SA : Nat → Nat} {d : Nat} (hd : 5 ≤ d) : ∀ (L : JLoc) (v0 : Nat) (v1 : Nat) (μ : JMem) (r : Bool) (μ9 : JMem), jget L 0 = .ref v0 → jget L 1 = .ref v1 → g_DeadCycles_look_74 N B v0 v1 μ = some (r, μ9) → jR B SA d m_DeadCycles_look 74 L [] μ (some (.int (jb r))) μ9 := by
  intro L v0 v1 μ r μ9 hl0 hl1 h
  unfold g_DeadCycles_look_74 at h
  refine jr_aload_n jf_159_74 rfl hl0 ?_
  refine jr_iconst jf_159_75 jc_i_1 ?_
  replace h := obd_of h; obtain ⟨μ1, hμ1, h⟩ := h
  refine jr_putZ (x := true) jf_159_76 rfl hμ1 ?_
  refine jr_aload_n jf_159_79 rfl hl0 ?_
  refine jr_aload_n jf_159_80 rfl hl1 ?_
  refine jr_iconst jf_159_81 jc_i_1 ?_
  replace h := jgd_of h; obtain ⟨hb2, h⟩ := h
  replace h := obd_of h; obtain ⟨x3, hx3, h⟩ := h
  refine jr_V6_1 jf_159_82 hb2 (by omega) (r_Section_factor (by omega) _ _ _ _ hx3) (Nat.le_of_ble_eq_true rfl) jml_43 (Nat.le_of_ble_eq_true rfl) ?_
  replace h := obd_of h; obtain ⟨μ4, hμ4, h⟩ := h
  refine jr_putJ jf_159_85 rfl hμ4 ?_
  refine jr_aload_n jf_159_88 rfl hl0 ?_
  refine jr_aload_n jf_159_89 rfl hl1 ?_
  replace h := obd_of h; obtain ⟨x5, hx5, h⟩ := h
  refine jr_getI jf_159_90 hx5 ?_
  replace h := obd_of h; obtain ⟨μ6, hμ6, h⟩ := h
  refine jr_putI jf_159_93 rfl hμ6 ?_
  refine jr_aload_n jf_159_96 rfl hl0 ?_
  refine jr_aload_n jf_159_97 rfl hl1 ?_
  replace h := obd_of h; obtain ⟨x7, hx7, h⟩ := h
  refine jr_getI jf_159_98 hx7 ?_
  replace h := obd_of h; obtain ⟨μ8, hμ8, h⟩ := h
  refine jr_putI jf_159_101 rfl hμ8 ?_
  refine jr_aload_n jf_159_104 rfl hl0 ?_
  replace h := jgd_of h; obtain ⟨hb9, h⟩ := h
  replace h := obd_of h; obtain ⟨μ10, hμ10, h⟩ := h
  refine jr_V6v_0 jf_159_105 hb9 (by omega) (r_DeadCycles_begin (by omega) _ _ _ hμ10) (Nat.le_of_ble_eq_true rfl) jml_160 (Nat.le_of_ble_eq_true rfl) ?_
  refine jr_iconst jf_159_108 jc_i_0 ?_
  refine jr_istore_n jf_159_109 rfl jml_159 (by decide) ?_
  exact r_DeadCycles_look_110 hd _ _ _ _ _ _ _ (jg1_ne rfl hl0) jg1_same h
set_option maxRecDepth 10000 in
set_option maxHeartbeats 4000000 in
theorem r_DeadCycles_look_e {N B : Nat} {SA : Nat → Nat} {d : Nat} (hd : 5 ≤ d) : ∀ (L : JLoc) (v0 : Nat) (v1 : Option Nat) (μ : JMem) (r : Bool) (μ9 : JMem), jget L 0 = .ref v0 → jget L 1 = rv v1 → g_DeadCycles_look N B v0 v1 μ = some (r, μ9) → jR B SA d m_DeadCycles_look 0 L [] μ (some (.int (jb r))) μ9 := by
  intro L v0 v1 μ r μ9 hl0 hl1 h
  unfold g_DeadCycles_look at h
  refine jr_aload_n_A jf_159_0 rfl hl1 ?_
  replace h := jon_or h; rcases h with ⟨rfl, h⟩ | ⟨a1, rfl, h⟩
  · refine jr_ifnull_n jf_159_1 ?_
    refine jr_iconst jf_159_28 jc_i_0 ?_
    obtain ⟨rfl, rfl⟩ := Prod.mk.inj (Option.some.inj h)
    exact jr_retZ (x := false) jf_159_29 jmt_159
  · refine jr_ifnull_s jf_159_1 ?_
    refine jr_aload_n jf_159_4 rfl hl1 ?_
    replace h := obd_of h; obtain ⟨x2, hx2, h⟩ := h
    refine jr_getI jf_159_5 hx2 ?_
    refine jr_iconst jf_159_8 jc_i_1 ?_
    replace h := ite_or h; rcases h with ⟨hc, h⟩ | ⟨hc, h⟩
    · refine jr_if2_ne_f jf_159_9 hc ?_
      refine jr_aload_n jf_159_12 rfl hl1 ?_
      replace h := obd_of h; obtain ⟨x3, hx3, h⟩ := h
      refine jr_getI jf_159_13 hx3 ?_
      refine jr_iconst jf_159_16 jc_i_2 ?_
      replace h := ite_or h; rcases h with ⟨hc, h⟩ | ⟨hc, h⟩
      · refine jr_if2_ne_f jf_159_17 hc ?_
        refine jr_aload_n jf_159_20 rfl hl1 ?_
        replace h := obd_of h; obtain ⟨x4, hx4, h⟩ := h
        refine jr_getI jf_159_21 hx4 ?_
        refine jr_iconst jf_159_24 jc_i_2 ?_
        replace h := ite_or h; rcases h with ⟨hc, h⟩ | ⟨hc, h⟩
        · refine jr_if2_ne_f jf_159_25 hc ?_
          refine jr_iconst jf_159_28 jc_i_0 ?_
          obtain ⟨rfl, rfl⟩ := Prod.mk.inj (Option.some.inj h)
          exact jr_retZ (x := false) jf_159_29 jmt_159
        · refine jr_if2_ne_t jf_159_25 hc ?_
          refine jr_aload_n jf_159_30 rfl hl0 ?_
          replace h := obd_of h; obtain ⟨x5, hx5, h⟩ := h
          refine jr_getZ jf_159_31 hx5 ?_
          replace h := ite_or h; rcases h with ⟨hc, h⟩ | ⟨hc, h⟩
          · refine jr_ifz_eq_f jf_159_34 hc ?_
            refine jr_aload_n jf_159_37 rfl hl0 ?_
            replace h := obd_of h; obtain ⟨x6, hx6, h⟩ := h
            refine jr_getJ jf_159_38 hx6 ?_
            refine jr_aload_n jf_159_41 rfl hl1 ?_
            refine jr_iconst jf_159_42 jc_i_1 ?_
            replace h := jgd_of h; obtain ⟨hb7, h⟩ := h
            replace h := obd_of h; obtain ⟨x8, hx8, h⟩ := h
            refine jr_V6_1 jf_159_43 hb7 (by omega) (r_Section_factor (by omega) _ _ _ _ hx8) (Nat.le_of_ble_eq_true rfl) jml_43 (Nat.le_of_ble_eq_true rfl) ?_
            refine jr_lcmp jf_159_46 ?_
            replace h := ite_or h; rcases h with ⟨hc, h⟩ | ⟨hc, h⟩
            · refine jr_ifl_ne_f jf_159_47 hc ?_
              refine jr_aload_n jf_159_50 rfl hl0 ?_
              replace h := obd_of h; obtain ⟨x9, hx9, h⟩ := h
              refine jr_getI jf_159_51 hx9 ?_
              refine jr_aload_n jf_159_54 rfl hl1 ?_
              replace h := obd_of h; obtain ⟨x10, hx10, h⟩ := h
              refine jr_getI jf_159_55 hx10 ?_
              replace h := ite_or h; rcases h with ⟨hc, h⟩ | ⟨hc, h⟩
              · refine jr_if2_ne_f jf_159_58 hc ?_
                refine jr_aload_n jf_159_61 rfl hl0 ?_
                replace h := obd_of h; obtain ⟨x11, hx11, h⟩ := h
                refine jr_getI jf_159_62 hx11 ?_
                refine jr_aload_n jf_159_65 rfl hl1 ?_
                replace h := obd_of h; obtain ⟨x12, hx12, h⟩ := h
                refine jr_getI jf_159_66 hx12 ?_
                replace h := ite_or h; rcases h with ⟨hc, h⟩ | ⟨hc, h⟩
                · refine jr_if2_ne_f jf_159_69 hc ?_
                  refine jr_iconst jf_159_72 jc_i_1 ?_
                  obtain ⟨rfl, rfl⟩ := Prod.mk.inj (Option.some.inj h)
                  exact jr_retZ (x := true) jf_159_73 jmt_159
                · refine jr_if2_ne_t jf_159_69 hc ?_
                  exact r_DeadCycles_look_74 hd _ _ _ _ _ _ hl0 hl1 h
              · refine jr_if2_ne_t jf_159_58 hc ?_
                exact r_DeadCycles_look_74 hd _ _ _ _ _ _ hl0 hl1 h
            · refine jr_ifl_ne_t jf_159_47 hc ?_
              exact r_DeadCycles_look_74 hd _ _ _ _ _ _ hl0 hl1 h
          · refine jr_ifz_eq_t jf_159_34 hc ?_
            exact r_DeadCycles_look_74 hd _ _ _ _ _ _ hl0 hl1 h
      · refine jr_if2_ne_t jf_159_17 hc ?_
        refine jr_iconst jf_159_28 jc_i_0 ?_
        obtain ⟨rfl, rfl⟩ := Prod.mk.inj (Option.some.inj h)
        exact jr_retZ (x := false) jf_159_29 jmt_159
    · refine jr_if2_ne_t jf_159_9 hc ?_
      refine jr_iconst jf_159_28 jc_i_0 ?_
      obtain ⟨rfl, rfl⟩ := Prod.mk.inj (Option.some.inj h)
      exact jr_retZ (x := false) jf_159_29 jmt_159
set_option maxRecDepth 10000 in
set_option maxHeartbeats 4000000 in
theorem r_DeadCycles_look {N B : Nat} {SA : Nat → Nat} {d : Nat} (hd : 5 ≤ d) : ∀ (v0 : Nat) (v1 : Option Nat) (μ : JMem) (r : Bool) (μ9 : JMem), g_DeadCycles_look N B v0 v1 μ = some (r, μ9) → jR B SA d m_DeadCycles_look 0 (lv_args 0 [.ref v0, rv v1]) [] μ (some (.int (jb r))) μ9 := by
  intro v0 v1 μ r μ9 h
  exact r_DeadCycles_look_e hd (lv_args 0 _) _ _ _ _ _ (by simp [lv_args, jget, rv_cat, cat_int, cat_long, cat_double, cat_float, cat_ref]) (by simp [lv_args, jget, rv_cat, cat_int, cat_long, cat_double, cat_float, cat_ref]) h
/-! FilterBench.cycles(I)I -/
set_option maxRecDepth 10000 in
set_option maxHeartbeats 4000000 in
theorem r_B_cycles_e {N B : Nat} {SA : Nat → Nat} {d : Nat} (hd : 6 ≤ d) : ∀ (L : JLoc) (v0 : Nat) (v1 : Int32) (μ : JMem) (r : Int32) (μ9 : JMem), jget L 0 = .ref v0 → jget L 1 = .int v1 → g_B_cycles N B v0 v1 μ = some (r, μ9) → jR B SA d m_B_cycles 0 L [] μ (some (.int r)) μ9 := by
  intro L v0 v1 μ r μ9 hl0 hl1 h
  unfold g_B_cycles at h
  refine jr_aload_n jf_158_0 rfl hl0 ?_
  replace h := obd_of h; obtain ⟨x1, hx1, h⟩ := h
  refine jr_getA jf_158_1 hx1 ?_
  refine jr_aload_n jf_158_4 rfl hl0 ?_
  refine jr_iload_n jf_158_5 rfl hl1 ?_
  replace h := jgd_of h; obtain ⟨hb2, h⟩ := h
  replace h := obd_of h; obtain ⟨x3, hx3, h⟩ := h
  refine jr_V6_1 jf_158_6 hb2 (by omega) (r_B_sectionAt (by omega) _ _ _ _ hx3) (by simp only [jcats_cons, jcats_nil, cat_int, cat_long, cat_double, cat_float, cat_ref, rv_cat]; decide) jml_13 (Nat.le_of_ble_eq_true rfl) ?_
  replace h := obd_of h; obtain ⟨a4, rfl, h⟩ := h
  replace h := jgd_of h; obtain ⟨hb5, h⟩ := h
  replace h := jbd2_of h; obtain ⟨x6, μ7, hx6, h⟩ := h
  refine jr_V6_1 jf_158_9 hb5 (by omega) (r_DeadCycles_look (by omega) _ _ _ _ _ hx6) (Nat.le_of_ble_eq_true rfl) jml_159 (by simp only [jcats_cons, jcats_nil, cat_int, cat_long, cat_double, cat_float, cat_ref, rv_cat]; decide) ?_
  replace h := ite_or h; rcases h with ⟨hc, h⟩ | ⟨hc, h⟩
  · refine jr_ifz_eq_f jf_158_12 hc ?_
    refine jr_aload_n jf_158_15 rfl hl0 ?_
    replace h := obd_of h; obtain ⟨x8, hx8, h⟩ := h
    refine jr_getA jf_158_16 hx8 ?_
    replace h := obd_of h; obtain ⟨a9, rfl, h⟩ := h
    replace h := obd_of h; obtain ⟨x10, hx10, h⟩ := h
    refine jr_getI jf_158_19 hx10 ?_
    refine jr_goto jf_158_22 ?_
    obtain ⟨rfl, rfl⟩ := Prod.mk.inj (Option.some.inj h)
    exact jr_retI jf_158_26 jmt_158
  · refine jr_ifz_eq_t jf_158_12 hc ?_
    refine jr_iconst jf_158_25 jc_i_m1 ?_
    obtain ⟨rfl, rfl⟩ := Prod.mk.inj (Option.some.inj h)
    exact jr_retI jf_158_26 jmt_158
set_option maxRecDepth 10000 in
set_option maxHeartbeats 4000000 in
theorem r_B_cycles {N B : Nat} {SA : Nat → Nat} {d : Nat} (hd : 6 ≤ d) : ∀ (v0 : Nat) (v1 : Int32) (μ : JMem) (r : Int32) (μ9 : JMem), g_B_cycles N B v0 v1 μ = some (r, μ9) → jR B SA d m_B_cycles 0 (lv_args 0 [.ref v0, .int v1]) [] μ (some (.int r)) μ9 := by
  intro v0 v1 μ r μ9 h
  exact r_B_cycles_e hd (lv_args 0 _) _ _ _ _ _ (by simp [lv_args, jget, rv_cat, cat_int, cat_long, cat_double, cat_float, cat_ref]) (by simp [lv_args, jget, rv_cat, cat_int, cat_long, cat_double, cat_float, cat_ref]) h
/-! FilterBench$DeadCycles.basinOf(I)I -/
set_option maxRecDepth 10000 in
set_option maxHeartbeats 4000000 in
theorem r_DeadCycles_basinOf_e {B : Nat} {SA : Nat → Nat} {d : Nat} (hd : 1 ≤ d) : ∀ (L : JLoc) (v0 : Nat) (v1 : Int32) (μ : JMem) (r : Int32), jget L 0 = .ref v0 → jget L 1 = .int v1 → g_DeadCycles_basinOf v0 v1 μ.1 = some r → jR B SA d m_DeadCycles_basinOf 0 L [] μ (some (.int r)) μ := by
  intro L v0 v1 μ r hl0 hl1 h
  unfold g_DeadCycles_basinOf at h
  refine jr_aload_n jf_174_0 rfl hl0 ?_
  refine jr_iload_n jf_174_1 rfl hl1 ?_
  replace h := jgd_of h; obtain ⟨hb1, h⟩ := h
  replace h := obd_of h; obtain ⟨x2, hx2, h⟩ := h
  refine jr_V6_1 jf_174_2 hb1 (by omega) (r_DeadCycles_tallyOf (by omega) _ _ _ _ hx2) (Nat.le_of_ble_eq_true rfl) jml_169 (Nat.le_of_ble_eq_true rfl) ?_
  refine jr_bipush jf_174_5 jc_b_32 ?_
  refine jr_lushr jf_174_7 ?_
  refine jr_l2i jf_174_8 ?_
  obtain rfl := Option.some.inj h
  exact jr_retI jf_174_9 jmt_174
set_option maxRecDepth 10000 in
set_option maxHeartbeats 4000000 in
theorem r_DeadCycles_basinOf {B : Nat} {SA : Nat → Nat} {d : Nat} (hd : 1 ≤ d) : ∀ (v0 : Nat) (v1 : Int32) (μ : JMem) (r : Int32), g_DeadCycles_basinOf v0 v1 μ.1 = some r → jR B SA d m_DeadCycles_basinOf 0 (lv_args 0 [.ref v0, .int v1]) [] μ (some (.int r)) μ := by
  intro v0 v1 μ r h
  exact r_DeadCycles_basinOf_e hd (lv_args 0 _) _ _ _ _ (by simp [lv_args, jget, rv_cat, cat_int, cat_long, cat_double, cat_float, cat_ref]) (by simp [lv_args, jget, rv_cat, cat_int, cat_long, cat_double, cat_float, cat_ref]) h
/-! FilterBench$DeadCycles.leastOf(I)I -/
set_option maxRecDepth 10000 in
set_option maxHeartbeats 4000000 in
theorem r_DeadCycles_leastOf_e {B : Nat} {SA : Nat → Nat} {d : Nat} (hd : 1 ≤ d) : ∀ (L : JLoc) (v0 : Nat) (v1 : Int32) (μ : JMem) (r : Int32), jget L 0 = .ref v0 → jget L 1 = .int v1 → g_DeadCycles_leastOf v0 v1 μ.1 = some r → jR B SA d m_DeadCycles_leastOf 0 L [] μ (some (.int r)) μ := by
  intro L v0 v1 μ r hl0 hl1 h
  unfold g_DeadCycles_leastOf at h
  refine jr_aload_n jf_172_0 rfl hl0 ?_
  refine jr_iload_n jf_172_1 rfl hl1 ?_
  replace h := jgd_of h; obtain ⟨hb1, h⟩ := h
  replace h := obd_of h; obtain ⟨x2, hx2, h⟩ := h
  refine jr_V6_1 jf_172_2 hb1 (by omega) (r_DeadCycles_ownerOf (by omega) _ _ _ _ hx2) (Nat.le_of_ble_eq_true rfl) jml_162 (Nat.le_of_ble_eq_true rfl) ?_
  refine jr_sipush jf_172_5 jc_s_m32768 ?_
  refine jr_iadd jf_172_8 ?_
  obtain rfl := Option.some.inj h
  exact jr_retI jf_172_9 jmt_172
set_option maxRecDepth 10000 in
set_option maxHeartbeats 4000000 in
theorem r_DeadCycles_leastOf {B : Nat} {SA : Nat → Nat} {d : Nat} (hd : 1 ≤ d) : ∀ (v0 : Nat) (v1 : Int32) (μ : JMem) (r : Int32), g_DeadCycles_leastOf v0 v1 μ.1 = some r → jR B SA d m_DeadCycles_leastOf 0 (lv_args 0 [.ref v0, .int v1]) [] μ (some (.int r)) μ := by
  intro v0 v1 μ r h
  exact r_DeadCycles_leastOf_e hd (lv_args 0 _) _ _ _ _ (by simp [lv_args, jget, rv_cat, cat_int, cat_long, cat_double, cat_float, cat_ref]) (by simp [lv_args, jget, rv_cat, cat_int, cat_long, cat_double, cat_float, cat_ref]) h
/-! FilterBench$DeadCycles.lengthOf(I)I -/
set_option maxRecDepth 10000 in
set_option maxHeartbeats 4000000 in
theorem r_DeadCycles_lengthOf_e {B : Nat} {SA : Nat → Nat} {d : Nat} (hd : 1 ≤ d) : ∀ (L : JLoc) (v0 : Nat) (v1 : Int32) (μ : JMem) (r : Int32), jget L 0 = .ref v0 → jget L 1 = .int v1 → g_DeadCycles_lengthOf v0 v1 μ.1 = some r → jR B SA d m_DeadCycles_lengthOf 0 L [] μ (some (.int r)) μ := by
  intro L v0 v1 μ r hl0 hl1 h
  unfold g_DeadCycles_lengthOf at h
  refine jr_aload_n jf_173_0 rfl hl0 ?_
  refine jr_iload_n jf_173_1 rfl hl1 ?_
  replace h := jgd_of h; obtain ⟨hb1, h⟩ := h
  replace h := obd_of h; obtain ⟨x2, hx2, h⟩ := h
  refine jr_V6_1 jf_173_2 hb1 (by omega) (r_DeadCycles_tallyOf (by omega) _ _ _ _ hx2) (Nat.le_of_ble_eq_true rfl) jml_169 (Nat.le_of_ble_eq_true rfl) ?_
  refine jr_l2i jf_173_5 ?_
  obtain rfl := Option.some.inj h
  exact jr_retI jf_173_6 jmt_173
set_option maxRecDepth 10000 in
set_option maxHeartbeats 4000000 in
theorem r_DeadCycles_lengthOf {B : Nat} {SA : Nat → Nat} {d : Nat} (hd : 1 ≤ d) : ∀ (v0 : Nat) (v1 : Int32) (μ : JMem) (r : Int32), g_DeadCycles_lengthOf v0 v1 μ.1 = some r → jR B SA d m_DeadCycles_lengthOf 0 (lv_args 0 [.ref v0, .int v1]) [] μ (some (.int r)) μ := by
  intro v0 v1 μ r h
  exact r_DeadCycles_lengthOf_e hd (lv_args 0 _) _ _ _ _ (by simp [lv_args, jget, rv_cat, cat_int, cat_long, cat_double, cat_float, cat_ref]) (by simp [lv_args, jget, rv_cat, cat_int, cat_long, cat_double, cat_float, cat_ref]) h
/-! FilterBench.cycle(III)I -/
set_option maxRecDepth 10000 in
set_option maxHeartbeats 4000000 in
theorem r_B_cycle_e {N B : Nat} {SA : Nat → Nat} {d : Nat} (hd : 6 ≤ d) : ∀ (L : JLoc) (v0 : Nat) (v1 : Int32) (v2 : Int32) (v3 : Int32) (μ : JMem) (r : Int32) (μ9 : JMem), jget L 0 = .ref v0 → jget L 1 = .int v1 → jget L 2 = .int v2 → jget L 3 = .int v3 → g_B_cycle N B v0 v1 v2 v3 μ = some (r, μ9) → jR B SA d m_B_cycle 0 L [] μ (some (.int r)) μ9 := by
  intro L v0 v1 v2 v3 μ r μ9 hl0 hl1 hl2 hl3 h
  unfold g_B_cycle at h
  refine jr_aload_n jf_171_0 rfl hl0 ?_
  replace h := obd_of h; obtain ⟨x1, hx1, h⟩ := h
  refine jr_getA jf_171_1 hx1 ?_
  refine jr_aload_n jf_171_4 rfl hl0 ?_
  refine jr_iload_n jf_171_5 rfl hl1 ?_
  replace h := jgd_of h; obtain ⟨hb2, h⟩ := h
  replace h := obd_of h; obtain ⟨x3, hx3, h⟩ := h
  refine jr_V6_1 jf_171_6 hb2 (by omega) (r_B_sectionAt (by omega) _ _ _ _ hx3) (by simp only [jcats_cons, jcats_nil, cat_int, cat_long, cat_double, cat_float, cat_ref, rv_cat]; decide) jml_13 (Nat.le_of_ble_eq_true rfl) ?_
  replace h := obd_of h; obtain ⟨a4, rfl, h⟩ := h
  replace h := jgd_of h; obtain ⟨hb5, h⟩ := h
  replace h := jbd2_of h; obtain ⟨x6, μ7, hx6, h⟩ := h
  refine jr_V6_1 jf_171_9 hb5 (by omega) (r_DeadCycles_look (by omega) _ _ _ _ _ hx6) (Nat.le_of_ble_eq_true rfl) jml_159 (by simp only [jcats_cons, jcats_nil, cat_int, cat_long, cat_double, cat_float, cat_ref, rv_cat]; decide) ?_
  replace h := ite_or h; rcases h with ⟨hc, h⟩ | ⟨hc, h⟩
  · refine jr_ifz_eq_f jf_171_12 hc ?_
    refine jr_iload_n jf_171_15 rfl hl2 ?_
    replace h := ite_or h; rcases h with ⟨hc, h⟩ | ⟨hc, h⟩
    · refine jr_if_lt_t jf_171_16 hc ?_
      refine jr_iconst jf_171_30 jc_i_0 ?_
      obtain ⟨rfl, rfl⟩ := Prod.mk.inj (Option.some.inj h)
      exact jr_retI jf_171_31 jmt_171
    · refine jr_if_lt_f jf_171_16 hc ?_
      refine jr_iload_n jf_171_19 rfl hl2 ?_
      refine jr_aload_n jf_171_20 rfl hl0 ?_
      replace h := obd_of h; obtain ⟨x8, hx8, h⟩ := h
      refine jr_getA jf_171_21 hx8 ?_
      replace h := obd_of h; obtain ⟨a9, rfl, h⟩ := h
      replace h := obd_of h; obtain ⟨x10, hx10, h⟩ := h
      refine jr_getI jf_171_24 hx10 ?_
      replace h := ite_or h; rcases h with ⟨hc, h⟩ | ⟨hc, h⟩
      · refine jr_if2_lt_t jf_171_27 hc ?_
        refine jr_iload_n jf_171_32 rfl hl3 ?_
        refine jr_switch jf_171_33 ?_
        replace h := ite_or h; rcases h with ⟨hc, h⟩ | ⟨hc, h⟩
        · refine jsw_hit (by decide) hc ?_
          refine jr_aload_n jf_171_60 rfl hl0 ?_
          replace h := obd_of h; obtain ⟨x11, hx11, h⟩ := h
          refine jr_getA jf_171_61 hx11 ?_
          refine jr_iload_n jf_171_64 rfl hl2 ?_
          replace h := obd_of h; obtain ⟨a12, rfl, h⟩ := h
          replace h := jgd_of h; obtain ⟨hb13, h⟩ := h
          replace h := obd_of h; obtain ⟨x14, hx14, h⟩ := h
          refine jr_V6_1 jf_171_65 hb13 (by omega) (r_DeadCycles_leastOf (by omega) _ _ _ _ hx14) (Nat.le_of_ble_eq_true rfl) jml_172 (Nat.le_of_ble_eq_true rfl) ?_
          obtain ⟨rfl, rfl⟩ := Prod.mk.inj (Option.some.inj h)
          exact jr_retI jf_171_68 jmt_171
        · refine jsw_miss (by decide) hc (by decide : (0 : Int) + 1 = 1) ?_
          replace h := ite_or h; rcases h with ⟨hc, h⟩ | ⟨hc, h⟩
          · refine jsw_hit (by decide) hc ?_
            refine jr_aload_n jf_171_69 rfl hl0 ?_
            replace h := obd_of h; obtain ⟨x15, hx15, h⟩ := h
            refine jr_getA jf_171_70 hx15 ?_
            refine jr_iload_n jf_171_73 rfl hl2 ?_
            replace h := obd_of h; obtain ⟨a16, rfl, h⟩ := h
            replace h := jgd_of h; obtain ⟨hb17, h⟩ := h
            replace h := obd_of h; obtain ⟨x18, hx18, h⟩ := h
            refine jr_V6_1 jf_171_74 hb17 (by omega) (r_DeadCycles_lengthOf (by omega) _ _ _ _ hx18) (Nat.le_of_ble_eq_true rfl) jml_173 (Nat.le_of_ble_eq_true rfl) ?_
            obtain ⟨rfl, rfl⟩ := Prod.mk.inj (Option.some.inj h)
            exact jr_retI jf_171_77 jmt_171
          · refine jsw_miss (by decide) hc (by decide : (1 : Int) + 1 = 2) ?_
            replace h := ite_or h; rcases h with ⟨hc, h⟩ | ⟨hc, h⟩
            · refine jsw_hit (by decide) hc ?_
              refine jr_aload_n jf_171_78 rfl hl0 ?_
              replace h := obd_of h; obtain ⟨x19, hx19, h⟩ := h
              refine jr_getA jf_171_79 hx19 ?_
              refine jr_iload_n jf_171_82 rfl hl2 ?_
              replace h := obd_of h; obtain ⟨a20, rfl, h⟩ := h
              replace h := jgd_of h; obtain ⟨hb21, h⟩ := h
              replace h := obd_of h; obtain ⟨x22, hx22, h⟩ := h
              refine jr_V6_1 jf_171_83 hb21 (by omega) (r_DeadCycles_basinOf (by omega) _ _ _ _ hx22) (Nat.le_of_ble_eq_true rfl) jml_174 (Nat.le_of_ble_eq_true rfl) ?_
              obtain ⟨rfl, rfl⟩ := Prod.mk.inj (Option.some.inj h)
              exact jr_retI jf_171_86 jmt_171
            · refine jsw_miss (by decide) hc (by decide : (2 : Int) + 1 = 3) ?_
              refine jsw_end ?_
              refine jr_iconst jf_171_87 jc_i_0 ?_
              obtain ⟨rfl, rfl⟩ := Prod.mk.inj (Option.some.inj h)
              exact jr_retI jf_171_88 jmt_171
      · refine jr_if2_lt_f jf_171_27 hc ?_
        refine jr_iconst jf_171_30 jc_i_0 ?_
        obtain ⟨rfl, rfl⟩ := Prod.mk.inj (Option.some.inj h)
        exact jr_retI jf_171_31 jmt_171
  · refine jr_ifz_eq_t jf_171_12 hc ?_
    refine jr_iconst jf_171_30 jc_i_0 ?_
    obtain ⟨rfl, rfl⟩ := Prod.mk.inj (Option.some.inj h)
    exact jr_retI jf_171_31 jmt_171
set_option maxRecDepth 10000 in
set_option maxHeartbeats 4000000 in
theorem r_B_cycle {N B : Nat} {SA : Nat → Nat} {d : Nat} (hd : 6 ≤ d) : ∀ (v0 : Nat) (v1 : Int32) (v2 : Int32) (v3 : Int32) (μ : JMem) (r : Int32) (μ9 : JMem), g_B_cycle N B v0 v1 v2 v3 μ = some (r, μ9) → jR B SA d m_B_cycle 0 (lv_args 0 [.ref v0, .int v1, .int v2, .int v3]) [] μ (some (.int r)) μ9 := by
  intro v0 v1 v2 v3 μ r μ9 h
  exact r_B_cycle_e hd (lv_args 0 _) _ _ _ _ _ _ _ (by simp [lv_args, jget, rv_cat, cat_int, cat_long, cat_double, cat_float, cat_ref]) (by simp [lv_args, jget, rv_cat, cat_int, cat_long, cat_double, cat_float, cat_ref]) (by simp [lv_args, jget, rv_cat, cat_int, cat_long, cat_double, cat_float, cat_ref]) (by simp [lv_args, jget, rv_cat, cat_int, cat_long, cat_double, cat_float, cat_ref]) h
/-! FilterBench$Real.nearest(JZLFilterBench$Real;)J -/
set_option maxRecDepth 10000 in
set_option maxHeartbeats 4000000 in
theorem r_Real_nearest_e {B : Nat} {SA : Nat → Nat} {d : Nat} (hd : 3 ≤ d) : ∀ (L : JLoc) (v0 : Nat) (v1 : Int64) (v4 : Option Nat) (μ : JMem) (r : Int64), jget L 0 = .ref v0 → jget L 1 = .long v1 → jget L 4 = rv v4 → g_Real_nearest_e v0 v1 v4 μ.1 = some r → jR B SA d m_Real_nearest 0 L [] μ (some (.long r)) μ := by
  intro L v0 v1 v4 μ r hl0 hl1 hl4 h
  unfold g_Real_nearest_e at h
  refine jr_aload_n jf_180_0 rfl hl0 ?_
  refine jr_aload_A jf_180_1 hl4 ?_
  refine jr_lload_n jf_180_3 rfl hl1 ?_
  replace h := jgd_of h; obtain ⟨hb1, h⟩ := h
  replace h := obd_of h; obtain ⟨x2, hx2, h⟩ := h
  refine jr_V6_2 jf_180_4 hb1 (by omega) (r_Real_taken (by omega) _ _ _ _ _ hx2) (Nat.le_of_ble_eq_true rfl) jml_30 (by simp only [jcats_cons, jcats_nil, cat_int, cat_long, cat_double, cat_float, cat_ref, rv_cat]; decide) ?_
  obtain rfl := Option.some.inj h
  exact jr_retJ jf_180_7 jmt_180
set_option maxRecDepth 10000 in
set_option maxHeartbeats 4000000 in
theorem r_Real_nearest {B : Nat} {SA : Nat → Nat} {d : Nat} (hd : 3 ≤ d) : ∀ (v0 : Nat) (v1 : Int64) (v3 : Bool) (v4 : Option Nat) (μ : JMem) (r : Int64), g_Real_nearest v0 v1 v3 v4 μ.1 = some r → jR B SA d m_Real_nearest 0 (lv_args 0 [.ref v0, .long v1, .int (jb v3), rv v4]) [] μ (some (.long r)) μ := by
  intro v0 v1 v3 v4 μ r h
  exact r_Real_nearest_e hd (lv_args 0 _) _ _ _ _ _ (by simp [lv_args, jget, rv_cat, cat_int, cat_long, cat_double, cat_float, cat_ref]) (by simp [lv_args, jget, rv_cat, cat_int, cat_long, cat_double, cat_float, cat_ref]) (by simp [lv_args, jget, rv_cat, cat_int, cat_long, cat_double, cat_float, cat_ref]) h
/-! FilterBench$Shorts.nearest(JZLFilterBench$Real;)J -/
set_option maxRecDepth 10000 in
set_option maxHeartbeats 4000000 in
theorem r_Shorts_nearest_25 {B : Nat} {SA : Nat → Nat} {d : Nat} (hd : 1 ≤ d) : ∀ (L : JLoc) (v1 : Int64) (v4 : Nat) (v5 : Int64) (s0 : Int32) (s1 : Int32) (μ : JMem) (r : Int64), jget L 1 = .long v1 → jget L 4 = .ref v4 → jget L 5 = .long v5 → g_Shorts_nearest_25 v1 v4 v5 s0 s1 μ.1 = some r → jR B SA d m_Shorts_nearest 25 L [.int s0, .int s1] μ (some (.long r)) μ := by
  intro L v1 v4 v5 s0 s1 μ r hl1 hl4 hl5 h
  unfold g_Shorts_nearest_25 at h
  refine jr_iadd jf_181_25 ?_
  refine jr_istore jf_181_26 jml_181 (by decide) ?_
  refine jr_aload jf_181_28 (jg1_ne rfl hl4) ?_
  refine jr_lload_n jf_181_30 rfl (jg1_ne rfl hl1) ?_
  replace h := jgd_of h; obtain ⟨hb1, h⟩ := h
  replace h := obd_of h; obtain ⟨x2, hx2, h⟩ := h
  refine jr_V6_1 jf_181_31 hb1 (by omega) (r_Real_isFinite (by omega) _ _ _ _ hx2) (Nat.le_of_ble_eq_true rfl) jml_154 (Nat.le_of_ble_eq_true rfl) ?_
  replace h := ite_or h; rcases h with ⟨hc, h⟩ | ⟨hc, h⟩
  · refine jr_ifz_eq_f jf_181_34 hc ?_
    refine jr_iload jf_181_37 jg1_same ?_
    replace h := ite_or h; rcases h with ⟨hc, h⟩ | ⟨hc, h⟩
    · refine jr_if_lt_t jf_181_39 hc ?_
      refine jr_aload jf_181_46 (jg1_ne rfl hl4) ?_
      refine jr_lload jf_181_48 (jg1_ne rfl hl5) ?_
      replace h := jgd_of h; obtain ⟨hb3, h⟩ := h
      replace h := obd_of h; obtain ⟨x4, hx4, h⟩ := h
      refine jr_V7_1 jf_181_50 hb3 (by omega) (r_Real_mantissa (by omega) _ _ _ _ hx4) (Nat.le_of_ble_eq_true rfl) jml_33 (Nat.le_of_ble_eq_true rfl) ?_
      refine jr_iload jf_181_53 jg1_same ?_
      refine jr_ineg jf_181_55 ?_
      refine jr_S5_2 jf_181_56 (by omega) (r_Numbers_halfEven (by omega) _ _ _ _ rfl) (Nat.le_of_ble_eq_true rfl) jml_29 (Nat.le_of_ble_eq_true rfl) ?_
      refine jr_lstore jf_181_59 jml_181 (by decide) ?_
      replace h := jlet_of h
      refine jr_lload_n jf_181_61 rfl (jg2_ne rfl (jg1_ne rfl hl1)) ?_
      refine jr_lconst0 jf_181_62 ?_
      refine jr_lcmp jf_181_63 ?_
      replace h := ite_or h; rcases h with ⟨hc, h⟩ | ⟨hc, h⟩
      · refine jr_ifl_ge_t jf_181_64 hc ?_
        refine jr_lload jf_181_73 jg2_same ?_
        obtain rfl := Option.some.inj h
        exact jr_retJ jf_181_75 jmt_181
      · refine jr_ifl_ge_f jf_181_64 hc ?_
        refine jr_lload jf_181_67 jg2_same ?_
        refine jr_lneg jf_181_69 ?_
        refine jr_goto jf_181_70 ?_
        obtain rfl := Option.some.inj h
        exact jr_retJ jf_181_75 jmt_181
    · refine jr_if_lt_f jf_181_39 hc ?_
      refine jr_ldc2l jf_181_42 ?_
      obtain rfl := Option.some.inj h
      exact jr_retJ jf_181_45 jmt_181
  · refine jr_ifz_eq_t jf_181_34 hc ?_
    refine jr_ldc2l jf_181_42 ?_
    obtain rfl := Option.some.inj h
    exact jr_retJ jf_181_45 jmt_181
set_option maxRecDepth 10000 in
set_option maxHeartbeats 4000000 in
theorem r_Shorts_nearest_e {B : Nat} {SA : Nat → Nat} {d : Nat} (hd : 1 ≤ d) : ∀ (L : JLoc) (v1 : Int64) (v3 : Bool) (v4 : Option Nat) (μ : JMem) (r : Int64), jget L 1 = .long v1 → jget L 3 = .int (jb v3) → jget L 4 = rv v4 → g_Shorts_nearest_e v1 v3 v4 μ.1 = some r → jR B SA d m_Shorts_nearest 0 L [] μ (some (.long r)) μ := by
  intro L v1 v3 v4 μ r hl1 hl3 hl4 h
  unfold g_Shorts_nearest_e at h
  refine jr_aload_A jf_181_0 hl4 ?_
  refine jr_lload_n jf_181_2 rfl hl1 ?_
  replace h := obd_of h; obtain ⟨a1, rfl, h⟩ := h
  replace h := jgd_of h; obtain ⟨hb2, h⟩ := h
  replace h := obd_of h; obtain ⟨x3, hx3, h⟩ := h
  refine jr_V6_1 jf_181_3 hb2 (by omega) (r_Real_sizeOf (by omega) _ _ _ _ hx3) (Nat.le_of_ble_eq_true rfl) jml_31 (Nat.le_of_ble_eq_true rfl) ?_
  refine jr_lstore jf_181_6 jml_181 (by decide) ?_
  refine jr_aload jf_181_8 (jg2_pre (by first | rfl | exact rv_cat _) hl4) ?_
  refine jr_lload jf_181_10 jg2_same ?_
  replace h := jgd_of h; obtain ⟨hb4, h⟩ := h
  replace h := obd_of h; obtain ⟨x5, hx5, h⟩ := h
  refine jr_V7_1 jf_181_12 hb4 (by omega) (r_Real_exponent (by omega) _ _ _ _ hx5) (Nat.le_of_ble_eq_true rfl) jml_32 (Nat.le_of_ble_eq_true rfl) ?_
  refine jr_iload_n jf_181_15 rfl (jg2_ne rfl hl3) ?_
  replace h := ite_or h; rcases h with ⟨hc, h⟩ | ⟨hc, h⟩
  · refine jr_ifz_eq_f jf_181_16 hc ?_
    refine jr_iconst jf_181_19 jc_i_0 ?_
    refine jr_goto jf_181_20 ?_
    exact r_Shorts_nearest_25 hd _ _ _ _ _ _ _ _ (jg2_ne rfl hl1) (jg2_pre (by first | rfl | exact rv_cat _) hl4) jg2_same h
  · refine jr_ifz_eq_t jf_181_16 hc ?_
    refine jr_bipush jf_181_23 jc_b_14 ?_
    exact r_Shorts_nearest_25 hd _ _ _ _ _ _ _ _ (jg2_ne rfl hl1) (jg2_pre (by first | rfl | exact rv_cat _) hl4) jg2_same h
set_option maxRecDepth 10000 in
set_option maxHeartbeats 4000000 in
theorem r_Shorts_nearest {B : Nat} {SA : Nat → Nat} {d : Nat} (hd : 1 ≤ d) : ∀ (v0 : Nat) (v1 : Int64) (v3 : Bool) (v4 : Option Nat) (μ : JMem) (r : Int64), g_Shorts_nearest v0 v1 v3 v4 μ.1 = some r → jR B SA d m_Shorts_nearest 0 (lv_args 0 [.ref v0, .long v1, .int (jb v3), rv v4]) [] μ (some (.long r)) μ := by
  intro v0 v1 v3 v4 μ r h
  exact r_Shorts_nearest_e hd (lv_args 0 _) _ _ _ _ _ (by simp [lv_args, jget, rv_cat, cat_int, cat_long, cat_double, cat_float, cat_ref]) (by simp [lv_args, jget, rv_cat, cat_int, cat_long, cat_double, cat_float, cat_ref]) (by simp [lv_args, jget, rv_cat, cat_int, cat_long, cat_double, cat_float, cat_ref]) h
/-! FilterBench.translated(LFilterBench$Numbers;JZLFilterBench$Numbers;)J -/
set_option maxRecDepth 10000 in
set_option maxHeartbeats 4000000 in
theorem r_B_translated_e {B : Nat} {SA : Nat → Nat} {d : Nat} (hd : 4 ≤ d) : ∀ (L : JLoc) (v0 : Nat) (v1 : Option Nat) (v2 : Int64) (v4 : Bool) (v5 : Option Nat) (μ : JMem) (r : Int64), jget L 0 = .ref v0 → jget L 1 = rv v1 → jget L 2 = .long v2 → jget L 4 = .int (jb v4) → jget L 5 = rv v5 → g_B_translated v0 v1 v2 v4 v5 μ.1 = some r → jR B SA d m_B_translated 0 L [] μ (some (.long r)) μ := by
  intro L v0 v1 v2 v4 v5 μ r hl0 hl1 hl2 hl4 hl5 h
  unfold g_B_translated at h
  refine jr_aload_A jf_179_0 hl5 ?_
  refine jr_aload_n_A jf_179_2 rfl hl1 ?_
  refine jr_lload_n jf_179_3 rfl hl2 ?_
  refine jr_iload jf_179_4 hl4 ?_
  refine jr_aload_n jf_179_6 rfl hl0 ?_
  replace h := obd_of h; obtain ⟨x1, hx1, h⟩ := h
  refine jr_getA jf_179_7 hx1 ?_
  replace h := obd_of h; obtain ⟨a2, rfl, h⟩ := h
  replace h := obd_of h; obtain ⟨x3, hx3, h⟩ := h
  rcases ite_or hx3 with ⟨hb, hx⟩ | ⟨hb0, hx⟩
  · refine jr_V8a_3 jf_179_10 hb (by omega) (r_Real_meaning (by omega) _ _ _ _ _ _ hx) (by simp only [jcats_cons, jcats_nil, cat_int, cat_long, cat_double, cat_float, cat_ref, rv_cat]; decide) jml_151 (by simp only [jcats_cons, jcats_nil, cat_int, cat_long, cat_double, cat_float, cat_ref, rv_cat]; decide) ?_
    refine jr_iload jf_179_13 hl4 ?_
    refine jr_aload_n jf_179_15 rfl hl0 ?_
    replace h := obd_of h; obtain ⟨x4, hx4, h⟩ := h
    refine jr_getA jf_179_16 hx4 ?_
    replace h := obd_of h; obtain ⟨a5, rfl, h⟩ := h
    replace h := obd_of h; obtain ⟨x6, hx6, h⟩ := h
    rcases ite_or hx6 with ⟨hb, hx⟩ | ⟨hb0, hx⟩
    · refine jr_V8a_3 jf_179_19 hb (by omega) (r_Real_nearest (by omega) _ _ _ _ _ _ hx) (Nat.le_of_ble_eq_true rfl) jml_180 (by simp only [jcats_cons, jcats_nil, cat_int, cat_long, cat_double, cat_float, cat_ref, rv_cat]; decide) ?_
      obtain rfl := Option.some.inj h
      exact jr_retJ jf_179_22 jmt_179
    · obtain ⟨hb, hx⟩ := jgd_of hx
      refine jr_V8b_3 jf_179_19 hb0 hb (by omega) (r_Shorts_nearest (by omega) _ _ _ _ _ _ hx) (Nat.le_of_ble_eq_true rfl) jml_181 (by simp only [jcats_cons, jcats_nil, cat_int, cat_long, cat_double, cat_float, cat_ref, rv_cat]; decide) ?_
      obtain rfl := Option.some.inj h
      exact jr_retJ jf_179_22 jmt_179
  · obtain ⟨hb, hx⟩ := jgd_of hx
    refine jr_V8b_3 jf_179_10 hb0 hb (by omega) (r_Shorts_meaning (by omega) _ _ _ _ _ _ hx) (by simp only [jcats_cons, jcats_nil, cat_int, cat_long, cat_double, cat_float, cat_ref, rv_cat]; decide) jml_152 (by simp only [jcats_cons, jcats_nil, cat_int, cat_long, cat_double, cat_float, cat_ref, rv_cat]; decide) ?_
    refine jr_iload jf_179_13 hl4 ?_
    refine jr_aload_n jf_179_15 rfl hl0 ?_
    replace h := obd_of h; obtain ⟨x4, hx4, h⟩ := h
    refine jr_getA jf_179_16 hx4 ?_
    replace h := obd_of h; obtain ⟨a5, rfl, h⟩ := h
    replace h := obd_of h; obtain ⟨x6, hx6, h⟩ := h
    rcases ite_or hx6 with ⟨hb, hx⟩ | ⟨hb0, hx⟩
    · refine jr_V8a_3 jf_179_19 hb (by omega) (r_Real_nearest (by omega) _ _ _ _ _ _ hx) (Nat.le_of_ble_eq_true rfl) jml_180 (by simp only [jcats_cons, jcats_nil, cat_int, cat_long, cat_double, cat_float, cat_ref, rv_cat]; decide) ?_
      obtain rfl := Option.some.inj h
      exact jr_retJ jf_179_22 jmt_179
    · obtain ⟨hb, hx⟩ := jgd_of hx
      refine jr_V8b_3 jf_179_19 hb0 hb (by omega) (r_Shorts_nearest (by omega) _ _ _ _ _ _ hx) (Nat.le_of_ble_eq_true rfl) jml_181 (by simp only [jcats_cons, jcats_nil, cat_int, cat_long, cat_double, cat_float, cat_ref, rv_cat]; decide) ?_
      obtain rfl := Option.some.inj h
      exact jr_retJ jf_179_22 jmt_179
set_option maxRecDepth 10000 in
set_option maxHeartbeats 4000000 in
theorem r_B_translated {B : Nat} {SA : Nat → Nat} {d : Nat} (hd : 4 ≤ d) : ∀ (v0 : Nat) (v1 : Option Nat) (v2 : Int64) (v4 : Bool) (v5 : Option Nat) (μ : JMem) (r : Int64), g_B_translated v0 v1 v2 v4 v5 μ.1 = some r → jR B SA d m_B_translated 0 (lv_args 0 [.ref v0, rv v1, .long v2, .int (jb v4), rv v5]) [] μ (some (.long r)) μ := by
  intro v0 v1 v2 v4 v5 μ r h
  exact r_B_translated_e hd (lv_args 0 _) _ _ _ _ _ _ _ (by simp [lv_args, jget, rv_cat, cat_int, cat_long, cat_double, cat_float, cat_ref]) (by simp [lv_args, jget, rv_cat, cat_int, cat_long, cat_double, cat_float, cat_ref]) (by simp [lv_args, jget, rv_cat, cat_int, cat_long, cat_double, cat_float, cat_ref]) (by simp [lv_args, jget, rv_cat, cat_int, cat_long, cat_double, cat_float, cat_ref]) (by simp [lv_args, jget, rv_cat, cat_int, cat_long, cat_double, cat_float, cat_ref]) h
/-! FilterBench$Section.factorCount()I -/
set_option maxRecDepth 10000 in
set_option maxHeartbeats 4000000 in
theorem r_Section_factorCount_e {B : Nat} {SA : Nat → Nat} {d : Nat} (hd : 0 ≤ d) : ∀ (L : JLoc) (v0 : Nat) (μ : JMem) (r : Int32), jget L 0 = .ref v0 → g_Section_factorCount v0 μ.1 = some r → jR B SA d m_Section_factorCount 0 L [] μ (some (.int r)) μ := by
  intro L v0 μ r hl0 h
  unfold g_Section_factorCount at h
  refine jr_aload_n jf_178_0 rfl hl0 ?_
  replace h := obd_of h; obtain ⟨x1, hx1, h⟩ := h
  refine jr_getA jf_178_1 hx1 ?_
  replace h := obd_of h; obtain ⟨a2, rfl, h⟩ := h
  replace h := obd_of h; obtain ⟨x3, hx3, h⟩ := h
  refine jr_arraylength jf_178_4 hx3 ?_
  obtain rfl := Option.some.inj h
  exact jr_retI jf_178_5 jmt_178
set_option maxRecDepth 10000 in
set_option maxHeartbeats 4000000 in
theorem r_Section_factorCount {B : Nat} {SA : Nat → Nat} {d : Nat} (hd : 0 ≤ d) : ∀ (v0 : Nat) (μ : JMem) (r : Int32), g_Section_factorCount v0 μ.1 = some r → jR B SA d m_Section_factorCount 0 (lv_args 0 [.ref v0]) [] μ (some (.int r)) μ := by
  intro v0 μ r h
  exact r_Section_factorCount_e hd (lv_args 0 _) _ _ _ (by simp [lv_args, jget, rv_cat, cat_int, cat_long, cat_double, cat_float, cat_ref]) h
/-! FilterBench.canTranslate(LFilterBench$Chain;LFilterBench$Numbers;)Z -/
set_option maxRecDepth 10000 in
set_option maxHeartbeats 4000000 in
theorem r_B_canTranslate_72 {N B : Nat} {SA : Nat → Nat} {d : Nat} (hd : 5 ≤ d) {k2 : Nat → Option Nat → Option Nat → Int32 → (Nat → Option JCell) → Option Bool} (i2 : ∀ (L : JLoc) (v0 : Nat) (v1 : Option Nat) (v2 : Option Nat) (v3 : Int32) (μ : JMem) (r : Bool), jget L 0 = .ref v0 → jget L 1 = rv v1 → jget L 2 = rv v2 → jget L 3 = .int v3 → k2 v0 v1 v2 v3 μ.1 = some r → jR B SA d m_B_canTranslate 2 L [] μ (some (.int (jb r))) μ) : ∀ (L : JLoc) (v0 : Nat) (v1 : Nat) (v2 : Option Nat) (v3 : Int32) (μ : JMem) (r : Bool), jget L 0 = .ref v0 → jget L 1 = .ref v1 → jget L 2 = rv v2 → jget L 3 = .int v3 → g_B_canTranslate_72 N k2 v0 v1 v2 v3 μ.1 = some r → jR B SA d m_B_canTranslate 72 L [] μ (some (.int (jb r))) μ := by
  intro L v0 v1 v2 v3 μ r hl0 hl1 hl2 hl3 h
  unfold g_B_canTranslate_72 at h
  refine jr_iinc jf_177_72 jc_i_1 jml_177 (by decide) hl3 ?_
  refine jr_goto jf_177_75 ?_
  exact i2 _ _ (some _) _ _ _ _ (jg1_ne rfl hl0) (jg1_ne rfl hl1) (jg1_pre (by first | rfl | exact rv_cat _) hl2) jg1_same h
set_option maxRecDepth 10000 in
set_option maxHeartbeats 4000000 in
theorem r_B_canTranslate_20 {N B : Nat} {SA : Nat → Nat} {d : Nat} (hd : 5 ≤ d) {k2 : Nat → Option Nat → Option Nat → Int32 → (Nat → Option JCell) → Option Bool} (i2 : ∀ (L : JLoc) (v0 : Nat) (v1 : Option Nat) (v2 : Option Nat) (v3 : Int32) (μ : JMem) (r : Bool), jget L 0 = .ref v0 → jget L 1 = rv v1 → jget L 2 = rv v2 → jget L 3 = .int v3 → k2 v0 v1 v2 v3 μ.1 = some r → jR B SA d m_B_canTranslate 2 L [] μ (some (.int (jb r))) μ) : ∀ (n : Nat), ∀ (L : JLoc) (v0 : Nat) (v1 : Nat) (v2 : Option Nat) (v3 : Int32) (v4 : Option Nat) (v5 : Int32) (μ : JMem) (r : Bool), jget L 0 = .ref v0 → jget L 1 = .ref v1 → jget L 2 = rv v2 → jget L 3 = .int v3 → jget L 4 = rv v4 → jget L 5 = .int v5 → g_B_canTranslate_20 N k2 n v0 v1 v2 v3 v4 v5 μ.1 = some r → jR B SA d m_B_canTranslate 20 L [] μ (some (.int (jb r))) μ := by
  intro n
  induction n with
  | zero =>
    intro L v0 v1 v2 v3 v4 v5 μ r hl0 hl1 hl2 hl3 hl4 hl5 h
    unfold g_B_canTranslate_20 at h
    cases h
  | succ n ih =>
    intro L v0 v1 v2 v3 v4 v5 μ r hl0 hl1 hl2 hl3 hl4 hl5 h
    unfold g_B_canTranslate_20 at h
    refine jr_aload_A jf_177_20 hl4 ?_
    replace h := jon_or h; rcases h with ⟨rfl, h⟩ | ⟨a1, rfl, h⟩
    · refine jr_ifnull_n jf_177_22 ?_
      exact r_B_canTranslate_72 hd i2 _ _ _ _ _ _ _ hl0 hl1 hl2 hl3 h
    · refine jr_ifnull_s jf_177_22 ?_
      refine jr_iload jf_177_25 hl5 ?_
      refine jr_aload jf_177_27 hl4 ?_
      replace h := jgd_of h; obtain ⟨hb2, h⟩ := h
      replace h := obd_of h; obtain ⟨x3, hx3, h⟩ := h
      refine jr_V6_0 jf_177_29 hb2 (by omega) (r_Section_factorCount (by omega) _ _ _ hx3) (Nat.le_of_ble_eq_true rfl) jml_178 (Nat.le_of_ble_eq_true rfl) ?_
      replace h := ite_or h; rcases h with ⟨hc, h⟩ | ⟨hc, h⟩
      · refine jr_if2_ge_t jf_177_32 hc ?_
        exact r_B_canTranslate_72 hd i2 _ _ _ _ _ _ _ hl0 hl1 hl2 hl3 h
      · refine jr_if2_ge_f jf_177_32 hc ?_
        refine jr_aload_n_A jf_177_35 rfl hl2 ?_
        refine jr_aload_n jf_177_36 rfl hl0 ?_
        refine jr_aload jf_177_37 hl4 ?_
        replace h := obd_of h; obtain ⟨x4, hx4, h⟩ := h
        refine jr_getA jf_177_39 hx4 ?_
        refine jr_aload jf_177_42 hl4 ?_
        refine jr_iload jf_177_44 hl5 ?_
        replace h := jgd_of h; obtain ⟨hb5, h⟩ := h
        replace h := obd_of h; obtain ⟨x6, hx6, h⟩ := h
        refine jr_V6_1 jf_177_46 hb5 (by omega) (r_Section_factor (by omega) _ _ _ _ hx6) (by simp only [jcats_cons, jcats_nil, cat_int, cat_long, cat_double, cat_float, cat_ref, rv_cat]; decide) jml_43 (Nat.le_of_ble_eq_true rfl) ?_
        refine jr_aload jf_177_49 hl4 ?_
        replace h := jgd_of h; obtain ⟨hb7, h⟩ := h
        replace h := obd_of h; obtain ⟨x8, hx8, h⟩ := h
        refine jr_V6_0 jf_177_51 hb7 (by omega) (r_Section_takesWhole (by omega) _ _ _ hx8) (by simp only [jcats_cons, jcats_nil, cat_int, cat_long, cat_double, cat_float, cat_ref, rv_cat]; decide) jml_22 (Nat.le_of_ble_eq_true rfl) ?_
        refine jr_aload_n_A jf_177_54 rfl hl2 ?_
        replace h := jgd_of h; obtain ⟨hb9, h⟩ := h
        replace h := obd_of h; obtain ⟨x10, hx10, h⟩ := h
        refine jr_V6_4 jf_177_55 hb9 (by omega) (r_B_translated (by omega) _ _ _ _ _ _ _ hx10) (by simp only [jcats_cons, jcats_nil, cat_int, cat_long, cat_double, cat_float, cat_ref, rv_cat]; decide) jml_179 (by simp only [jcats_cons, jcats_nil, cat_int, cat_long, cat_double, cat_float, cat_ref, rv_cat]; decide) ?_
        replace h := obd_of h; obtain ⟨a11, rfl, h⟩ := h
        replace h := obd_of h; obtain ⟨x12, hx12, h⟩ := h
        rcases ite_or hx12 with ⟨hb, hx⟩ | ⟨hb0, hx⟩
        · refine jr_V8a_1 jf_177_58 hb (by omega) (r_Real_holds (by omega) _ _ _ _ hx) (Nat.le_of_ble_eq_true rfl) jml_15 (Nat.le_of_ble_eq_true rfl) ?_
          replace h := ite_or h; rcases h with ⟨hc, h⟩ | ⟨hc, h⟩
          · refine jr_ifz_ne_t jf_177_61 hc ?_
            refine jr_iinc jf_177_66 jc_i_1 jml_177 (by decide) hl5 ?_
            refine jr_goto jf_177_69 ?_
            exact ih _ _ _ (some _) _ (some _) _ _ _ (jg1_ne rfl hl0) (jg1_ne rfl hl1) (jg1_ne rfl hl2) (jg1_ne rfl hl3) (jg1_pre (by first | rfl | exact rv_cat _) hl4) jg1_same h
          · refine jr_ifz_ne_f jf_177_61 hc ?_
            refine jr_iconst jf_177_64 jc_i_0 ?_
            obtain rfl := Option.some.inj h
            exact jr_retZ (x := false) jf_177_65 jmt_177
        · obtain ⟨hb, hx⟩ := jgd_of hx
          obtain hx := Option.some.inj hx
          refine jr_V8b_1 jf_177_58 hb0 hb (by omega) (r_Shorts_holds (by omega) _ _ _ _ hx) (Nat.le_of_ble_eq_true rfl) jml_16 (Nat.le_of_ble_eq_true rfl) ?_
          replace h := ite_or h; rcases h with ⟨hc, h⟩ | ⟨hc, h⟩
          · refine jr_ifz_ne_t jf_177_61 hc ?_
            refine jr_iinc jf_177_66 jc_i_1 jml_177 (by decide) hl5 ?_
            refine jr_goto jf_177_69 ?_
            exact ih _ _ _ (some _) _ (some _) _ _ _ (jg1_ne rfl hl0) (jg1_ne rfl hl1) (jg1_ne rfl hl2) (jg1_ne rfl hl3) (jg1_pre (by first | rfl | exact rv_cat _) hl4) jg1_same h
          · refine jr_ifz_ne_f jf_177_61 hc ?_
            refine jr_iconst jf_177_64 jc_i_0 ?_
            obtain rfl := Option.some.inj h
            exact jr_retZ (x := false) jf_177_65 jmt_177
set_option maxRecDepth 10000 in
set_option maxHeartbeats 4000000 in
theorem r_B_canTranslate_90 {N B : Nat} {SA : Nat → Nat} {d : Nat} (hd : 5 ≤ d) : ∀ (n : Nat), ∀ (L : JLoc) (v0 : Nat) (v1 : Nat) (v2 : Option Nat) (v3 : Option Nat) (v4 : Int32) (μ : JMem) (r : Bool), jget L 0 = .ref v0 → jget L 1 = .ref v1 → jget L 2 = rv v2 → jget L 3 = rv v3 → jget L 4 = .int v4 → g_B_canTranslate_90 N n v0 v1 v2 v3 v4 μ.1 = some r → jR B SA d m_B_canTranslate 90 L [] μ (some (.int (jb r))) μ := by
  intro n
  induction n with
  | zero =>
    intro L v0 v1 v2 v3 v4 μ r hl0 hl1 hl2 hl3 hl4 h
    unfold g_B_canTranslate_90 at h
    cases h
  | succ n ih =>
    intro L v0 v1 v2 v3 v4 μ r hl0 hl1 hl2 hl3 hl4 h
    unfold g_B_canTranslate_90 at h
    refine jr_iload jf_177_90 hl4 ?_
    refine jr_aload_n jf_177_92 rfl hl1 ?_
    replace h := obd_of h; obtain ⟨x1, hx1, h⟩ := h
    refine jr_getI jf_177_93 hx1 ?_
    replace h := ite_or h; rcases h with ⟨hc, h⟩ | ⟨hc, h⟩
    · refine jr_if2_ge_t jf_177_96 hc ?_
      refine jr_iconst jf_177_143 jc_i_1 ?_
      obtain rfl := Option.some.inj h
      exact jr_retZ (x := true) jf_177_144 jmt_177
    · refine jr_if2_ge_f jf_177_96 hc ?_
      refine jr_aload_n jf_177_99 rfl hl1 ?_
      refine jr_iload jf_177_100 hl4 ?_
      replace h := jgd_of h; obtain ⟨hb2, h⟩ := h
      replace h := obd_of h; obtain ⟨x3, hx3, h⟩ := h
      refine jr_V6_1 jf_177_102 hb2 (by omega) (r_Chain_loopAt (by omega) _ _ _ _ hx3) (Nat.le_of_ble_eq_true rfl) jml_68 (Nat.le_of_ble_eq_true rfl) ?_
      refine jr_astore_A jf_177_105 jml_177 (by decide) ?_
      refine jr_aload_n_A jf_177_107 rfl (jg1_ne rfl hl3) ?_
      replace h := jon_or h; rcases h with ⟨rfl, h⟩ | ⟨a4, rfl, h⟩
      · refine jr_ifnull_n jf_177_108 ?_
        refine jr_iconst jf_177_135 jc_i_0 ?_
        obtain rfl := Option.some.inj h
        exact jr_retZ (x := false) jf_177_136 jmt_177
      · refine jr_ifnull_s jf_177_108 ?_
        refine jr_aload_A jf_177_111 jg1_same ?_
        replace h := jon_or h; rcases h with ⟨rfl, h⟩ | ⟨a5, rfl, h⟩
        · refine jr_ifnull_n jf_177_113 ?_
          refine jr_iconst jf_177_135 jc_i_0 ?_
          obtain rfl := Option.some.inj h
          exact jr_retZ (x := false) jf_177_136 jmt_177
        · refine jr_ifnull_s jf_177_113 ?_
          refine jr_aload_n_A jf_177_116 rfl (jg1_ne rfl hl2) ?_
          refine jr_aload_n jf_177_117 rfl (jg1_ne rfl hl0) ?_
          refine jr_aload_n jf_177_118 rfl (jg1_ne rfl hl3) ?_
          refine jr_aload jf_177_119 jg1_same ?_
          replace h := obd_of h; obtain ⟨x6, hx6, h⟩ := h
          refine jr_getJ jf_177_121 hx6 ?_
          refine jr_iconst jf_177_124 jc_i_0 ?_
          refine jr_aload_n_A jf_177_125 rfl (jg1_ne rfl hl2) ?_
          replace h := jgd_of h; obtain ⟨hb7, h⟩ := h
          replace h := obd_of h; obtain ⟨x8, hx8, h⟩ := h
          refine jr_V6_4 jf_177_126 hb7 (by omega) (r_B_translated (by omega) _ _ _ _ _ _ _ hx8) (by simp only [jcats_cons, jcats_nil, cat_int, cat_long, cat_double, cat_float, cat_ref, rv_cat]; decide) jml_179 (by simp only [jcats_cons, jcats_nil, cat_int, cat_long, cat_double, cat_float, cat_ref, rv_cat]; decide) ?_
          replace h := obd_of h; obtain ⟨a9, rfl, h⟩ := h
          replace h := obd_of h; obtain ⟨x10, hx10, h⟩ := h
          rcases ite_or hx10 with ⟨hb, hx⟩ | ⟨hb0, hx⟩
          · refine jr_V8a_1 jf_177_129 hb (by omega) (r_Real_holds (by omega) _ _ _ _ hx) (Nat.le_of_ble_eq_true rfl) jml_15 (Nat.le_of_ble_eq_true rfl) ?_
            replace h := ite_or h; rcases h with ⟨hc, h⟩ | ⟨hc, h⟩
            · refine jr_ifz_ne_t jf_177_132 hc ?_
              refine jr_iinc jf_177_137 jc_i_1 jml_177 (by decide) (jg1_pre rfl hl4) ?_
              refine jr_goto jf_177_140 ?_
              exact ih _ _ _ (some _) (some _) _ _ _ (jg1_ne rfl (jg1_ne rfl hl0)) (jg1_ne rfl (jg1_ne rfl hl1)) (jg1_ne rfl (jg1_ne rfl hl2)) (jg1_pre (by first | rfl | exact rv_cat _) (jg1_ne rfl hl3)) jg1_same h
            · refine jr_ifz_ne_f jf_177_132 hc ?_
              refine jr_iconst jf_177_135 jc_i_0 ?_
              obtain rfl := Option.some.inj h
              exact jr_retZ (x := false) jf_177_136 jmt_177
          · obtain ⟨hb, hx⟩ := jgd_of hx
            obtain hx := Option.some.inj hx
            refine jr_V8b_1 jf_177_129 hb0 hb (by omega) (r_Shorts_holds (by omega) _ _ _ _ hx) (Nat.le_of_ble_eq_true rfl) jml_16 (Nat.le_of_ble_eq_true rfl) ?_
            replace h := ite_or h; rcases h with ⟨hc, h⟩ | ⟨hc, h⟩
            · refine jr_ifz_ne_t jf_177_132 hc ?_
              refine jr_iinc jf_177_137 jc_i_1 jml_177 (by decide) (jg1_pre rfl hl4) ?_
              refine jr_goto jf_177_140 ?_
              exact ih _ _ _ (some _) (some _) _ _ _ (jg1_ne rfl (jg1_ne rfl hl0)) (jg1_ne rfl (jg1_ne rfl hl1)) (jg1_ne rfl (jg1_ne rfl hl2)) (jg1_pre (by first | rfl | exact rv_cat _) (jg1_ne rfl hl3)) jg1_same h
            · refine jr_ifz_ne_f jf_177_132 hc ?_
              refine jr_iconst jf_177_135 jc_i_0 ?_
              obtain rfl := Option.some.inj h
              exact jr_retZ (x := false) jf_177_136 jmt_177
set_option maxRecDepth 10000 in
set_option maxHeartbeats 4000000 in
theorem r_B_canTranslate_2 {N B : Nat} {SA : Nat → Nat} {d : Nat} (hd : 5 ≤ d) : ∀ (n : Nat), ∀ (L : JLoc) (v0 : Nat) (v1 : Option Nat) (v2 : Option Nat) (v3 : Int32) (μ : JMem) (r : Bool), jget L 0 = .ref v0 → jget L 1 = rv v1 → jget L 2 = rv v2 → jget L 3 = .int v3 → g_B_canTranslate_2 N n v0 v1 v2 v3 μ.1 = some r → jR B SA d m_B_canTranslate 2 L [] μ (some (.int (jb r))) μ := by
  intro n
  induction n with
  | zero =>
    intro L v0 v1 v2 v3 μ r hl0 hl1 hl2 hl3 h
    unfold g_B_canTranslate_2 at h
    cases h
  | succ n ih =>
    intro L v0 v1 v2 v3 μ r hl0 hl1 hl2 hl3 h
    unfold g_B_canTranslate_2 at h
    refine jr_iload_n jf_177_2 rfl hl3 ?_
    refine jr_aload_n_A jf_177_3 rfl hl1 ?_
    replace h := obd_of h; obtain ⟨a1, rfl, h⟩ := h
    replace h := obd_of h; obtain ⟨x2, hx2, h⟩ := h
    refine jr_getI jf_177_4 hx2 ?_
    replace h := ite_or h; rcases h with ⟨hc, h⟩ | ⟨hc, h⟩
    · refine jr_if2_ge_t jf_177_7 hc ?_
      refine jr_aload_n jf_177_78 rfl hl0 ?_
      refine jr_aload_n jf_177_79 rfl hl1 ?_
      replace h := jgd_of h; obtain ⟨hb3, h⟩ := h
      replace h := obd_of h; obtain ⟨x4, hx4, h⟩ := h
      refine jr_V6_0 jf_177_80 hb3 (by omega) (r_Chain_sort (by omega) _ _ _ hx4) (Nat.le_of_ble_eq_true rfl) jml_49 (Nat.le_of_ble_eq_true rfl) ?_
      replace h := jgd_of h; obtain ⟨hb5, h⟩ := h
      replace h := obd_of h; obtain ⟨x6, hx6, h⟩ := h
      refine jr_V6_1 jf_177_83 hb5 (by omega) (r_B_numbersOf (by omega) _ _ _ _ hx6) (Nat.le_of_ble_eq_true rfl) jml_6 (Nat.le_of_ble_eq_true rfl) ?_
      refine jr_astore_n_A jf_177_86 rfl jml_177 (by decide) ?_
      refine jr_iconst jf_177_87 jc_i_0 ?_
      refine jr_istore jf_177_88 jml_177 (by decide) ?_
      exact r_B_canTranslate_90 hd _ _ _ _ _ _ _ _ _ (jg1_ne rfl (jg1_ne rfl hl0)) (jg1_ne rfl (jg1_ne rfl hl1)) (jg1_ne rfl (jg1_pre (by first | rfl | exact rv_cat _) hl2)) (jg1_pre (by first | rfl | exact rv_cat _) jg1_same) jg1_same h
    · refine jr_if2_ge_f jf_177_7 hc ?_
      refine jr_aload_n jf_177_10 rfl hl1 ?_
      refine jr_iload_n jf_177_11 rfl hl3 ?_
      replace h := jgd_of h; obtain ⟨hb7, h⟩ := h
      replace h := obd_of h; obtain ⟨x8, hx8, h⟩ := h
      refine jr_V6_1 jf_177_12 hb7 (by omega) (r_Chain_memberAt (by omega) _ _ _ _ hx8) (Nat.le_of_ble_eq_true rfl) jml_50 (Nat.le_of_ble_eq_true rfl) ?_
      refine jr_astore_A jf_177_15 jml_177 (by decide) ?_
      refine jr_iconst jf_177_17 jc_i_0 ?_
      refine jr_istore jf_177_18 jml_177 (by decide) ?_
      exact r_B_canTranslate_20 hd ih _ _ _ _ _ _ _ _ _ _ (jg1_ne rfl (jg1_ne rfl hl0)) (jg1_ne rfl (jg1_ne rfl hl1)) (jg1_ne rfl (jg1_ne rfl hl2)) (jg1_ne rfl (jg1_pre rfl hl3)) (jg1_pre (by first | rfl | exact rv_cat _) jg1_same) jg1_same h
set_option maxRecDepth 10000 in
set_option maxHeartbeats 4000000 in
theorem r_B_canTranslate_e {N B : Nat} {SA : Nat → Nat} {d : Nat} (hd : 5 ≤ d) : ∀ (L : JLoc) (v0 : Nat) (v1 : Option Nat) (v2 : Option Nat) (μ : JMem) (r : Bool), jget L 0 = .ref v0 → jget L 1 = rv v1 → jget L 2 = rv v2 → g_B_canTranslate N v0 v1 v2 μ.1 = some r → jR B SA d m_B_canTranslate 0 L [] μ (some (.int (jb r))) μ := by
  intro L v0 v1 v2 μ r hl0 hl1 hl2 h
  unfold g_B_canTranslate at h
  refine jr_iconst jf_177_0 jc_i_0 ?_
  refine jr_istore_n jf_177_1 rfl jml_177 (by decide) ?_
  exact r_B_canTranslate_2 hd _ _ _ _ _ _ _ _ (jg1_ne rfl hl0) (jg1_ne rfl hl1) (jg1_pre (by first | rfl | exact rv_cat _) hl2) jg1_same h
set_option maxRecDepth 10000 in
set_option maxHeartbeats 4000000 in
theorem r_B_canTranslate {N B : Nat} {SA : Nat → Nat} {d : Nat} (hd : 5 ≤ d) : ∀ (v0 : Nat) (v1 : Option Nat) (v2 : Option Nat) (μ : JMem) (r : Bool), g_B_canTranslate N v0 v1 v2 μ.1 = some r → jR B SA d m_B_canTranslate 0 (lv_args 0 [.ref v0, rv v1, rv v2]) [] μ (some (.int (jb r))) μ := by
  intro v0 v1 v2 μ r h
  exact r_B_canTranslate_e hd (lv_args 0 _) _ _ _ _ _ (by simp [lv_args, jget, rv_cat, cat_int, cat_long, cat_double, cat_float, cat_ref]) (by simp [lv_args, jget, rv_cat, cat_int, cat_long, cat_double, cat_float, cat_ref]) (by simp [lv_args, jget, rv_cat, cat_int, cat_long, cat_double, cat_float, cat_ref]) h
/-! FilterBench.canRemake(LFilterBench$Chain;LFilterBench$Numbers;)Z -/
set_option maxRecDepth 10000 in
set_option maxHeartbeats 4000000 in
theorem r_B_canRemake_76 {N B : Nat} {SA : Nat → Nat} {d : Nat} (hd : 6 ≤ d) : ∀ (L : JLoc) (v0 : Nat) (v3 : Int32) (v4 : Int32) (μ : JMem) (r : Bool) (μ9 : JMem), jget L 0 = .ref v0 → jget L 3 = .int v3 → jget L 4 = .int v4 → g_B_canRemake_76 N B v0 v3 v4 μ = some (r, μ9) → jR B SA d m_B_canRemake 76 L [] μ (some (.int (jb r))) μ9 := by
  intro L v0 v3 v4 μ r μ9 hl0 hl3 hl4 h
  unfold g_B_canRemake_76 at h
  refine jr_aload_n jf_176_76 rfl hl0 ?_
  replace h := obd_of h; obtain ⟨x1, hx1, h⟩ := h
  refine jr_getI jf_176_77 hx1 ?_
  refine jr_iload jf_176_80 hl4 ?_
  refine jr_iadd jf_176_82 ?_
  refine jr_bipush jf_176_83 jc_b_60 ?_
  replace h := ite_or h; rcases h with ⟨hc, h⟩ | ⟨hc, h⟩
  · refine jr_if2_gt_t jf_176_85 hc ?_
    refine jr_iconst jf_176_103 jc_i_0 ?_
    obtain ⟨rfl, rfl⟩ := Prod.mk.inj (Option.some.inj h)
    exact jr_retZ (x := false) jf_176_104 jmt_176
  · refine jr_if2_gt_f jf_176_85 hc ?_
    refine jr_aload_n jf_176_88 rfl hl0 ?_
    replace h := obd_of h; obtain ⟨x2, hx2, h⟩ := h
    refine jr_getI jf_176_89 hx2 ?_
    refine jr_iload_n jf_176_92 rfl hl3 ?_
    refine jr_iadd jf_176_93 ?_
    refine jr_bipush jf_176_94 jc_b_20 ?_
    replace h := ite_or h; rcases h with ⟨hc, h⟩ | ⟨hc, h⟩
    · refine jr_if2_gt_t jf_176_96 hc ?_
      refine jr_iconst jf_176_103 jc_i_0 ?_
      obtain ⟨rfl, rfl⟩ := Prod.mk.inj (Option.some.inj h)
      exact jr_retZ (x := false) jf_176_104 jmt_176
    · refine jr_if2_gt_f jf_176_96 hc ?_
      refine jr_iconst jf_176_99 jc_i_1 ?_
      refine jr_goto jf_176_100 ?_
      obtain ⟨rfl, rfl⟩ := Prod.mk.inj (Option.some.inj h)
      exact jr_retZ (x := true) jf_176_104 jmt_176
set_option maxRecDepth 10000 in
set_option maxHeartbeats 4000000 in
theorem r_B_canRemake_12 {N B : Nat} {SA : Nat → Nat} {d : Nat} (hd : 6 ≤ d) : ∀ (n : Nat), ∀ (L : JLoc) (v0 : Nat) (v2 : Option Nat) (v3 : Int32) (v4 : Int32) (v5 : Int32) (μ : JMem) (r : Bool) (μ9 : JMem), jget L 0 = .ref v0 → jget L 2 = rv v2 → jget L 3 = .int v3 → jget L 4 = .int v4 → jget L 5 = .int v5 → g_B_canRemake_12 N B n v0 v2 v3 v4 v5 μ = some (r, μ9) → jR B SA d m_B_canRemake 12 L [] μ (some (.int (jb r))) μ9 := by
  intro n
  induction n with
  | zero =>
    intro L v0 v2 v3 v4 v5 μ r μ9 hl0 hl2 hl3 hl4 hl5 h
    unfold g_B_canRemake_12 at h
    cases h
  | succ n ih =>
    intro L v0 v2 v3 v4 v5 μ r μ9 hl0 hl2 hl3 hl4 hl5 h
    unfold g_B_canRemake_12 at h
    refine jr_iload jf_176_12 hl5 ?_
    refine jr_iload_n jf_176_14 rfl hl3 ?_
    replace h := ite_or h; rcases h with ⟨hc, h⟩ | ⟨hc, h⟩
    · refine jr_if2_ge_t jf_176_15 hc ?_
      exact r_B_canRemake_76 hd _ _ _ _ _ _ _ hl0 hl3 hl4 h
    · refine jr_if2_ge_f jf_176_15 hc ?_
      refine jr_iload jf_176_18 hl5 ?_
      refine jr_aload_n jf_176_20 rfl hl0 ?_
      replace h := obd_of h; obtain ⟨x1, hx1, h⟩ := h
      refine jr_getA jf_176_21 hx1 ?_
      replace h := obd_of h; obtain ⟨a2, rfl, h⟩ := h
      replace h := obd_of h; obtain ⟨x3, hx3, h⟩ := h
      refine jr_arraylength jf_176_24 hx3 ?_
      replace h := ite_or h; rcases h with ⟨hc, h⟩ | ⟨hc, h⟩
      · refine jr_if2_ge_t jf_176_25 hc ?_
        exact r_B_canRemake_76 hd _ _ _ _ _ _ _ hl0 hl3 hl4 h
      · refine jr_if2_ge_f jf_176_25 hc ?_
        refine jr_aload_n jf_176_28 rfl hl0 ?_
        replace h := obd_of h; obtain ⟨x4, hx4, h⟩ := h
        refine jr_getA jf_176_29 hx4 ?_
        refine jr_iload jf_176_32 hl5 ?_
        replace h := obd_of h; obtain ⟨a5, rfl, h⟩ := h
        replace h := obd_of h; obtain ⟨x6, hx6, h⟩ := h
        refine jr_aaload jf_176_34 hx6 ?_
        replace h := jon_or h; rcases h with ⟨rfl, h⟩ | ⟨a7, rfl, h⟩
        · refine jr_ifnull_n jf_176_35 ?_
          refine jr_iconst jf_176_53 jc_i_0 ?_
          obtain ⟨rfl, rfl⟩ := Prod.mk.inj (Option.some.inj h)
          exact jr_retZ (x := false) jf_176_54 jmt_176
        · refine jr_ifnull_s jf_176_35 ?_
          refine jr_aload_n jf_176_38 rfl hl0 ?_
          refine jr_aload_n jf_176_39 rfl hl0 ?_
          replace h := obd_of h; obtain ⟨x8, hx8, h⟩ := h
          refine jr_getA jf_176_40 hx8 ?_
          refine jr_iload jf_176_43 hl5 ?_
          replace h := obd_of h; obtain ⟨a9, rfl, h⟩ := h
          replace h := obd_of h; obtain ⟨x10, hx10, h⟩ := h
          refine jr_aaload jf_176_45 hx10 ?_
          refine jr_aload_n_A jf_176_46 rfl hl2 ?_
          replace h := jgd_of h; obtain ⟨hb11, h⟩ := h
          replace h := obd_of h; obtain ⟨x12, hx12, h⟩ := h
          refine jr_V6_2 jf_176_47 hb11 (by omega) (r_B_canTranslate (by omega) _ _ _ _ _ hx12) (Nat.le_of_ble_eq_true rfl) jml_177 (by simp only [jcats_cons, jcats_nil, cat_int, cat_long, cat_double, cat_float, cat_ref, rv_cat]; decide) ?_
          replace h := ite_or h; rcases h with ⟨hc, h⟩ | ⟨hc, h⟩
          · refine jr_ifz_ne_t jf_176_50 hc ?_
            refine jr_iload jf_176_55 hl4 ?_
            refine jr_aload_n jf_176_57 rfl hl0 ?_
            replace h := obd_of h; obtain ⟨x13, hx13, h⟩ := h
            refine jr_getA jf_176_58 hx13 ?_
            refine jr_iload jf_176_61 hl5 ?_
            replace h := obd_of h; obtain ⟨a14, rfl, h⟩ := h
            replace h := obd_of h; obtain ⟨x15, hx15, h⟩ := h
            refine jr_aaload jf_176_63 hx15 ?_
            replace h := obd_of h; obtain ⟨a16, rfl, h⟩ := h
            replace h := obd_of h; obtain ⟨x17, hx17, h⟩ := h
            refine jr_getI jf_176_64 hx17 ?_
            refine jr_iadd jf_176_67 ?_
            refine jr_istore jf_176_68 jml_176 (by decide) ?_
            refine jr_iinc jf_176_70 jc_i_1 jml_176 (by decide) (jg1_ne rfl hl5) ?_
            refine jr_goto jf_176_73 ?_
            exact ih _ _ _ _ _ _ _ _ _ (jg1_ne rfl (jg1_ne rfl hl0)) (jg1_ne rfl (jg1_ne rfl hl2)) (jg1_ne rfl (jg1_pre rfl hl3)) (jg1_pre rfl jg1_same) jg1_same h
          · refine jr_ifz_ne_f jf_176_50 hc ?_
            refine jr_iconst jf_176_53 jc_i_0 ?_
            obtain ⟨rfl, rfl⟩ := Prod.mk.inj (Option.some.inj h)
            exact jr_retZ (x := false) jf_176_54 jmt_176
set_option maxRecDepth 10000 in
set_option maxHeartbeats 4000000 in
theorem r_B_canRemake_e {N B : Nat} {SA : Nat → Nat} {d : Nat} (hd : 6 ≤ d) : ∀ (L : JLoc) (v0 : Nat) (v1 : Option Nat) (v2 : Option Nat) (μ : JMem) (r : Bool) (μ9 : JMem), jget L 0 = .ref v0 → jget L 1 = rv v1 → jget L 2 = rv v2 → g_B_canRemake N B v0 v1 v2 μ = some (r, μ9) → jR B SA d m_B_canRemake 0 L [] μ (some (.int (jb r))) μ9 := by
  intro L v0 v1 v2 μ r μ9 hl0 hl1 hl2 h
  unfold g_B_canRemake at h
  refine jr_aload_n jf_176_0 rfl hl0 ?_
  refine jr_aload_n_A jf_176_1 rfl hl1 ?_
  replace h := jgd_of h; obtain ⟨hb1, h⟩ := h
  replace h := jbd2_of h; obtain ⟨x2, μ3, hx2, h⟩ := h
  refine jr_V6_1 jf_176_2 hb1 (by omega) (r_B_gather (by omega) _ _ _ _ _ hx2) (Nat.le_of_ble_eq_true rfl) jml_126 (by simp only [jcats_cons, jcats_nil, cat_int, cat_long, cat_double, cat_float, cat_ref, rv_cat]; decide) ?_
  refine jr_istore_n jf_176_5 rfl jml_176 (by decide) ?_
  refine jr_iconst jf_176_6 jc_i_0 ?_
  refine jr_istore jf_176_7 jml_176 (by decide) ?_
  refine jr_iconst jf_176_9 jc_i_0 ?_
  refine jr_istore jf_176_10 jml_176 (by decide) ?_
  exact r_B_canRemake_12 hd _ _ _ _ _ _ _ _ _ _ (jg1_ne rfl (jg1_ne rfl (jg1_ne rfl hl0))) (jg1_ne rfl (jg1_ne rfl (jg1_pre (by first | rfl | exact rv_cat _) hl2))) (jg1_ne rfl (jg1_pre rfl jg1_same)) (jg1_pre rfl jg1_same) jg1_same h
set_option maxRecDepth 10000 in
set_option maxHeartbeats 4000000 in
theorem r_B_canRemake {N B : Nat} {SA : Nat → Nat} {d : Nat} (hd : 6 ≤ d) : ∀ (v0 : Nat) (v1 : Option Nat) (v2 : Option Nat) (μ : JMem) (r : Bool) (μ9 : JMem), g_B_canRemake N B v0 v1 v2 μ = some (r, μ9) → jR B SA d m_B_canRemake 0 (lv_args 0 [.ref v0, rv v1, rv v2]) [] μ (some (.int (jb r))) μ9 := by
  intro v0 v1 v2 μ r μ9 h
  exact r_B_canRemake_e hd (lv_args 0 _) _ _ _ _ _ _ (by simp [lv_args, jget, rv_cat, cat_int, cat_long, cat_double, cat_float, cat_ref]) (by simp [lv_args, jget, rv_cat, cat_int, cat_long, cat_double, cat_float, cat_ref]) (by simp [lv_args, jget, rv_cat, cat_int, cat_long, cat_double, cat_float, cat_ref]) h
/-! FilterBench.remadeSection(LFilterBench$Section;ILFilterBench$Numbers;)LFilterBench$Section; -/
set_option maxRecDepth 10000 in
set_option maxHeartbeats 4000000 in
theorem r_B_remadeSection_26 {N B : Nat} {SA : Nat → Nat} {d : Nat} (hd : 5 ≤ d) : ∀ (n : Nat), ∀ (L : JLoc) (v0 : Nat) (v1 : Nat) (v2 : Int32) (v3 : Option Nat) (v4 : Nat) (v5 : Int32) (μ : JMem) (r : Option Nat) (μ9 : JMem), jget L 0 = .ref v0 → jget L 1 = .ref v1 → jget L 2 = .int v2 → jget L 3 = rv v3 → jget L 4 = .ref v4 → jget L 5 = .int v5 → g_B_remadeSection_26 N B SA n v0 v1 v2 v3 v4 v5 μ = some (r, μ9) → jR B SA d m_B_remadeSection 26 L [] μ (some (rv r)) μ9 := by
  intro n
  induction n with
  | zero =>
    intro L v0 v1 v2 v3 v4 v5 μ r μ9 hl0 hl1 hl2 hl3 hl4 hl5 h
    unfold g_B_remadeSection_26 at h
    cases h
  | succ n ih =>
    intro L v0 v1 v2 v3 v4 v5 μ r μ9 hl0 hl1 hl2 hl3 hl4 hl5 h
    unfold g_B_remadeSection_26 at h
    refine jr_iload jf_183_26 hl5 ?_
    refine jr_aload_n jf_183_28 rfl hl1 ?_
    replace h := jgd_of h; obtain ⟨hb1, h⟩ := h
    replace h := obd_of h; obtain ⟨x2, hx2, h⟩ := h
    refine jr_V6_0 jf_183_29 hb1 (by omega) (r_Section_factorCount (by omega) _ _ _ hx2) (Nat.le_of_ble_eq_true rfl) jml_178 (Nat.le_of_ble_eq_true rfl) ?_
    replace h := ite_or h; rcases h with ⟨hc, h⟩ | ⟨hc, h⟩
    · refine jr_if2_ge_t jf_183_32 hc ?_
      refine jr_aload_n jf_183_67 rfl hl1 ?_
      replace h := obd_of h; obtain ⟨x3, hx3, h⟩ := h
      refine jr_getI jf_183_68 hx3 ?_
      refine jr_iconst jf_183_71 jc_i_2 ?_
      replace h := ite_or h; rcases h with ⟨hc, h⟩ | ⟨hc, h⟩
      · refine jr_if2_ne_f jf_183_72 hc ?_
        refine jr_iload_n jf_183_75 rfl hl2 ?_
        refine jr_iconst jf_183_76 jc_i_2 ?_
        replace h := ite_or h; rcases h with ⟨hc, h⟩ | ⟨hc, h⟩
        · refine jr_if2_ne_f jf_183_77 hc ?_
          refine jr_aload jf_183_80 hl4 ?_
          refine jr_aload_n jf_183_82 rfl hl1 ?_
          replace h := obd_of h; obtain ⟨x4, hx4, h⟩ := h
          refine jr_getI jf_183_83 hx4 ?_
          replace h := obd_of h; obtain ⟨μ5, hμ5, h⟩ := h
          refine jr_putI jf_183_86 rfl hμ5 ?_
          refine jr_aload jf_183_89 hl4 ?_
          refine jr_aload_n jf_183_91 rfl hl1 ?_
          replace h := obd_of h; obtain ⟨x6, hx6, h⟩ := h
          refine jr_getI jf_183_92 hx6 ?_
          replace h := obd_of h; obtain ⟨μ7, hμ7, h⟩ := h
          refine jr_putI jf_183_95 rfl hμ7 ?_
          refine jr_aload jf_183_98 hl4 ?_
          obtain ⟨rfl, rfl⟩ := Prod.mk.inj (Option.some.inj h)
          exact jr_retA (x := some _) jf_183_100 jmt_183
        · refine jr_if2_ne_t jf_183_77 hc ?_
          refine jr_aload jf_183_98 hl4 ?_
          obtain ⟨rfl, rfl⟩ := Prod.mk.inj (Option.some.inj h)
          exact jr_retA (x := some _) jf_183_100 jmt_183
      · refine jr_if2_ne_t jf_183_72 hc ?_
        refine jr_aload jf_183_98 hl4 ?_
        obtain ⟨rfl, rfl⟩ := Prod.mk.inj (Option.some.inj h)
        exact jr_retA (x := some _) jf_183_100 jmt_183
    · refine jr_if2_ge_f jf_183_32 hc ?_
      refine jr_aload jf_183_35 hl4 ?_
      refine jr_iload jf_183_37 hl5 ?_
      refine jr_aload_n jf_183_39 rfl hl0 ?_
      refine jr_aload_n jf_183_40 rfl hl1 ?_
      replace h := obd_of h; obtain ⟨x8, hx8, h⟩ := h
      refine jr_getA jf_183_41 hx8 ?_
      refine jr_aload_n jf_183_44 rfl hl1 ?_
      refine jr_iload jf_183_45 hl5 ?_
      replace h := jgd_of h; obtain ⟨hb9, h⟩ := h
      replace h := obd_of h; obtain ⟨x10, hx10, h⟩ := h
      refine jr_V6_1 jf_183_47 hb9 (by omega) (r_Section_factor (by omega) _ _ _ _ hx10) (by simp only [jcats_cons, jcats_nil, cat_int, cat_long, cat_double, cat_float, cat_ref, rv_cat]; decide) jml_43 (Nat.le_of_ble_eq_true rfl) ?_
      refine jr_aload_n jf_183_50 rfl hl1 ?_
      replace h := jgd_of h; obtain ⟨hb11, h⟩ := h
      replace h := obd_of h; obtain ⟨x12, hx12, h⟩ := h
      refine jr_V6_0 jf_183_51 hb11 (by omega) (r_Section_takesWhole (by omega) _ _ _ hx12) (by simp only [jcats_cons, jcats_nil, cat_int, cat_long, cat_double, cat_float, cat_ref, rv_cat]; decide) jml_22 (Nat.le_of_ble_eq_true rfl) ?_
      refine jr_aload_n_A jf_183_54 rfl hl3 ?_
      replace h := jgd_of h; obtain ⟨hb13, h⟩ := h
      replace h := obd_of h; obtain ⟨x14, hx14, h⟩ := h
      refine jr_V6_4 jf_183_55 hb13 (by omega) (r_B_translated (by omega) _ _ _ _ _ _ _ hx14) (Nat.le_of_ble_eq_true rfl) jml_179 (by simp only [jcats_cons, jcats_nil, cat_int, cat_long, cat_double, cat_float, cat_ref, rv_cat]; decide) ?_
      replace h := jgd_of h; obtain ⟨hb15, h⟩ := h
      replace h := obd_of h; obtain ⟨μ16, hμ16, h⟩ := h
      refine jr_V6v_2 jf_183_58 hb15 (by omega) (r_Section_setFactor (by omega) _ _ _ _ _ hμ16) (Nat.le_of_ble_eq_true rfl) jml_20 (Nat.le_of_ble_eq_true rfl) ?_
      refine jr_iinc jf_183_61 jc_i_1 jml_183 (by decide) hl5 ?_
      refine jr_goto jf_183_64 ?_
      exact ih _ _ _ _ _ _ _ _ _ _ (jg1_ne rfl hl0) (jg1_ne rfl hl1) (jg1_ne rfl hl2) (jg1_ne rfl hl3) (jg1_pre (by first | rfl | exact rv_cat _) hl4) jg1_same h
set_option maxRecDepth 10000 in
set_option maxHeartbeats 4000000 in
theorem r_B_remadeSection_e {N B : Nat} {SA : Nat → Nat} {d : Nat} (hd : 5 ≤ d) : ∀ (L : JLoc) (v0 : Nat) (v1 : Option Nat) (v2 : Int32) (v3 : Option Nat) (μ : JMem) (r : Option Nat) (μ9 : JMem), jget L 0 = .ref v0 → jget L 1 = rv v1 → jget L 2 = .int v2 → jget L 3 = rv v3 → g_B_remadeSection N B SA v0 v1 v2 v3 μ = some (r, μ9) → jR B SA d m_B_remadeSection 0 L [] μ (some (rv r)) μ9 := by
  intro L v0 v1 v2 v3 μ r μ9 hl0 hl1 hl2 hl3 h
  unfold g_B_remadeSection at h
  refine jr_aload_n jf_183_0 rfl hl0 ?_
  refine jr_aload_n_A jf_183_1 rfl hl1 ?_
  replace h := obd_of h; obtain ⟨a1, rfl, h⟩ := h
  replace h := obd_of h; obtain ⟨x2, hx2, h⟩ := h
  refine jr_getI jf_183_2 hx2 ?_
  refine jr_iload_n jf_183_5 rfl hl2 ?_
  refine jr_aload_n jf_183_6 rfl hl1 ?_
  replace h := obd_of h; obtain ⟨x3, hx3, h⟩ := h
  refine jr_getI jf_183_7 hx3 ?_
  refine jr_aload_n_A jf_183_10 rfl hl3 ?_
  replace h := jgd_of h; obtain ⟨hb4, h⟩ := h
  replace h := jbd2_of h; obtain ⟨x5, μ6, hx5, h⟩ := h
  refine jr_V6_4 jf_183_11 hb4 (by omega) (r_B_newSection (by omega) _ _ _ _ _ _ _ _ hx5) (Nat.le_of_ble_eq_true rfl) jml_9 (by simp only [jcats_cons, jcats_nil, cat_int, cat_long, cat_double, cat_float, cat_ref, rv_cat]; decide) ?_
  refine jr_astore_A jf_183_14 jml_183 (by decide) ?_
  refine jr_aload_A jf_183_16 jg1_same ?_
  replace h := jon_or h; rcases h with ⟨rfl, h⟩ | ⟨a7, rfl, h⟩
  · refine jr_ifnonnull_n jf_183_18 ?_
    refine jr_aconst_null jf_183_21 ?_
    obtain ⟨rfl, rfl⟩ := Prod.mk.inj (Option.some.inj h)
    exact jr_retA jf_183_22 jmt_183
  · refine jr_ifnonnull_s jf_183_18 ?_
    refine jr_iconst jf_183_23 jc_i_0 ?_
    refine jr_istore jf_183_24 jml_183 (by decide) ?_
    exact r_B_remadeSection_26 hd _ _ _ _ _ _ _ _ _ _ _ (jg1_ne rfl (jg1_ne rfl hl0)) (jg1_ne rfl (jg1_ne rfl hl1)) (jg1_ne rfl (jg1_ne rfl hl2)) (jg1_ne rfl (jg1_pre (by first | rfl | exact rv_cat _) hl3)) (jg1_pre (by first | rfl | exact rv_cat _) jg1_same) jg1_same h
set_option maxRecDepth 10000 in
set_option maxHeartbeats 4000000 in
theorem r_B_remadeSection {N B : Nat} {SA : Nat → Nat} {d : Nat} (hd : 5 ≤ d) : ∀ (v0 : Nat) (v1 : Option Nat) (v2 : Int32) (v3 : Option Nat) (μ : JMem) (r : Option Nat) (μ9 : JMem), g_B_remadeSection N B SA v0 v1 v2 v3 μ = some (r, μ9) → jR B SA d m_B_remadeSection 0 (lv_args 0 [.ref v0, rv v1, .int v2, rv v3]) [] μ (some (rv r)) μ9 := by
  intro v0 v1 v2 v3 μ r μ9 h
  exact r_B_remadeSection_e hd (lv_args 0 _) _ _ _ _ _ _ _ (by simp [lv_args, jget, rv_cat, cat_int, cat_long, cat_double, cat_float, cat_ref]) (by simp [lv_args, jget, rv_cat, cat_int, cat_long, cat_double, cat_float, cat_ref]) (by simp [lv_args, jget, rv_cat, cat_int, cat_long, cat_double, cat_float, cat_ref]) (by simp [lv_args, jget, rv_cat, cat_int, cat_long, cat_double, cat_float, cat_ref]) h
/-! FilterBench.remakeLoops(LFilterBench$Chain;LFilterBench$Chain;LFilterBench$Numbers;)V -/
set_option maxRecDepth 10000 in
set_option maxHeartbeats 4000000 in
theorem r_B_remakeLoops_82 {N B : Nat} {SA : Nat → Nat} {d : Nat} (hd : 5 ≤ d) {k13 : Nat → Nat → Option Nat → Option Nat → Option Nat → Int32 → JMem → Option JMem} (i13 : ∀ (L : JLoc) (v0 : Nat) (v1 : Nat) (v2 : Option Nat) (v3 : Option Nat) (v4 : Option Nat) (v5 : Int32) (μ : JMem) (μ9 : JMem), jget L 0 = .ref v0 → jget L 1 = .ref v1 → jget L 2 = rv v2 → jget L 3 = rv v3 → jget L 4 = rv v4 → jget L 5 = .int v5 → k13 v0 v1 v2 v3 v4 v5 μ = some μ9 → jR B SA d m_B_remakeLoops 13 L [] μ none μ9) : ∀ (L : JLoc) (v0 : Nat) (v1 : Nat) (v2 : Option Nat) (v3 : Option Nat) (v4 : Option Nat) (v5 : Int32) (μ : JMem) (μ9 : JMem), jget L 0 = .ref v0 → jget L 1 = .ref v1 → jget L 2 = rv v2 → jget L 3 = rv v3 → jget L 4 = rv v4 → jget L 5 = .int v5 → g_B_remakeLoops_82 N B k13 v0 v1 v2 v3 v4 v5 μ = some μ9 → jR B SA d m_B_remakeLoops 82 L [] μ none μ9 := by
  intro L v0 v1 v2 v3 v4 v5 μ μ9 hl0 hl1 hl2 hl3 hl4 hl5 h
  unfold g_B_remakeLoops_82 at h
  refine jr_iinc jf_184_82 jc_i_1 jml_184 (by decide) hl5 ?_
  refine jr_goto jf_184_85 ?_
  exact i13 _ _ _ _ _ _ _ _ _ (jg1_ne rfl hl0) (jg1_ne rfl hl1) (jg1_ne rfl hl2) (jg1_ne rfl hl3) (jg1_pre (by first | rfl | exact rv_cat _) hl4) jg1_same h
set_option maxRecDepth 10000 in
set_option maxHeartbeats 4000000 in
theorem r_B_remakeLoops_13 {N B : Nat} {SA : Nat → Nat} {d : Nat} (hd : 5 ≤ d) : ∀ (n : Nat), ∀ (L : JLoc) (v0 : Nat) (v1 : Nat) (v2 : Option Nat) (v3 : Option Nat) (v4 : Option Nat) (v5 : Int32) (μ : JMem) (μ9 : JMem), jget L 0 = .ref v0 → jget L 1 = .ref v1 → jget L 2 = rv v2 → jget L 3 = rv v3 → jget L 4 = rv v4 → jget L 5 = .int v5 → g_B_remakeLoops_13 N B n v0 v1 v2 v3 v4 v5 μ = some μ9 → jR B SA d m_B_remakeLoops 13 L [] μ none μ9 := by
  intro n
  induction n with
  | zero =>
    intro L v0 v1 v2 v3 v4 v5 μ μ9 hl0 hl1 hl2 hl3 hl4 hl5 h
    unfold g_B_remakeLoops_13 at h
    cases h
  | succ n ih =>
    intro L v0 v1 v2 v3 v4 v5 μ μ9 hl0 hl1 hl2 hl3 hl4 hl5 h
    unfold g_B_remakeLoops_13 at h
    refine jr_iload jf_184_13 hl5 ?_
    refine jr_aload_n jf_184_15 rfl hl1 ?_
    replace h := obd_of h; obtain ⟨x1, hx1, h⟩ := h
    refine jr_getI jf_184_16 hx1 ?_
    replace h := ite_or h; rcases h with ⟨hc, h⟩ | ⟨hc, h⟩
    · refine jr_if2_ge_t jf_184_19 hc ?_
      obtain rfl := Option.some.inj h
      exact jr_return jf_184_88 jmt_184
    · refine jr_if2_ge_f jf_184_19 hc ?_
      refine jr_aload_n jf_184_22 rfl hl1 ?_
      refine jr_iload jf_184_23 hl5 ?_
      replace h := jgd_of h; obtain ⟨hb2, h⟩ := h
      replace h := obd_of h; obtain ⟨x3, hx3, h⟩ := h
      refine jr_V6_1 jf_184_25 hb2 (by omega) (r_Chain_loopAt (by omega) _ _ _ _ hx3) (Nat.le_of_ble_eq_true rfl) jml_68 (Nat.le_of_ble_eq_true rfl) ?_
      refine jr_astore_A jf_184_28 jml_184 (by decide) ?_
      refine jr_aload_A jf_184_30 (jg1_ne rfl hl4) ?_
      replace h := jon_or h; rcases h with ⟨rfl, h⟩ | ⟨a4, rfl, h⟩
      · refine jr_ifnull_n jf_184_32 ?_
        exact r_B_remakeLoops_82 hd ih _ _ _ _ _ _ _ _ _ (jg1_ne rfl hl0) (jg1_ne rfl hl1) (jg1_ne rfl hl2) (jg1_ne rfl hl3) (jg1_ne rfl hl4) (jg1_pre rfl hl5) h
      · refine jr_ifnull_s jf_184_32 ?_
        refine jr_aload_A jf_184_35 jg1_same ?_
        replace h := jon_or h; rcases h with ⟨rfl, h⟩ | ⟨a5, rfl, h⟩
        · refine jr_ifnull_n jf_184_37 ?_
          exact r_B_remakeLoops_82 hd ih _ _ _ _ _ (some _) _ _ _ (jg1_ne rfl hl0) (jg1_ne rfl hl1) (jg1_ne rfl hl2) (jg1_ne rfl hl3) (jg1_ne rfl hl4) (jg1_pre rfl hl5) h
        · refine jr_ifnull_s jf_184_37 ?_
          refine jr_aload_n_A jf_184_40 rfl (jg1_ne rfl hl2) ?_
          replace h := jnew_of h
          refine jr_new jf_184_41 ?_
          refine jr_dup jf_184_44 rfl ?_
          refine jr_aload jf_184_45 jg1_same ?_
          replace h := obd_of h; obtain ⟨x8, hx8, h⟩ := h
          refine jr_getI jf_184_47 hx8 ?_
          refine jr_aload jf_184_50 jg1_same ?_
          replace h := obd_of h; obtain ⟨x9, hx9, h⟩ := h
          refine jr_getI jf_184_52 hx9 ?_
          refine jr_aload jf_184_55 jg1_same ?_
          replace h := obd_of h; obtain ⟨x10, hx10, h⟩ := h
          refine jr_getA jf_184_57 hx10 ?_
          replace h := obd_of h; obtain ⟨a11, rfl, h⟩ := h
          replace h := jgd_of h; obtain ⟨hb12, h⟩ := h
          replace h := obd_of h; obtain ⟨x13, hx13, h⟩ := h
          refine jr_V6_0 jf_184_60 hb12 (by omega) (r_Row_size (by omega) _ _ _ hx13) (by simp only [jcats_cons, jcats_nil, cat_int, cat_long, cat_double, cat_float, cat_ref, rv_cat]; decide) jml_100 (Nat.le_of_ble_eq_true rfl) ?_
          refine jr_aload_n jf_184_63 rfl (jg1_ne rfl hl0) ?_
          refine jr_aload jf_184_64 (jg1_ne rfl hl4) ?_
          refine jr_aload jf_184_66 jg1_same ?_
          replace h := obd_of h; obtain ⟨x14, hx14, h⟩ := h
          refine jr_getJ jf_184_68 hx14 ?_
          refine jr_iconst jf_184_71 jc_i_0 ?_
          refine jr_aload_n_A jf_184_72 rfl (jg1_ne rfl hl3) ?_
          replace h := jgd_of h; obtain ⟨hb15, h⟩ := h
          replace h := obd_of h; obtain ⟨x16, hx16, h⟩ := h
          refine jr_V6_4 jf_184_73 hb15 (by omega) (r_B_translated (by omega) _ _ _ _ _ _ _ hx16) (by simp only [jcats_cons, jcats_nil, cat_int, cat_long, cat_double, cat_float, cat_ref, rv_cat]; decide) jml_179 (by simp only [jcats_cons, jcats_nil, cat_int, cat_long, cat_double, cat_float, cat_ref, rv_cat]; decide) ?_
          replace h := obd_of h; obtain ⟨μ17, hμ17, h⟩ := h
          refine jr_P1v_4 jf_184_76 (by omega) (r_Loop_init (by omega) _ _ _ _ _ _ _ hμ17) (by simp only [jcats_cons, jcats_nil, cat_int, cat_long, cat_double, cat_float, cat_ref, rv_cat]; decide) jml_57 (Nat.le_of_ble_eq_true rfl) ?_
          replace h := obd_of h; obtain ⟨a18, rfl, h⟩ := h
          replace h := jgd_of h; obtain ⟨hb19, h⟩ := h
          replace h := obd_of h; obtain ⟨μ20, hμ20, h⟩ := h
          refine jr_V6v_1 jf_184_79 hb19 (by omega) (r_Chain_tie (by omega) _ _ _ _ hμ20) (Nat.le_of_ble_eq_true rfl) jml_58 (by simp only [jcats_cons, jcats_nil, cat_int, cat_long, cat_double, cat_float, cat_ref, rv_cat]; decide) ?_
          exact r_B_remakeLoops_82 hd ih _ _ _ (some _) _ (some _) _ _ _ (jg1_ne rfl hl0) (jg1_ne rfl hl1) (jg1_ne rfl hl2) (jg1_ne rfl hl3) (jg1_ne rfl hl4) (jg1_pre rfl hl5) h
set_option maxRecDepth 10000 in
set_option maxHeartbeats 4000000 in
theorem r_B_remakeLoops_e {N B : Nat} {SA : Nat → Nat} {d : Nat} (hd : 5 ≤ d) : ∀ (L : JLoc) (v0 : Nat) (v1 : Option Nat) (v2 : Option Nat) (v3 : Option Nat) (μ : JMem) (μ9 : JMem), jget L 0 = .ref v0 → jget L 1 = rv v1 → jget L 2 = rv v2 → jget L 3 = rv v3 → g_B_remakeLoops N B v0 v1 v2 v3 μ = some μ9 → jR B SA d m_B_remakeLoops 0 L [] μ none μ9 := by
  intro L v0 v1 v2 v3 μ μ9 hl0 hl1 hl2 hl3 h
  unfold g_B_remakeLoops at h
  refine jr_aload_n jf_184_0 rfl hl0 ?_
  refine jr_aload_n_A jf_184_1 rfl hl1 ?_
  replace h := obd_of h; obtain ⟨a1, rfl, h⟩ := h
  replace h := jgd_of h; obtain ⟨hb2, h⟩ := h
  replace h := obd_of h; obtain ⟨x3, hx3, h⟩ := h
  refine jr_V6_0 jf_184_2 hb2 (by omega) (r_Chain_sort (by omega) _ _ _ hx3) (Nat.le_of_ble_eq_true rfl) jml_49 (Nat.le_of_ble_eq_true rfl) ?_
  replace h := jgd_of h; obtain ⟨hb4, h⟩ := h
  replace h := obd_of h; obtain ⟨x5, hx5, h⟩ := h
  refine jr_V6_1 jf_184_5 hb4 (by omega) (r_B_numbersOf (by omega) _ _ _ _ hx5) (Nat.le_of_ble_eq_true rfl) jml_6 (Nat.le_of_ble_eq_true rfl) ?_
  refine jr_astore_A jf_184_8 jml_184 (by decide) ?_
  refine jr_iconst jf_184_10 jc_i_0 ?_
  refine jr_istore jf_184_11 jml_184 (by decide) ?_
  exact r_B_remakeLoops_13 hd _ _ _ _ _ _ _ _ _ _ (jg1_ne rfl (jg1_ne rfl hl0)) (jg1_ne rfl (jg1_ne rfl hl1)) (jg1_ne rfl (jg1_ne rfl hl2)) (jg1_ne rfl (jg1_pre (by first | rfl | exact rv_cat _) hl3)) (jg1_pre (by first | rfl | exact rv_cat _) jg1_same) jg1_same h
set_option maxRecDepth 10000 in
set_option maxHeartbeats 4000000 in
theorem r_B_remakeLoops {N B : Nat} {SA : Nat → Nat} {d : Nat} (hd : 5 ≤ d) : ∀ (v0 : Nat) (v1 : Option Nat) (v2 : Option Nat) (v3 : Option Nat) (μ : JMem) (μ9 : JMem), g_B_remakeLoops N B v0 v1 v2 v3 μ = some μ9 → jR B SA d m_B_remakeLoops 0 (lv_args 0 [.ref v0, rv v1, rv v2, rv v3]) [] μ none μ9 := by
  intro v0 v1 v2 v3 μ μ9 h
  exact r_B_remakeLoops_e hd (lv_args 0 _) _ _ _ _ _ _ (by simp [lv_args, jget, rv_cat, cat_int, cat_long, cat_double, cat_float, cat_ref]) (by simp [lv_args, jget, rv_cat, cat_int, cat_long, cat_double, cat_float, cat_ref]) (by simp [lv_args, jget, rv_cat, cat_int, cat_long, cat_double, cat_float, cat_ref]) (by simp [lv_args, jget, rv_cat, cat_int, cat_long, cat_double, cat_float, cat_ref]) h
/-! FilterBench.remade(LFilterBench$Chain;ILFilterBench$Numbers;I)LFilterBench$Chain; -/
set_option maxRecDepth 10000 in
set_option maxHeartbeats 4000000 in
theorem r_B_remade_117 {N B : Nat} {SA : Nat → Nat} {d : Nat} (hd : 6 ≤ d) {kS : Nat → Option Nat → Int32 → Option Nat → Int32 → JMem → Option (Option Nat × JMem)} (iS : ∀ (v0 : Nat) (v1 : Option Nat) (v2 : Int32) (v3 : Option Nat) (v4 : Int32) (μ : JMem) (r : Option Nat) (μ9 : JMem), kS v0 v1 v2 v3 v4 μ = some (r, μ9) → jR B SA (d - 1) m_B_remade 0 (lv_args 0 [.ref v0, rv v1, .int v2, rv v3, .int v4]) [] μ (some (rv r)) μ9) {k21 : Nat → Option Nat → Int32 → Option Nat → Int32 → Nat → Int32 → JMem → Option (Option Nat × JMem)} (i21 : ∀ (L : JLoc) (v0 : Nat) (v1 : Option Nat) (v2 : Int32) (v3 : Option Nat) (v4 : Int32) (v5 : Nat) (v6 : Int32) (μ : JMem) (r : Option Nat) (μ9 : JMem), jget L 0 = .ref v0 → jget L 1 = rv v1 → jget L 2 = .int v2 → jget L 3 = rv v3 → jget L 4 = .int v4 → jget L 5 = .ref v5 → jget L 6 = .int v6 → k21 v0 v1 v2 v3 v4 v5 v6 μ = some (r, μ9) → jR B SA d m_B_remade 21 L [] μ (some (rv r)) μ9) : ∀ (L : JLoc) (v0 : Nat) (v1 : Nat) (v2 : Int32) (v3 : Option Nat) (v4 : Int32) (v5 : Nat) (v6 : Int32) (μ : JMem) (r : Option Nat) (μ9 : JMem), jget L 0 = .ref v0 → jget L 1 = .ref v1 → jget L 2 = .int v2 → jget L 3 = rv v3 → jget L 4 = .int v4 → jget L 5 = .ref v5 → jget L 6 = .int v6 → g_B_remade_117 N B SA kS k21 v0 v1 v2 v3 v4 v5 v6 μ = some (r, μ9) → jR B SA d m_B_remade 117 L [] μ (some (rv r)) μ9 := by
  intro L v0 v1 v2 v3 v4 v5 v6 μ r μ9 hl0 hl1 hl2 hl3 hl4 hl5 hl6 h
  unfold g_B_remade_117 at h
  refine jr_iinc jf_182_117 jc_i_1 jml_182 (by decide) hl6 ?_
  refine jr_goto jf_182_120 ?_
  exact i21 _ _ (some _) _ _ _ _ _ _ _ _ (jg1_ne rfl hl0) (jg1_ne rfl hl1) (jg1_ne rfl hl2) (jg1_ne rfl hl3) (jg1_ne rfl hl4) (jg1_pre (by first | rfl | exact rv_cat _) hl5) jg1_same h
set_option maxRecDepth 10000 in
set_option maxHeartbeats 4000000 in
theorem r_B_remade_72 {N B : Nat} {SA : Nat → Nat} {d : Nat} (hd : 6 ≤ d) {kS : Nat → Option Nat → Int32 → Option Nat → Int32 → JMem → Option (Option Nat × JMem)} (iS : ∀ (v0 : Nat) (v1 : Option Nat) (v2 : Int32) (v3 : Option Nat) (v4 : Int32) (μ : JMem) (r : Option Nat) (μ9 : JMem), kS v0 v1 v2 v3 v4 μ = some (r, μ9) → jR B SA (d - 1) m_B_remade 0 (lv_args 0 [.ref v0, rv v1, .int v2, rv v3, .int v4]) [] μ (some (rv r)) μ9) {k21 : Nat → Option Nat → Int32 → Option Nat → Int32 → Nat → Int32 → JMem → Option (Option Nat × JMem)} (i21 : ∀ (L : JLoc) (v0 : Nat) (v1 : Option Nat) (v2 : Int32) (v3 : Option Nat) (v4 : Int32) (v5 : Nat) (v6 : Int32) (μ : JMem) (r : Option Nat) (μ9 : JMem), jget L 0 = .ref v0 → jget L 1 = rv v1 → jget L 2 = .int v2 → jget L 3 = rv v3 → jget L 4 = .int v4 → jget L 5 = .ref v5 → jget L 6 = .int v6 → k21 v0 v1 v2 v3 v4 v5 v6 μ = some (r, μ9) → jR B SA d m_B_remade 21 L [] μ (some (rv r)) μ9) : ∀ (L : JLoc) (v0 : Nat) (v1 : Nat) (v2 : Int32) (v3 : Option Nat) (v4 : Int32) (v5 : Nat) (v6 : Int32) (v7 : Nat) (s0 : Option Nat) (μ : JMem) (r : Option Nat) (μ9 : JMem), jget L 0 = .ref v0 → jget L 1 = .ref v1 → jget L 2 = .int v2 → jget L 3 = rv v3 → jget L 4 = .int v4 → jget L 5 = .ref v5 → jget L 6 = .int v6 → jget L 7 = .ref v7 → g_B_remade_72 N B SA kS k21 v0 v1 v2 v3 v4 v5 v6 v7 s0 μ = some (r, μ9) → jR B SA d m_B_remade 72 L [rv s0] μ (some (rv r)) μ9 := by
  intro L v0 v1 v2 v3 v4 v5 v6 v7 s0 μ r μ9 hl0 hl1 hl2 hl3 hl4 hl5 hl6 hl7 h
  unfold g_B_remade_72 at h
  refine jr_astore_A jf_182_72 jml_182 (by decide) ?_
  refine jr_aload_n jf_182_74 rfl (jg1_ne rfl hl0) ?_
  refine jr_aload jf_182_75 (jg1_pre (by first | rfl | exact rv_cat _) hl7) ?_
  refine jr_iload_n jf_182_77 rfl (jg1_ne rfl hl2) ?_
  refine jr_aload_n_A jf_182_78 rfl (jg1_ne rfl hl3) ?_
  replace h := jgd_of h; obtain ⟨hb1, h⟩ := h
  replace h := jbd2_of h; obtain ⟨x2, μ3, hx2, h⟩ := h
  refine jr_V6_3 jf_182_79 hb1 (by omega) (r_B_remadeSection (by omega) _ _ _ _ _ _ _ hx2) (Nat.le_of_ble_eq_true rfl) jml_183 (by simp only [jcats_cons, jcats_nil, cat_int, cat_long, cat_double, cat_float, cat_ref, rv_cat]; decide) ?_
  refine jr_astore_A jf_182_82 jml_182 (by decide) ?_
  refine jr_aload_A jf_182_84 jg1_same ?_
  replace h := jon_or h; rcases h with ⟨rfl, h⟩ | ⟨a4, rfl, h⟩
  · refine jr_ifnonnull_n jf_182_86 ?_
    refine jr_aconst_null jf_182_89 ?_
    obtain ⟨rfl, rfl⟩ := Prod.mk.inj (Option.some.inj h)
    exact jr_retA jf_182_90 jmt_182
  · refine jr_ifnonnull_s jf_182_86 ?_
    refine jr_aload jf_182_91 (jg1_ne rfl (jg1_ne rfl hl5)) ?_
    refine jr_aload jf_182_93 jg1_same ?_
    replace h := jgd_of h; obtain ⟨hb5, h⟩ := h
    replace h := obd_of h; obtain ⟨μ6, hμ6, h⟩ := h
    refine jr_V6v_1 jf_182_95 hb5 (by omega) (r_Chain_join (by omega) _ _ _ _ hμ6) (Nat.le_of_ble_eq_true rfl) jml_53 (by simp only [jcats_cons, jcats_nil, cat_int, cat_long, cat_double, cat_float, cat_ref, rv_cat]; decide) ?_
    refine jr_aload_A jf_182_98 (jg1_pre (by first | rfl | exact rv_cat _) jg1_same) ?_
    replace h := jon_or h; rcases h with ⟨rfl, h⟩ | ⟨a7, rfl, h⟩
    · refine jr_ifnull_n jf_182_100 ?_
      exact r_B_remade_117 hd iS i21 _ _ _ _ _ _ _ _ _ _ _ (jg1_ne rfl (jg1_ne rfl hl0)) (jg1_ne rfl (jg1_ne rfl hl1)) (jg1_ne rfl (jg1_ne rfl hl2)) (jg1_ne rfl (jg1_ne rfl hl3)) (jg1_ne rfl (jg1_ne rfl hl4)) (jg1_ne rfl (jg1_ne rfl hl5)) (jg1_ne rfl (jg1_ne rfl hl6)) h
    · refine jr_ifnull_s jf_182_100 ?_
      refine jr_aload jf_182_103 jg1_same ?_
      refine jr_aload jf_182_105 (jg1_pre (by first | rfl | exact rv_cat _) jg1_same) ?_
      replace h := obd_of h; obtain ⟨μ8, hμ8, h⟩ := h
      refine jr_putA (x := some _) jf_182_107 rfl hμ8 ?_
      refine jr_aload jf_182_110 (jg1_pre (by first | rfl | exact rv_cat _) jg1_same) ?_
      refine jr_aload jf_182_112 jg1_same ?_
      replace h := obd_of h; obtain ⟨μ9, hμ9, h⟩ := h
      refine jr_putA (x := some _) jf_182_114 rfl hμ9 ?_
      exact r_B_remade_117 hd iS i21 _ _ _ _ _ _ _ _ _ _ _ (jg1_ne rfl (jg1_ne rfl hl0)) (jg1_ne rfl (jg1_ne rfl hl1)) (jg1_ne rfl (jg1_ne rfl hl2)) (jg1_ne rfl (jg1_ne rfl hl3)) (jg1_ne rfl (jg1_ne rfl hl4)) (jg1_ne rfl (jg1_ne rfl hl5)) (jg1_ne rfl (jg1_ne rfl hl6)) h
set_option maxRecDepth 10000 in
set_option maxHeartbeats 4000000 in
theorem r_B_remade_21 {N B : Nat} {SA : Nat → Nat} {d : Nat} (hd : 6 ≤ d) {kS : Nat → Option Nat → Int32 → Option Nat → Int32 → JMem → Option (Option Nat × JMem)} (iS : ∀ (v0 : Nat) (v1 : Option Nat) (v2 : Int32) (v3 : Option Nat) (v4 : Int32) (μ : JMem) (r : Option Nat) (μ9 : JMem), kS v0 v1 v2 v3 v4 μ = some (r, μ9) → jR B SA (d - 1) m_B_remade 0 (lv_args 0 [.ref v0, rv v1, .int v2, rv v3, .int v4]) [] μ (some (rv r)) μ9) : ∀ (n : Nat), ∀ (L : JLoc) (v0 : Nat) (v1 : Option Nat) (v2 : Int32) (v3 : Option Nat) (v4 : Int32) (v5 : Nat) (v6 : Int32) (μ : JMem) (r : Option Nat) (μ9 : JMem), jget L 0 = .ref v0 → jget L 1 = rv v1 → jget L 2 = .int v2 → jget L 3 = rv v3 → jget L 4 = .int v4 → jget L 5 = .ref v5 → jget L 6 = .int v6 → g_B_remade_21 N B SA kS n v0 v1 v2 v3 v4 v5 v6 μ = some (r, μ9) → jR B SA d m_B_remade 21 L [] μ (some (rv r)) μ9 := by
  intro n
  induction n with
  | zero =>
    intro L v0 v1 v2 v3 v4 v5 v6 μ r μ9 hl0 hl1 hl2 hl3 hl4 hl5 hl6 h
    unfold g_B_remade_21 at h
    cases h
  | succ n ih =>
    intro L v0 v1 v2 v3 v4 v5 v6 μ r μ9 hl0 hl1 hl2 hl3 hl4 hl5 hl6 h
    unfold g_B_remade_21 at h
    refine jr_iload jf_182_21 hl6 ?_
    refine jr_aload_n_A jf_182_23 rfl hl1 ?_
    replace h := obd_of h; obtain ⟨a1, rfl, h⟩ := h
    replace h := obd_of h; obtain ⟨x2, hx2, h⟩ := h
    refine jr_getI jf_182_24 hx2 ?_
    replace h := ite_or h; rcases h with ⟨hc, h⟩ | ⟨hc, h⟩
    · refine jr_if2_ge_t jf_182_27 hc ?_
      refine jr_aload_n jf_182_123 rfl hl0 ?_
      refine jr_aload_n jf_182_124 rfl hl1 ?_
      refine jr_aload jf_182_125 hl5 ?_
      refine jr_aload_n_A jf_182_127 rfl hl3 ?_
      replace h := jgd_of h; obtain ⟨hb3, h⟩ := h
      replace h := obd_of h; obtain ⟨μ4, hμ4, h⟩ := h
      refine jr_V6v_3 jf_182_128 hb3 (by omega) (r_B_remakeLoops (by omega) _ _ _ _ _ _ hμ4) (Nat.le_of_ble_eq_true rfl) jml_184 (by simp only [jcats_cons, jcats_nil, cat_int, cat_long, cat_double, cat_float, cat_ref, rv_cat]; decide) ?_
      refine jr_aload_n jf_182_131 rfl hl0 ?_
      refine jr_aload jf_182_132 hl5 ?_
      replace h := jgd_of h; obtain ⟨hb5, h⟩ := h
      replace h := jbd2_of h; obtain ⟨x6, μ7, hx6, h⟩ := h
      refine jr_V6_1 jf_182_134 hb5 (by omega) (r_B_registered (by omega) _ _ _ _ _ hx6) (Nat.le_of_ble_eq_true rfl) jml_46 (by simp only [jcats_cons, jcats_nil, cat_int, cat_long, cat_double, cat_float, cat_ref, rv_cat]; decide) ?_
      refine jr_pop jf_182_137 rfl ?_
      refine jr_aload jf_182_138 hl5 ?_
      obtain ⟨rfl, rfl⟩ := Prod.mk.inj (Option.some.inj h)
      exact jr_retA (x := some _) jf_182_140 jmt_182
    · refine jr_if2_ge_f jf_182_27 hc ?_
      refine jr_aload_n jf_182_30 rfl hl1 ?_
      refine jr_iload jf_182_31 hl6 ?_
      replace h := jgd_of h; obtain ⟨hb8, h⟩ := h
      replace h := obd_of h; obtain ⟨x9, hx9, h⟩ := h
      refine jr_V6_1 jf_182_33 hb8 (by omega) (r_Chain_memberAt (by omega) _ _ _ _ hx9) (Nat.le_of_ble_eq_true rfl) jml_50 (Nat.le_of_ble_eq_true rfl) ?_
      refine jr_astore_A jf_182_36 jml_182 (by decide) ?_
      refine jr_aload_A jf_182_38 jg1_same ?_
      replace h := jon_or h; rcases h with ⟨rfl, h⟩ | ⟨a10, rfl, h⟩
      · refine jr_ifnonnull_n jf_182_40 ?_
        refine jr_aconst_null jf_182_43 ?_
        obtain ⟨rfl, rfl⟩ := Prod.mk.inj (Option.some.inj h)
        exact jr_retA jf_182_44 jmt_182
      · refine jr_ifnonnull_s jf_182_40 ?_
        refine jr_aload jf_182_45 jg1_same ?_
        replace h := obd_of h; obtain ⟨x11, hx11, h⟩ := h
        refine jr_getA jf_182_47 hx11 ?_
        replace h := jon_or h; rcases h with ⟨rfl, h⟩ | ⟨a12, rfl, h⟩
        · refine jr_ifnonnull_n jf_182_50 ?_
          refine jr_aconst_null jf_182_53 ?_
          refine jr_goto jf_182_54 ?_
          exact r_B_remade_72 hd iS ih _ _ _ _ _ _ _ _ _ _ _ _ _ (jg1_ne rfl hl0) (jg1_ne rfl hl1) (jg1_ne rfl hl2) (jg1_ne rfl hl3) (jg1_ne rfl hl4) (jg1_ne rfl hl5) (jg1_pre rfl hl6) jg1_same h
        · refine jr_ifnonnull_s jf_182_50 ?_
          refine jr_aload_n jf_182_57 rfl (jg1_ne rfl hl0) ?_
          refine jr_aload jf_182_58 jg1_same ?_
          replace h := obd_of h; obtain ⟨x13, hx13, h⟩ := h
          refine jr_getA jf_182_60 hx13 ?_
          refine jr_iload_n jf_182_63 rfl (jg1_ne rfl hl2) ?_
          refine jr_aload_n_A jf_182_64 rfl (jg1_ne rfl hl3) ?_
          refine jr_iload jf_182_65 (jg1_ne rfl hl4) ?_
          refine jr_iconst jf_182_67 jc_i_1 ?_
          refine jr_iadd jf_182_68 ?_
          replace h := jgd_of h; obtain ⟨hb14, h⟩ := h
          replace h := jbd2_of h; obtain ⟨x15, μ16, hx15, h⟩ := h
          refine jr_V6_4 jf_182_69 hb14 (by omega) (iS _ _ _ _ _ _ _ _ hx15) (Nat.le_of_ble_eq_true rfl) jml_182 (by simp only [jcats_cons, jcats_nil, cat_int, cat_long, cat_double, cat_float, cat_ref, rv_cat]; decide) ?_
          exact r_B_remade_72 hd iS ih _ _ _ _ _ _ _ _ _ _ _ _ _ (jg1_ne rfl hl0) (jg1_ne rfl hl1) (jg1_ne rfl hl2) (jg1_ne rfl hl3) (jg1_ne rfl hl4) (jg1_ne rfl hl5) (jg1_pre rfl hl6) jg1_same h
set_option maxRecDepth 10000 in
set_option maxHeartbeats 4000000 in
theorem r_B_remade_b {N B : Nat} {SA : Nat → Nat} {d : Nat} (hd : 6 ≤ d) {kS : Nat → Option Nat → Int32 → Option Nat → Int32 → JMem → Option (Option Nat × JMem)} (iS : ∀ (v0 : Nat) (v1 : Option Nat) (v2 : Int32) (v3 : Option Nat) (v4 : Int32) (μ : JMem) (r : Option Nat) (μ9 : JMem), kS v0 v1 v2 v3 v4 μ = some (r, μ9) → jR B SA (d - 1) m_B_remade 0 (lv_args 0 [.ref v0, rv v1, .int v2, rv v3, .int v4]) [] μ (some (rv r)) μ9) : ∀ (L : JLoc) (v0 : Nat) (v1 : Option Nat) (v2 : Int32) (v3 : Option Nat) (v4 : Int32) (μ : JMem) (r : Option Nat) (μ9 : JMem), jget L 0 = .ref v0 → jget L 1 = rv v1 → jget L 2 = .int v2 → jget L 3 = rv v3 → jget L 4 = .int v4 → g_B_remade_b N B SA kS v0 v1 v2 v3 v4 μ = some (r, μ9) → jR B SA d m_B_remade 0 L [] μ (some (rv r)) μ9 := by
  intro L v0 v1 v2 v3 v4 μ r μ9 hl0 hl1 hl2 hl3 hl4 h
  unfold g_B_remade_b at h
  refine jr_iload jf_182_0 hl4 ?_
  refine jr_bipush jf_182_2 jc_b_30 ?_
  replace h := ite_or h; rcases h with ⟨hc, h⟩ | ⟨hc, h⟩
  · refine jr_if2_le_t jf_182_4 hc ?_
    replace h := jnew_of h
    refine jr_new jf_182_9 ?_
    refine jr_dup jf_182_12 rfl ?_
    replace h := obd_of h; obtain ⟨μ3, hμ3, h⟩ := h
    refine jr_P2v_0 jf_182_13 (by omega) (r_Chain_init (by omega) _ _ _ hμ3) (Nat.le_of_ble_eq_true rfl) jml_45 (Nat.le_of_ble_eq_true rfl) ?_
    refine jr_astore jf_182_16 jml_182 (by decide) ?_
    refine jr_iconst jf_182_18 jc_i_0 ?_
    refine jr_istore jf_182_19 jml_182 (by decide) ?_
    exact r_B_remade_21 hd iS _ _ _ _ _ _ _ _ _ _ _ _ (jg1_ne rfl (jg1_ne rfl hl0)) (jg1_ne rfl (jg1_ne rfl hl1)) (jg1_ne rfl (jg1_ne rfl hl2)) (jg1_ne rfl (jg1_ne rfl hl3)) (jg1_ne rfl (jg1_pre rfl hl4)) (jg1_pre (by first | rfl | exact rv_cat _) jg1_same) jg1_same h
  · refine jr_if2_le_f jf_182_4 hc ?_
    refine jr_aconst_null jf_182_7 ?_
    obtain ⟨rfl, rfl⟩ := Prod.mk.inj (Option.some.inj h)
    exact jr_retA jf_182_8 jmt_182
set_option maxRecDepth 10000 in
set_option maxHeartbeats 4000000 in
theorem r_B_remade {N B : Nat} {SA : Nat → Nat} : ∀ (n d : Nat), n + 6 ≤ d → ∀ (v0 : Nat) (v1 : Option Nat) (v2 : Int32) (v3 : Option Nat) (v4 : Int32) (μ : JMem) (r : Option Nat) (μ9 : JMem), g_B_remade N B SA n v0 v1 v2 v3 v4 μ = some (r, μ9) → jR B SA d m_B_remade 0 (lv_args 0 [.ref v0, rv v1, .int v2, rv v3, .int v4]) [] μ (some (rv r)) μ9 := by
  intro n
  induction n with
  | zero =>
    intro d hd v0 v1 v2 v3 v4 μ r μ9 h
    unfold g_B_remade at h
    cases h
  | succ n ih =>
    intro d hd v0 v1 v2 v3 v4 μ r μ9 h
    unfold g_B_remade at h
    exact r_B_remade_b (by omega) (ih (d - 1) (by omega)) (lv_args 0 _) _ _ _ _ _ _ _ _ (by simp [lv_args, jget, rv_cat, cat_int, cat_long, cat_double, cat_float, cat_ref]) (by simp [lv_args, jget, rv_cat, cat_int, cat_long, cat_double, cat_float, cat_ref]) (by simp [lv_args, jget, rv_cat, cat_int, cat_long, cat_double, cat_float, cat_ref]) (by simp [lv_args, jget, rv_cat, cat_int, cat_long, cat_double, cat_float, cat_ref]) (by simp [lv_args, jget, rv_cat, cat_int, cat_long, cat_double, cat_float, cat_ref]) h
/-! FilterBench.convert(II)I -/
set_option maxRecDepth 10000 in
set_option maxHeartbeats 4000000 in
theorem r_B_convert_e {N M B : Nat} {SA : Nat → Nat} {d : Nat} (hd : M + 7 ≤ d) : ∀ (L : JLoc) (v0 : Nat) (v1 : Int32) (v2 : Int32) (μ : JMem) (r : Int32) (μ9 : JMem), jget L 0 = .ref v0 → jget L 1 = .int v1 → jget L 2 = .int v2 → g_B_convert N M B SA v0 v1 v2 μ = some (r, μ9) → jR B SA d m_B_convert 0 L [] μ (some (.int r)) μ9 := by
  intro L v0 v1 v2 μ r μ9 hl0 hl1 hl2 h
  unfold g_B_convert at h
  refine jr_aload_n jf_175_0 rfl hl0 ?_
  refine jr_iload_n jf_175_1 rfl hl1 ?_
  replace h := jgd_of h; obtain ⟨hb1, h⟩ := h
  replace h := obd_of h; obtain ⟨x2, hx2, h⟩ := h
  refine jr_V6_1 jf_175_2 hb1 (by omega) (r_B_fedAlone (by omega) _ _ _ _ hx2) (Nat.le_of_ble_eq_true rfl) jml_63 (Nat.le_of_ble_eq_true rfl) ?_
  refine jr_astore_n_A jf_175_5 rfl jml_175 (by decide) ?_
  refine jr_aload_n jf_175_6 rfl (jg1_ne rfl hl0) ?_
  refine jr_iload_n jf_175_7 rfl (jg1_pre rfl hl2) ?_
  replace h := jgd_of h; obtain ⟨hb3, h⟩ := h
  replace h := obd_of h; obtain ⟨x4, hx4, h⟩ := h
  refine jr_V6_1 jf_175_8 hb3 (by omega) (r_B_numbersOf (by omega) _ _ _ _ hx4) (Nat.le_of_ble_eq_true rfl) jml_6 (Nat.le_of_ble_eq_true rfl) ?_
  refine jr_astore_A jf_175_11 jml_175 (by decide) ?_
  refine jr_aload_n_A jf_175_13 rfl (jg1_pre (by first | rfl | exact rv_cat _) jg1_same) ?_
  replace h := jon_or h; rcases h with ⟨rfl, h⟩ | ⟨a5, rfl, h⟩
  · refine jr_ifnull_n jf_175_14 ?_
    refine jr_iconst jf_175_32 jc_i_m1 ?_
    obtain ⟨rfl, rfl⟩ := Prod.mk.inj (Option.some.inj h)
    exact jr_retI jf_175_33 jmt_175
  · refine jr_ifnull_s jf_175_14 ?_
    refine jr_aload_A jf_175_17 jg1_same ?_
    replace h := jon_or h; rcases h with ⟨rfl, h⟩ | ⟨a6, rfl, h⟩
    · refine jr_ifnull_n jf_175_19 ?_
      refine jr_iconst jf_175_32 jc_i_m1 ?_
      obtain ⟨rfl, rfl⟩ := Prod.mk.inj (Option.some.inj h)
      exact jr_retI jf_175_33 jmt_175
    · refine jr_ifnull_s jf_175_19 ?_
      refine jr_aload_n jf_175_22 rfl (jg1_ne rfl (jg1_ne rfl hl0)) ?_
      refine jr_aload_n jf_175_23 rfl (jg1_pre (by first | rfl | exact rv_cat _) jg1_same) ?_
      refine jr_aload jf_175_24 jg1_same ?_
      replace h := jgd_of h; obtain ⟨hb7, h⟩ := h
      replace h := jbd2_of h; obtain ⟨x8, μ9, hx8, h⟩ := h
      refine jr_V6_2 jf_175_26 hb7 (by omega) (r_B_canRemake (by omega) _ _ _ _ _ _ hx8) (Nat.le_of_ble_eq_true rfl) jml_176 (by simp only [jcats_cons, jcats_nil, cat_int, cat_long, cat_double, cat_float, cat_ref, rv_cat]; decide) ?_
      replace h := ite_or h; rcases h with ⟨hc, h⟩ | ⟨hc, h⟩
      · refine jr_ifz_ne_t jf_175_29 hc ?_
        refine jr_aload_n jf_175_34 rfl (jg1_ne rfl (jg1_ne rfl hl0)) ?_
        refine jr_aload_n jf_175_35 rfl (jg1_pre (by first | rfl | exact rv_cat _) jg1_same) ?_
        refine jr_iload_n jf_175_36 rfl (jg1_ne rfl (jg1_pre rfl hl2)) ?_
        refine jr_aload jf_175_37 jg1_same ?_
        refine jr_iconst jf_175_39 jc_i_0 ?_
        replace h := jgd_of h; obtain ⟨hb10, h⟩ := h
        replace h := jbd2_of h; obtain ⟨x11, μ12, hx11, h⟩ := h
        refine jr_V6_4 jf_175_40 hb10 (by omega) (r_B_remade M _ (by omega) _ _ _ _ _ _ _ _ hx11) (Nat.le_of_ble_eq_true rfl) jml_182 (by simp only [jcats_cons, jcats_nil, cat_int, cat_long, cat_double, cat_float, cat_ref, rv_cat]; decide) ?_
        replace h := obd_of h; obtain ⟨x13, hx13, h⟩ := h
        refine jr_S3_1 jf_175_43 (by omega) (r_B_numberOf (by omega) _ _ _ hx13) (Nat.le_of_ble_eq_true rfl) jml_41 (by simp only [jcats_cons, jcats_nil, cat_int, cat_long, cat_double, cat_float, cat_ref, rv_cat]; decide) ?_
        obtain ⟨rfl, rfl⟩ := Prod.mk.inj (Option.some.inj h)
        exact jr_retI jf_175_46 jmt_175
      · refine jr_ifz_ne_f jf_175_29 hc ?_
        refine jr_iconst jf_175_32 jc_i_m1 ?_
        obtain ⟨rfl, rfl⟩ := Prod.mk.inj (Option.some.inj h)
        exact jr_retI jf_175_33 jmt_175
set_option maxRecDepth 10000 in
set_option maxHeartbeats 4000000 in
theorem r_B_convert {N M B : Nat} {SA : Nat → Nat} {d : Nat} (hd : M + 7 ≤ d) : ∀ (v0 : Nat) (v1 : Int32) (v2 : Int32) (μ : JMem) (r : Int32) (μ9 : JMem), g_B_convert N M B SA v0 v1 v2 μ = some (r, μ9) → jR B SA d m_B_convert 0 (lv_args 0 [.ref v0, .int v1, .int v2]) [] μ (some (.int r)) μ9 := by
  intro v0 v1 v2 μ r μ9 h
  exact r_B_convert_e hd (lv_args 0 _) _ _ _ _ _ _ (by simp [lv_args, jget, rv_cat, cat_int, cat_long, cat_double, cat_float, cat_ref]) (by simp [lv_args, jget, rv_cat, cat_int, cat_long, cat_double, cat_float, cat_ref]) (by simp [lv_args, jget, rv_cat, cat_int, cat_long, cat_double, cat_float, cat_ref]) h
/-! FilterBenchModel.<init>()V -/
set_option maxRecDepth 10000 in
set_option maxHeartbeats 4000000 in
theorem r_R_init_e {B : Nat} {SA : Nat → Nat} {d : Nat} (hd : 1 ≤ d) : ∀ (L : JLoc) (v0 : Nat) (μ : JMem) (μ9 : JMem), jget L 0 = .ref v0 → g_R_init B v0 μ = some μ9 → jR B SA d m_R_init 0 L [] μ none μ9 := by
  intro L v0 μ μ9 hl0 h
  unfold g_R_init at h
  refine jr_aload_n jf_185_0 rfl hl0 ?_
  refine jr_oinit jf_185_1 (by omega) (Nat.le_of_ble_eq_true rfl) ?_
  refine jr_aload_n jf_185_4 rfl hl0 ?_
  refine jr_bipush jf_185_5 jc_b_60 ?_
  replace h := jbd2_of h; obtain ⟨a1, μ2, ha1, h⟩ := h
  refine jr_newarray jf_185_7 rfl ha1 ?_
  replace h := obd_of h; obtain ⟨μ3, hμ3, h⟩ := h
  refine jr_putA (x := some _) jf_185_9 rfl hμ3 ?_
  refine jr_aload_n jf_185_12 rfl hl0 ?_
  refine jr_bipush jf_185_13 jc_b_60 ?_
  replace h := jbd2_of h; obtain ⟨a4, μ5, ha4, h⟩ := h
  refine jr_newarray jf_185_15 rfl ha4 ?_
  replace h := obd_of h; obtain ⟨μ6, hμ6, h⟩ := h
  refine jr_putA (x := some _) jf_185_17 rfl hμ6 ?_
  refine jr_aload_n jf_185_20 rfl hl0 ?_
  refine jr_bipush jf_185_21 jc_b_60 ?_
  replace h := jbd2_of h; obtain ⟨a7, μ8, ha7, h⟩ := h
  refine jr_newarray jf_185_23 rfl ha7 ?_
  replace h := obd_of h; obtain ⟨μ9, hμ9, h⟩ := h
  refine jr_putA (x := some _) jf_185_25 rfl hμ9 ?_
  refine jr_aload_n jf_185_28 rfl hl0 ?_
  refine jr_bipush jf_185_29 jc_b_60 ?_
  replace h := jbd2_of h; obtain ⟨a10, μ11, ha10, h⟩ := h
  refine jr_newarray jf_185_31 rfl ha10 ?_
  replace h := obd_of h; obtain ⟨μ12, hμ12, h⟩ := h
  refine jr_putA (x := some _) jf_185_33 rfl hμ12 ?_
  refine jr_aload_n jf_185_36 rfl hl0 ?_
  refine jr_bipush jf_185_37 jc_b_60 ?_
  replace h := jbd2_of h; obtain ⟨a13, μ14, ha13, h⟩ := h
  refine jr_newarray jf_185_39 rfl ha13 ?_
  replace h := obd_of h; obtain ⟨μ15, hμ15, h⟩ := h
  refine jr_putA (x := some _) jf_185_41 rfl hμ15 ?_
  refine jr_aload_n jf_185_44 rfl hl0 ?_
  refine jr_sipush jf_185_45 jc_s_300 ?_
  replace h := jbd2_of h; obtain ⟨a16, μ17, ha16, h⟩ := h
  refine jr_newarray jf_185_48 rfl ha16 ?_
  replace h := obd_of h; obtain ⟨μ18, hμ18, h⟩ := h
  refine jr_putA (x := some _) jf_185_50 rfl hμ18 ?_
  refine jr_aload_n jf_185_53 rfl hl0 ?_
  refine jr_bipush jf_185_54 jc_b_60 ?_
  replace h := jbd2_of h; obtain ⟨a19, μ20, ha19, h⟩ := h
  refine jr_newarray jf_185_56 rfl ha19 ?_
  replace h := obd_of h; obtain ⟨μ21, hμ21, h⟩ := h
  refine jr_putA (x := some _) jf_185_58 rfl hμ21 ?_
  refine jr_aload_n jf_185_61 rfl hl0 ?_
  refine jr_bipush jf_185_62 jc_b_60 ?_
  replace h := jbd2_of h; obtain ⟨a22, μ23, ha22, h⟩ := h
  refine jr_newarray jf_185_64 rfl ha22 ?_
  replace h := obd_of h; obtain ⟨μ24, hμ24, h⟩ := h
  refine jr_putA (x := some _) jf_185_66 rfl hμ24 ?_
  refine jr_aload_n jf_185_69 rfl hl0 ?_
  refine jr_bipush jf_185_70 jc_b_60 ?_
  replace h := jbd2_of h; obtain ⟨a25, μ26, ha25, h⟩ := h
  refine jr_newarray jf_185_72 rfl ha25 ?_
  replace h := obd_of h; obtain ⟨μ27, hμ27, h⟩ := h
  refine jr_putA (x := some _) jf_185_74 rfl hμ27 ?_
  refine jr_aload_n jf_185_77 rfl hl0 ?_
  refine jr_bipush jf_185_78 jc_b_60 ?_
  replace h := jbd2_of h; obtain ⟨a28, μ29, ha28, h⟩ := h
  refine jr_newarray jf_185_80 rfl ha28 ?_
  replace h := obd_of h; obtain ⟨μ30, hμ30, h⟩ := h
  refine jr_putA (x := some _) jf_185_82 rfl hμ30 ?_
  refine jr_aload_n jf_185_85 rfl hl0 ?_
  refine jr_bipush jf_185_86 jc_b_60 ?_
  replace h := jbd2_of h; obtain ⟨a31, μ32, ha31, h⟩ := h
  refine jr_newarray jf_185_88 rfl ha31 ?_
  replace h := obd_of h; obtain ⟨μ33, hμ33, h⟩ := h
  refine jr_putA (x := some _) jf_185_90 rfl hμ33 ?_
  refine jr_aload_n jf_185_93 rfl hl0 ?_
  refine jr_sipush jf_185_94 jc_s_3840 ?_
  replace h := jbd2_of h; obtain ⟨a34, μ35, ha34, h⟩ := h
  refine jr_newarray jf_185_97 rfl ha34 ?_
  replace h := obd_of h; obtain ⟨μ36, hμ36, h⟩ := h
  refine jr_putA (x := some _) jf_185_99 rfl hμ36 ?_
  refine jr_aload_n jf_185_102 rfl hl0 ?_
  refine jr_bipush jf_185_103 jc_b_60 ?_
  replace h := jbd2_of h; obtain ⟨a37, μ38, ha37, h⟩ := h
  refine jr_newarray jf_185_105 rfl ha37 ?_
  replace h := obd_of h; obtain ⟨μ39, hμ39, h⟩ := h
  refine jr_putA (x := some _) jf_185_107 rfl hμ39 ?_
  refine jr_aload_n jf_185_110 rfl hl0 ?_
  refine jr_bipush jf_185_111 jc_b_60 ?_
  replace h := jbd2_of h; obtain ⟨a40, μ41, ha40, h⟩ := h
  refine jr_newarray jf_185_113 rfl ha40 ?_
  replace h := obd_of h; obtain ⟨μ42, hμ42, h⟩ := h
  refine jr_putA (x := some _) jf_185_115 rfl hμ42 ?_
  refine jr_aload_n jf_185_118 rfl hl0 ?_
  refine jr_bipush jf_185_119 jc_b_20 ?_
  replace h := jbd2_of h; obtain ⟨a43, μ44, ha43, h⟩ := h
  refine jr_newarray jf_185_121 rfl ha43 ?_
  replace h := obd_of h; obtain ⟨μ45, hμ45, h⟩ := h
  refine jr_putA (x := some _) jf_185_123 rfl hμ45 ?_
  refine jr_aload_n jf_185_126 rfl hl0 ?_
  refine jr_sipush jf_185_127 jc_s_200 ?_
  replace h := jbd2_of h; obtain ⟨a46, μ47, ha46, h⟩ := h
  refine jr_newarray jf_185_130 rfl ha46 ?_
  replace h := obd_of h; obtain ⟨μ48, hμ48, h⟩ := h
  refine jr_putA (x := some _) jf_185_132 rfl hμ48 ?_
  refine jr_aload_n jf_185_135 rfl hl0 ?_
  refine jr_bipush jf_185_136 jc_b_20 ?_
  replace h := jbd2_of h; obtain ⟨a49, μ50, ha49, h⟩ := h
  refine jr_newarray jf_185_138 rfl ha49 ?_
  replace h := obd_of h; obtain ⟨μ51, hμ51, h⟩ := h
  refine jr_putA (x := some _) jf_185_140 rfl hμ51 ?_
  refine jr_aload_n jf_185_143 rfl hl0 ?_
  refine jr_bipush jf_185_144 jc_b_20 ?_
  replace h := jbd2_of h; obtain ⟨a52, μ53, ha52, h⟩ := h
  refine jr_newarray jf_185_146 rfl ha52 ?_
  replace h := obd_of h; obtain ⟨μ54, hμ54, h⟩ := h
  refine jr_putA (x := some _) jf_185_148 rfl hμ54 ?_
  refine jr_aload_n jf_185_151 rfl hl0 ?_
  refine jr_bipush jf_185_152 jc_b_60 ?_
  replace h := jbd2_of h; obtain ⟨a55, μ56, ha55, h⟩ := h
  refine jr_newarray jf_185_154 rfl ha55 ?_
  replace h := obd_of h; obtain ⟨μ57, hμ57, h⟩ := h
  refine jr_putA (x := some _) jf_185_156 rfl hμ57 ?_
  refine jr_aload_n jf_185_159 rfl hl0 ?_
  refine jr_bipush jf_185_160 jc_b_60 ?_
  replace h := jbd2_of h; obtain ⟨a58, μ59, ha58, h⟩ := h
  refine jr_newarray jf_185_162 rfl ha58 ?_
  replace h := obd_of h; obtain ⟨μ60, hμ60, h⟩ := h
  refine jr_putA (x := some _) jf_185_164 rfl hμ60 ?_
  refine jr_aload_n jf_185_167 rfl hl0 ?_
  refine jr_bipush jf_185_168 jc_b_60 ?_
  replace h := jbd2_of h; obtain ⟨a61, μ62, ha61, h⟩ := h
  refine jr_newarray jf_185_170 rfl ha61 ?_
  replace h := obd_of h; obtain ⟨μ63, hμ63, h⟩ := h
  refine jr_putA (x := some _) jf_185_172 rfl hμ63 ?_
  refine jr_aload_n jf_185_175 rfl hl0 ?_
  refine jr_bipush jf_185_176 jc_b_60 ?_
  replace h := jbd2_of h; obtain ⟨a64, μ65, ha64, h⟩ := h
  refine jr_newarray jf_185_178 rfl ha64 ?_
  replace h := obd_of h; obtain ⟨μ66, hμ66, h⟩ := h
  refine jr_putA (x := some _) jf_185_180 rfl hμ66 ?_
  refine jr_aload_n jf_185_183 rfl hl0 ?_
  refine jr_sipush jf_185_184 jc_s_3840 ?_
  replace h := jbd2_of h; obtain ⟨a67, μ68, ha67, h⟩ := h
  refine jr_newarray jf_185_187 rfl ha67 ?_
  replace h := obd_of h; obtain ⟨μ69, hμ69, h⟩ := h
  refine jr_putA (x := some _) jf_185_189 rfl hμ69 ?_
  refine jr_aload_n jf_185_192 rfl hl0 ?_
  refine jr_bipush jf_185_193 jc_b_60 ?_
  replace h := jbd2_of h; obtain ⟨a70, μ71, ha70, h⟩ := h
  refine jr_newarray jf_185_195 rfl ha70 ?_
  replace h := obd_of h; obtain ⟨μ72, hμ72, h⟩ := h
  refine jr_putA (x := some _) jf_185_197 rfl hμ72 ?_
  refine jr_aload_n jf_185_200 rfl hl0 ?_
  refine jr_sipush jf_185_201 jc_s_8000 ?_
  replace h := jbd2_of h; obtain ⟨a73, μ74, ha73, h⟩ := h
  refine jr_newarray jf_185_204 rfl ha73 ?_
  replace h := obd_of h; obtain ⟨μ75, hμ75, h⟩ := h
  refine jr_putA (x := some _) jf_185_206 rfl hμ75 ?_
  refine jr_aload_n jf_185_209 rfl hl0 ?_
  refine jr_bipush jf_185_210 jc_b_20 ?_
  replace h := jbd2_of h; obtain ⟨a76, μ77, ha76, h⟩ := h
  refine jr_newarray jf_185_212 rfl ha76 ?_
  replace h := obd_of h; obtain ⟨μ78, hμ78, h⟩ := h
  refine jr_putA (x := some _) jf_185_214 rfl hμ78 ?_
  refine jr_aload_n jf_185_217 rfl hl0 ?_
  refine jr_bipush jf_185_218 jc_b_40 ?_
  replace h := jbd2_of h; obtain ⟨a79, μ80, ha79, h⟩ := h
  refine jr_newarray jf_185_220 rfl ha79 ?_
  replace h := obd_of h; obtain ⟨μ81, hμ81, h⟩ := h
  refine jr_putA (x := some _) jf_185_222 rfl hμ81 ?_
  refine jr_aload_n jf_185_225 rfl hl0 ?_
  refine jr_bipush jf_185_226 jc_b_40 ?_
  replace h := jbd2_of h; obtain ⟨a82, μ83, ha82, h⟩ := h
  refine jr_newarray jf_185_228 rfl ha82 ?_
  replace h := obd_of h; obtain ⟨μ84, hμ84, h⟩ := h
  refine jr_putA (x := some _) jf_185_230 rfl hμ84 ?_
  refine jr_aload_n jf_185_233 rfl hl0 ?_
  refine jr_bipush jf_185_234 jc_b_40 ?_
  replace h := jbd2_of h; obtain ⟨a85, μ86, ha85, h⟩ := h
  refine jr_newarray jf_185_236 rfl ha85 ?_
  replace h := obd_of h; obtain ⟨μ87, hμ87, h⟩ := h
  refine jr_putA (x := some _) jf_185_238 rfl hμ87 ?_
  refine jr_aload_n jf_185_241 rfl hl0 ?_
  refine jr_bipush jf_185_242 jc_b_40 ?_
  replace h := jbd2_of h; obtain ⟨a88, μ89, ha88, h⟩ := h
  refine jr_newarray jf_185_244 rfl ha88 ?_
  replace h := obd_of h; obtain ⟨μ90, hμ90, h⟩ := h
  refine jr_putA (x := some _) jf_185_246 rfl hμ90 ?_
  refine jr_aload_n jf_185_249 rfl hl0 ?_
  refine jr_bipush jf_185_250 jc_b_20 ?_
  replace h := jbd2_of h; obtain ⟨a91, μ92, ha91, h⟩ := h
  refine jr_newarray jf_185_252 rfl ha91 ?_
  replace h := obd_of h; obtain ⟨μ93, hμ93, h⟩ := h
  refine jr_putA (x := some _) jf_185_254 rfl hμ93 ?_
  refine jr_aload_n jf_185_257 rfl hl0 ?_
  refine jr_bipush jf_185_258 jc_b_8 ?_
  replace h := jbd2_of h; obtain ⟨a94, μ95, ha94, h⟩ := h
  refine jr_newarray jf_185_260 rfl ha94 ?_
  replace h := obd_of h; obtain ⟨μ96, hμ96, h⟩ := h
  refine jr_putA (x := some _) jf_185_262 rfl hμ96 ?_
  refine jr_aload_n jf_185_265 rfl hl0 ?_
  refine jr_sipush jf_185_266 jc_s_30720 ?_
  replace h := jbd2_of h; obtain ⟨a97, μ98, ha97, h⟩ := h
  refine jr_newarray jf_185_269 rfl ha97 ?_
  replace h := obd_of h; obtain ⟨μ99, hμ99, h⟩ := h
  refine jr_putA (x := some _) jf_185_271 rfl hμ99 ?_
  refine jr_aload_n jf_185_274 rfl hl0 ?_
  refine jr_sipush jf_185_275 jc_s_480 ?_
  replace h := jbd2_of h; obtain ⟨a100, μ101, ha100, h⟩ := h
  refine jr_newarray jf_185_278 rfl ha100 ?_
  replace h := obd_of h; obtain ⟨μ102, hμ102, h⟩ := h
  refine jr_putA (x := some _) jf_185_280 rfl hμ102 ?_
  refine jr_aload_n jf_185_283 rfl hl0 ?_
  refine jr_sipush jf_185_284 jc_s_480 ?_
  replace h := jbd2_of h; obtain ⟨a103, μ104, ha103, h⟩ := h
  refine jr_newarray jf_185_287 rfl ha103 ?_
  replace h := obd_of h; obtain ⟨μ105, hμ105, h⟩ := h
  refine jr_putA (x := some _) jf_185_289 rfl hμ105 ?_
  refine jr_aload_n jf_185_292 rfl hl0 ?_
  refine jr_sipush jf_185_293 jc_s_30720 ?_
  replace h := jbd2_of h; obtain ⟨a106, μ107, ha106, h⟩ := h
  refine jr_newarray jf_185_296 rfl ha106 ?_
  replace h := obd_of h; obtain ⟨μ108, hμ108, h⟩ := h
  refine jr_putA (x := some _) jf_185_298 rfl hμ108 ?_
  refine jr_aload_n jf_185_301 rfl hl0 ?_
  refine jr_sipush jf_185_302 jc_s_480 ?_
  replace h := jbd2_of h; obtain ⟨a109, μ110, ha109, h⟩ := h
  refine jr_newarray jf_185_305 rfl ha109 ?_
  replace h := obd_of h; obtain ⟨μ111, hμ111, h⟩ := h
  refine jr_putA (x := some _) jf_185_307 rfl hμ111 ?_
  refine jr_aload_n jf_185_310 rfl hl0 ?_
  refine jr_sipush jf_185_311 jc_s_160 ?_
  replace h := jbd2_of h; obtain ⟨a112, μ113, ha112, h⟩ := h
  refine jr_newarray jf_185_314 rfl ha112 ?_
  replace h := obd_of h; obtain ⟨μ114, hμ114, h⟩ := h
  refine jr_putA (x := some _) jf_185_316 rfl hμ114 ?_
  refine jr_aload_n jf_185_319 rfl hl0 ?_
  refine jr_sipush jf_185_320 jc_s_160 ?_
  replace h := jbd2_of h; obtain ⟨a115, μ116, ha115, h⟩ := h
  refine jr_newarray jf_185_323 rfl ha115 ?_
  replace h := obd_of h; obtain ⟨μ117, hμ117, h⟩ := h
  refine jr_putA (x := some _) jf_185_325 rfl hμ117 ?_
  refine jr_aload_n jf_185_328 rfl hl0 ?_
  refine jr_sipush jf_185_329 jc_s_480 ?_
  replace h := jbd2_of h; obtain ⟨a118, μ119, ha118, h⟩ := h
  refine jr_newarray jf_185_332 rfl ha118 ?_
  replace h := obd_of h; obtain ⟨μ120, hμ120, h⟩ := h
  refine jr_putA (x := some _) jf_185_334 rfl hμ120 ?_
  refine jr_aload_n jf_185_337 rfl hl0 ?_
  refine jr_ldc jf_185_338 ?_
  replace h := jbd2_of h; obtain ⟨a121, μ122, ha121, h⟩ := h
  refine jr_newarray jf_185_340 rfl ha121 ?_
  replace h := obd_of h; obtain ⟨μ123, hμ123, h⟩ := h
  refine jr_putA (x := some _) jf_185_342 rfl hμ123 ?_
  refine jr_aload_n jf_185_345 rfl hl0 ?_
  refine jr_ldc jf_185_346 ?_
  replace h := jbd2_of h; obtain ⟨a124, μ125, ha124, h⟩ := h
  refine jr_newarray jf_185_348 rfl ha124 ?_
  replace h := obd_of h; obtain ⟨μ126, hμ126, h⟩ := h
  refine jr_putA (x := some _) jf_185_350 rfl hμ126 ?_
  refine jr_aload_n jf_185_353 rfl hl0 ?_
  refine jr_ldc jf_185_354 ?_
  replace h := jbd2_of h; obtain ⟨a127, μ128, ha127, h⟩ := h
  refine jr_newarray jf_185_356 rfl ha127 ?_
  replace h := obd_of h; obtain ⟨μ129, hμ129, h⟩ := h
  refine jr_putA (x := some _) jf_185_358 rfl hμ129 ?_
  refine jr_aload_n jf_185_361 rfl hl0 ?_
  refine jr_ldc jf_185_362 ?_
  replace h := jbd2_of h; obtain ⟨a130, μ131, ha130, h⟩ := h
  refine jr_newarray jf_185_364 rfl ha130 ?_
  replace h := obd_of h; obtain ⟨μ132, hμ132, h⟩ := h
  refine jr_putA (x := some _) jf_185_366 rfl hμ132 ?_
  refine jr_aload_n jf_185_369 rfl hl0 ?_
  refine jr_ldc jf_185_370 ?_
  replace h := jbd2_of h; obtain ⟨a133, μ134, ha133, h⟩ := h
  refine jr_newarray jf_185_372 rfl ha133 ?_
  replace h := obd_of h; obtain ⟨μ135, hμ135, h⟩ := h
  refine jr_putA (x := some _) jf_185_374 rfl hμ135 ?_
  refine jr_aload_n jf_185_377 rfl hl0 ?_
  refine jr_bipush jf_185_378 jc_b_60 ?_
  replace h := jbd2_of h; obtain ⟨a136, μ137, ha136, h⟩ := h
  refine jr_newarray jf_185_380 rfl ha136 ?_
  replace h := obd_of h; obtain ⟨μ138, hμ138, h⟩ := h
  refine jr_putA (x := some _) jf_185_382 rfl hμ138 ?_
  refine jr_aload_n jf_185_385 rfl hl0 ?_
  refine jr_bipush jf_185_386 jc_b_20 ?_
  replace h := jbd2_of h; obtain ⟨a139, μ140, ha139, h⟩ := h
  refine jr_newarray jf_185_388 rfl ha139 ?_
  replace h := obd_of h; obtain ⟨μ141, hμ141, h⟩ := h
  refine jr_putA (x := some _) jf_185_390 rfl hμ141 ?_
  refine jr_aload_n jf_185_393 rfl hl0 ?_
  refine jr_bipush jf_185_394 jc_b_20 ?_
  replace h := jbd2_of h; obtain ⟨a142, μ143, ha142, h⟩ := h
  refine jr_newarray jf_185_396 rfl ha142 ?_
  replace h := obd_of h; obtain ⟨μ144, hμ144, h⟩ := h
  refine jr_putA (x := some _) jf_185_398 rfl hμ144 ?_
  refine jr_aload_n jf_185_401 rfl hl0 ?_
  refine jr_bipush jf_185_402 jc_b_20 ?_
  replace h := jbd2_of h; obtain ⟨a145, μ146, ha145, h⟩ := h
  refine jr_newarray jf_185_404 rfl ha145 ?_
  replace h := obd_of h; obtain ⟨μ147, hμ147, h⟩ := h
  refine jr_putA (x := some _) jf_185_406 rfl hμ147 ?_
  refine jr_aload_n jf_185_409 rfl hl0 ?_
  refine jr_iconst jf_185_410 jc_i_m1 ?_
  replace h := obd_of h; obtain ⟨μ148, hμ148, h⟩ := h
  refine jr_putI jf_185_411 rfl hμ148 ?_
  obtain rfl := Option.some.inj h
  exact jr_return jf_185_414 jmt_185
set_option maxRecDepth 10000 in
set_option maxHeartbeats 4000000 in
theorem r_R_init {B : Nat} {SA : Nat → Nat} {d : Nat} (hd : 1 ≤ d) : ∀ (v0 : Nat) (μ : JMem) (μ9 : JMem), g_R_init B v0 μ = some μ9 → jR B SA d m_R_init 0 (lv_args 0 [.ref v0]) [] μ none μ9 := by
  intro v0 μ μ9 h
  exact r_R_init_e hd (lv_args 0 _) _ _ _ (by simp [lv_args, jget, rv_cat, cat_int, cat_long, cat_double, cat_float, cat_ref]) h
/-! FilterBenchModel.in(III)Z -/
set_option maxRecDepth 10000 in
set_option maxHeartbeats 4000000 in
theorem r_R_in_e {B : Nat} {SA : Nat → Nat} {d : Nat} (hd : 0 ≤ d) : ∀ (L : JLoc) (v0 : Int32) (v1 : Int32) (v2 : Int32) (μ : JMem) (r : Bool), jget L 0 = .int v0 → jget L 1 = .int v1 → jget L 2 = .int v2 → g_R_in v0 v1 v2 = r → jR B SA d m_R_in 0 L [] μ (some (.int (jb r))) μ := by
  intro L v0 v1 v2 μ r hl0 hl1 hl2 h
  unfold g_R_in at h
  refine jr_iload_n jf_187_0 rfl hl0 ?_
  refine jr_iload_n jf_187_1 rfl hl1 ?_
  replace h := ite_or h; rcases h with ⟨hc, h⟩ | ⟨hc, h⟩
  · refine jr_if2_lt_t jf_187_2 hc ?_
    refine jr_iconst jf_187_14 jc_i_0 ?_
    subst h
    exact jr_retZ (x := false) jf_187_15 jmt_187
  · refine jr_if2_lt_f jf_187_2 hc ?_
    refine jr_iload_n jf_187_5 rfl hl0 ?_
    refine jr_iload_n jf_187_6 rfl hl2 ?_
    replace h := ite_or h; rcases h with ⟨hc, h⟩ | ⟨hc, h⟩
    · refine jr_if2_gt_t jf_187_7 hc ?_
      refine jr_iconst jf_187_14 jc_i_0 ?_
      subst h
      exact jr_retZ (x := false) jf_187_15 jmt_187
    · refine jr_if2_gt_f jf_187_7 hc ?_
      refine jr_iconst jf_187_10 jc_i_1 ?_
      refine jr_goto jf_187_11 ?_
      subst h
      exact jr_retZ (x := true) jf_187_15 jmt_187
set_option maxRecDepth 10000 in
set_option maxHeartbeats 4000000 in
theorem r_R_in {B : Nat} {SA : Nat → Nat} {d : Nat} (hd : 0 ≤ d) : ∀ (v0 : Int32) (v1 : Int32) (v2 : Int32) (μ : JMem) (r : Bool), g_R_in v0 v1 v2 = r → jR B SA d m_R_in 0 (lv_args 0 [.int v0, .int v1, .int v2]) [] μ (some (.int (jb r))) μ := by
  intro v0 v1 v2 μ r h
  exact r_R_in_e hd (lv_args 0 _) _ _ _ _ _ (by simp [lv_args, jget, rv_cat, cat_int, cat_long, cat_double, cat_float, cat_ref]) (by simp [lv_args, jget, rv_cat, cat_int, cat_long, cat_double, cat_float, cat_ref]) (by simp [lv_args, jget, rv_cat, cat_int, cat_long, cat_double, cat_float, cat_ref]) h
/-! FilterBenchModel.isLength(II)Z -/
set_option maxRecDepth 10000 in
set_option maxHeartbeats 4000000 in
theorem r_R_isLength_12 {B : Nat} {SA : Nat → Nat} {d : Nat} (hd : 1 ≤ d) : ∀ (L : JLoc) (v1 : Int32) (μ : JMem) (r : Bool), jget L 1 = .int v1 → g_R_isLength_12 v1 = r → jR B SA d m_R_isLength 12 L [] μ (some (.int (jb r))) μ := by
  intro L v1 μ r hl1 h
  unfold g_R_isLength_12 at h
  refine jr_iload_n jf_188_12 rfl hl1 ?_
  refine jr_iconst jf_188_13 jc_i_1 ?_
  refine jr_bipush jf_188_14 jc_b_64 ?_
  refine jr_S3_3 jf_188_16 (by omega) (r_R_in (by omega) _ _ _ _ _ rfl) (Nat.le_of_ble_eq_true rfl) jml_187 (Nat.le_of_ble_eq_true rfl) ?_
  subst h
  exact jr_retZ jf_188_19 jmt_188
set_option maxRecDepth 10000 in
set_option maxHeartbeats 4000000 in
theorem r_R_isLength_55 {B : Nat} {SA : Nat → Nat} {d : Nat} (hd : 1 ≤ d) : ∀ (L : JLoc) (μ : JMem) (r : Bool), g_R_isLength_55 = r → jR B SA d m_R_isLength 55 L [] μ (some (.int (jb r))) μ := by
  intro L μ r h
  unfold g_R_isLength_55 at h
  refine jr_iconst jf_188_55 jc_i_1 ?_
  refine jr_goto jf_188_56 ?_
  subst h
  exact jr_retZ (x := true) jf_188_60 jmt_188
set_option maxRecDepth 10000 in
set_option maxHeartbeats 4000000 in
theorem r_R_isLength_e {B : Nat} {SA : Nat → Nat} {d : Nat} (hd : 1 ≤ d) : ∀ (L : JLoc) (v0 : Int32) (v1 : Int32) (μ : JMem) (r : Bool), jget L 0 = .int v0 → jget L 1 = .int v1 → g_R_isLength v0 v1 = r → jR B SA d m_R_isLength 0 L [] μ (some (.int (jb r))) μ := by
  intro L v0 v1 μ r hl0 hl1 h
  unfold g_R_isLength at h
  refine jr_iload_n jf_188_0 rfl hl0 ?_
  refine jr_bipush jf_188_1 jc_b_6 ?_
  replace h := ite_or h; rcases h with ⟨hc, h⟩ | ⟨hc, h⟩
  · refine jr_if2_eq_t jf_188_3 hc ?_
    exact r_R_isLength_12 hd _ _ _ _ hl1 h
  · refine jr_if2_eq_f jf_188_3 hc ?_
    refine jr_iload_n jf_188_6 rfl hl0 ?_
    refine jr_bipush jf_188_7 jc_b_8 ?_
    replace h := ite_or h; rcases h with ⟨hc, h⟩ | ⟨hc, h⟩
    · refine jr_if2_ne_f jf_188_9 hc ?_
      exact r_R_isLength_12 hd _ _ _ _ hl1 h
    · refine jr_if2_ne_t jf_188_9 hc ?_
      refine jr_iload_n jf_188_20 rfl hl0 ?_
      refine jr_bipush jf_188_21 jc_b_7 ?_
      replace h := ite_or h; rcases h with ⟨hc, h⟩ | ⟨hc, h⟩
      · refine jr_if2_ne_f jf_188_23 hc ?_
        refine jr_iload_n jf_188_26 rfl hl1 ?_
        refine jr_iconst jf_188_27 jc_i_1 ?_
        refine jr_bipush jf_188_28 jc_b_32 ?_
        refine jr_S3_3 jf_188_30 (by omega) (r_R_in (by omega) _ _ _ _ _ rfl) (Nat.le_of_ble_eq_true rfl) jml_187 (Nat.le_of_ble_eq_true rfl) ?_
        subst h
        exact jr_retZ jf_188_33 jmt_188
      · refine jr_if2_ne_t jf_188_23 hc ?_
        refine jr_iload_n jf_188_34 rfl hl0 ?_
        refine jr_bipush jf_188_35 jc_b_12 ?_
        refine jr_bipush jf_188_37 jc_b_14 ?_
        refine jr_S3_3 jf_188_39 (by omega) (r_R_in (by omega) _ _ _ _ _ rfl) (Nat.le_of_ble_eq_true rfl) jml_187 (Nat.le_of_ble_eq_true rfl) ?_
        replace h := ite_or h; rcases h with ⟨hc, h⟩ | ⟨hc, h⟩
        · refine jr_ifz_eq_f jf_188_42 hc ?_
          refine jr_iload_n jf_188_45 rfl hl1 ?_
          refine jr_iconst jf_188_46 jc_i_2 ?_
          refine jr_bipush jf_188_47 jc_b_8 ?_
          refine jr_S3_3 jf_188_49 (by omega) (r_R_in (by omega) _ _ _ _ _ rfl) (Nat.le_of_ble_eq_true rfl) jml_187 (Nat.le_of_ble_eq_true rfl) ?_
          replace h := ite_or h; rcases h with ⟨hc, h⟩ | ⟨hc, h⟩
          · refine jr_ifz_eq_f jf_188_52 hc ?_
            exact r_R_isLength_55 hd _  _ _ h
          · refine jr_ifz_eq_t jf_188_52 hc ?_
            refine jr_iconst jf_188_59 jc_i_0 ?_
            subst h
            exact jr_retZ (x := false) jf_188_60 jmt_188
        · refine jr_ifz_eq_t jf_188_42 hc ?_
          exact r_R_isLength_55 hd _  _ _ h
set_option maxRecDepth 10000 in
set_option maxHeartbeats 4000000 in
theorem r_R_isLength {B : Nat} {SA : Nat → Nat} {d : Nat} (hd : 1 ≤ d) : ∀ (v0 : Int32) (v1 : Int32) (μ : JMem) (r : Bool), g_R_isLength v0 v1 = r → jR B SA d m_R_isLength 0 (lv_args 0 [.int v0, .int v1]) [] μ (some (.int (jb r))) μ := by
  intro v0 v1 μ r h
  exact r_R_isLength_e hd (lv_args 0 _) _ _ _ _ (by simp [lv_args, jget, rv_cat, cat_int, cat_long, cat_double, cat_float, cat_ref]) (by simp [lv_args, jget, rv_cat, cat_int, cat_long, cat_double, cat_float, cat_ref]) h
/-! FilterBenchModel.clears(I)V -/
set_option maxRecDepth 10000 in
set_option maxHeartbeats 4000000 in
theorem r_R_clears_2 {N B : Nat} {SA : Nat → Nat} {d : Nat} (hd : 0 ≤ d) : ∀ (n : Nat), ∀ (L : JLoc) (v0 : Nat) (v1 : Int32) (v2 : Int32) (μ : JMem) (μ9 : JMem), jget L 0 = .ref v0 → jget L 1 = .int v1 → jget L 2 = .int v2 → g_R_clears_2 N B n v0 v1 v2 μ = some μ9 → jR B SA d m_R_clears 2 L [] μ none μ9 := by
  intro n
  induction n with
  | zero =>
    intro L v0 v1 v2 μ μ9 hl0 hl1 hl2 h
    unfold g_R_clears_2 at h
    cases h
  | succ n ih =>
    intro L v0 v1 v2 μ μ9 hl0 hl1 hl2 h
    unfold g_R_clears_2 at h
    refine jr_iload_n jf_190_2 rfl hl2 ?_
    refine jr_bipush jf_190_3 jc_b_64 ?_
    replace h := ite_or h; rcases h with ⟨hc, h⟩ | ⟨hc, h⟩
    · refine jr_if2_ge_t jf_190_5 hc ?_
      refine jr_aload_n jf_190_26 rfl hl0 ?_
      replace h := obd_of h; obtain ⟨x1, hx1, h⟩ := h
      refine jr_getA jf_190_27 hx1 ?_
      refine jr_iload_n jf_190_30 rfl hl1 ?_
      refine jr_iconst jf_190_31 jc_i_0 ?_
      replace h := obd_of h; obtain ⟨a2, rfl, h⟩ := h
      replace h := obd_of h; obtain ⟨μ3, hμ3, h⟩ := h
      refine jr_iastore jf_190_32 hμ3 ?_
      refine jr_aload_n jf_190_33 rfl hl0 ?_
      replace h := obd_of h; obtain ⟨x4, hx4, h⟩ := h
      refine jr_getA jf_190_34 hx4 ?_
      refine jr_iload_n jf_190_37 rfl hl1 ?_
      refine jr_lconst0 jf_190_38 ?_
      replace h := obd_of h; obtain ⟨a5, rfl, h⟩ := h
      replace h := obd_of h; obtain ⟨μ6, hμ6, h⟩ := h
      refine jr_lastore jf_190_39 hμ6 ?_
      obtain rfl := Option.some.inj h
      exact jr_return jf_190_40 jmt_190
    · refine jr_if2_ge_f jf_190_5 hc ?_
      refine jr_aload_n jf_190_8 rfl hl0 ?_
      replace h := obd_of h; obtain ⟨x7, hx7, h⟩ := h
      refine jr_getA jf_190_9 hx7 ?_
      refine jr_bipush jf_190_12 jc_b_64 ?_
      refine jr_iload_n jf_190_14 rfl hl1 ?_
      refine jr_imul jf_190_15 ?_
      refine jr_iload_n jf_190_16 rfl hl2 ?_
      refine jr_iadd jf_190_17 ?_
      refine jr_dconst0 jf_190_18 ?_
      replace h := obd_of h; obtain ⟨a8, rfl, h⟩ := h
      replace h := obd_of h; obtain ⟨μ9, hμ9, h⟩ := h
      refine jr_dastore jf_190_19 hμ9 ?_
      refine jr_iinc jf_190_20 jc_i_1 jml_190 (by decide) hl2 ?_
      refine jr_goto jf_190_23 ?_
      exact ih _ _ _ _ _ _ (jg1_ne rfl hl0) (jg1_pre rfl hl1) jg1_same h
set_option maxRecDepth 10000 in
set_option maxHeartbeats 4000000 in
theorem r_R_clears_e {N B : Nat} {SA : Nat → Nat} {d : Nat} (hd : 0 ≤ d) : ∀ (L : JLoc) (v0 : Nat) (v1 : Int32) (μ : JMem) (μ9 : JMem), jget L 0 = .ref v0 → jget L 1 = .int v1 → g_R_clears N B v0 v1 μ = some μ9 → jR B SA d m_R_clears 0 L [] μ none μ9 := by
  intro L v0 v1 μ μ9 hl0 hl1 h
  unfold g_R_clears at h
  refine jr_iconst jf_190_0 jc_i_0 ?_
  refine jr_istore_n jf_190_1 rfl jml_190 (by decide) ?_
  exact r_R_clears_2 hd _ _ _ _ _ _ _ (jg1_ne rfl hl0) (jg1_pre rfl hl1) jg1_same h
set_option maxRecDepth 10000 in
set_option maxHeartbeats 4000000 in
theorem r_R_clears {N B : Nat} {SA : Nat → Nat} {d : Nat} (hd : 0 ≤ d) : ∀ (v0 : Nat) (v1 : Int32) (μ : JMem) (μ9 : JMem), g_R_clears N B v0 v1 μ = some μ9 → jR B SA d m_R_clears 0 (lv_args 0 [.ref v0, .int v1]) [] μ none μ9 := by
  intro v0 v1 μ μ9 h
  exact r_R_clears_e hd (lv_args 0 _) _ _ _ _ (by simp [lv_args, jget, rv_cat, cat_int, cat_long, cat_double, cat_float, cat_ref]) (by simp [lv_args, jget, rv_cat, cat_int, cat_long, cat_double, cat_float, cat_ref]) h
/-! FilterBenchModel.newSection(III)I -/
set_option maxRecDepth 10000 in
set_option maxHeartbeats 4000000 in
theorem r_R_newSection_49 {N B : Nat} {SA : Nat → Nat} {d : Nat} (hd : 1 ≤ d) : ∀ (n : Nat), ∀ (L : JLoc) (v0 : Nat) (v4 : Int32) (v5 : Int32) (μ : JMem) (r : Int32) (μ9 : JMem), jget L 0 = .ref v0 → jget L 4 = .int v4 → jget L 5 = .int v5 → g_R_newSection_49 N B n v0 v4 v5 μ = some (r, μ9) → jR B SA d m_R_newSection 49 L [] μ (some (.int r)) μ9 := by
  intro n
  induction n with
  | zero =>
    intro L v0 v4 v5 μ r μ9 hl0 hl4 hl5 h
    unfold g_R_newSection_49 at h
    cases h
  | succ n ih =>
    intro L v0 v4 v5 μ r μ9 hl0 hl4 hl5 h
    unfold g_R_newSection_49 at h
    refine jr_iload jf_189_49 hl5 ?_
    refine jr_iconst jf_189_51 jc_i_5 ?_
    replace h := ite_or h; rcases h with ⟨hc, h⟩ | ⟨hc, h⟩
    · refine jr_if2_ge_t jf_189_52 hc ?_
      refine jr_aload_n jf_189_74 rfl hl0 ?_
      replace h := obd_of h; obtain ⟨x1, hx1, h⟩ := h
      refine jr_getA jf_189_75 hx1 ?_
      refine jr_iload jf_189_78 hl4 ?_
      refine jr_iconst jf_189_80 jc_i_m1 ?_
      replace h := obd_of h; obtain ⟨a2, rfl, h⟩ := h
      replace h := obd_of h; obtain ⟨μ3, hμ3, h⟩ := h
      refine jr_iastore jf_189_81 hμ3 ?_
      refine jr_aload_n jf_189_82 rfl hl0 ?_
      replace h := obd_of h; obtain ⟨x4, hx4, h⟩ := h
      refine jr_getA jf_189_83 hx4 ?_
      refine jr_iload jf_189_86 hl4 ?_
      refine jr_iconst jf_189_88 jc_i_m1 ?_
      replace h := obd_of h; obtain ⟨a5, rfl, h⟩ := h
      replace h := obd_of h; obtain ⟨μ6, hμ6, h⟩ := h
      refine jr_iastore jf_189_89 hμ6 ?_
      refine jr_aload_n jf_189_90 rfl hl0 ?_
      replace h := obd_of h; obtain ⟨x7, hx7, h⟩ := h
      refine jr_getA jf_189_91 hx7 ?_
      refine jr_iload jf_189_94 hl4 ?_
      refine jr_iconst jf_189_96 jc_i_m1 ?_
      replace h := obd_of h; obtain ⟨a8, rfl, h⟩ := h
      replace h := obd_of h; obtain ⟨μ9, hμ9, h⟩ := h
      refine jr_iastore jf_189_97 hμ9 ?_
      refine jr_aload_n jf_189_98 rfl hl0 ?_
      replace h := obd_of h; obtain ⟨x10, hx10, h⟩ := h
      refine jr_getA jf_189_99 hx10 ?_
      refine jr_iload jf_189_102 hl4 ?_
      refine jr_iconst jf_189_104 jc_i_0 ?_
      replace h := obd_of h; obtain ⟨a11, rfl, h⟩ := h
      replace h := obd_of h; obtain ⟨μ12, hμ12, h⟩ := h
      refine jr_iastore jf_189_105 hμ12 ?_
      refine jr_aload_n jf_189_106 rfl hl0 ?_
      replace h := obd_of h; obtain ⟨x13, hx13, h⟩ := h
      refine jr_getA jf_189_107 hx13 ?_
      refine jr_iload jf_189_110 hl4 ?_
      refine jr_iconst jf_189_112 jc_i_0 ?_
      replace h := obd_of h; obtain ⟨a14, rfl, h⟩ := h
      replace h := obd_of h; obtain ⟨μ15, hμ15, h⟩ := h
      refine jr_iastore jf_189_113 hμ15 ?_
      refine jr_aload_n jf_189_114 rfl hl0 ?_
      refine jr_iload jf_189_115 hl4 ?_
      replace h := jgd_of h; obtain ⟨hb16, h⟩ := h
      replace h := obd_of h; obtain ⟨μ17, hμ17, h⟩ := h
      refine jr_V6v_1 jf_189_117 hb16 (by omega) (r_R_clears (by omega) _ _ _ _ hμ17) (Nat.le_of_ble_eq_true rfl) jml_190 (Nat.le_of_ble_eq_true rfl) ?_
      refine jr_aload_n jf_189_120 rfl hl0 ?_
      refine jr_dup jf_189_121 rfl ?_
      replace h := obd_of h; obtain ⟨x18, hx18, h⟩ := h
      refine jr_getI jf_189_122 hx18 ?_
      refine jr_iconst jf_189_125 jc_i_1 ?_
      refine jr_iadd jf_189_126 ?_
      replace h := obd_of h; obtain ⟨μ19, hμ19, h⟩ := h
      refine jr_putI jf_189_127 rfl hμ19 ?_
      refine jr_iload jf_189_130 hl4 ?_
      obtain ⟨rfl, rfl⟩ := Prod.mk.inj (Option.some.inj h)
      exact jr_retI jf_189_132 jmt_189
    · refine jr_if2_ge_f jf_189_52 hc ?_
      refine jr_aload_n jf_189_55 rfl hl0 ?_
      replace h := obd_of h; obtain ⟨x20, hx20, h⟩ := h
      refine jr_getA jf_189_56 hx20 ?_
      refine jr_iconst jf_189_59 jc_i_5 ?_
      refine jr_iload jf_189_60 hl4 ?_
      refine jr_imul jf_189_62 ?_
      refine jr_iload jf_189_63 hl5 ?_
      refine jr_iadd jf_189_65 ?_
      refine jr_dconst0 jf_189_66 ?_
      replace h := obd_of h; obtain ⟨a21, rfl, h⟩ := h
      replace h := obd_of h; obtain ⟨μ22, hμ22, h⟩ := h
      refine jr_dastore jf_189_67 hμ22 ?_
      refine jr_iinc jf_189_68 jc_i_1 jml_189 (by decide) hl5 ?_
      refine jr_goto jf_189_71 ?_
      exact ih _ _ _ _ _ _ _ (jg1_ne rfl hl0) (jg1_pre rfl hl4) jg1_same h
set_option maxRecDepth 10000 in
set_option maxHeartbeats 4000000 in
theorem r_R_newSection_e {N B : Nat} {SA : Nat → Nat} {d : Nat} (hd : 1 ≤ d) : ∀ (L : JLoc) (v0 : Nat) (v1 : Int32) (v2 : Int32) (v3 : Int32) (μ : JMem) (r : Int32) (μ9 : JMem), jget L 0 = .ref v0 → jget L 1 = .int v1 → jget L 2 = .int v2 → jget L 3 = .int v3 → g_R_newSection N B v0 v1 v2 v3 μ = some (r, μ9) → jR B SA d m_R_newSection 0 L [] μ (some (.int r)) μ9 := by
  intro L v0 v1 v2 v3 μ r μ9 hl0 hl1 hl2 hl3 h
  unfold g_R_newSection at h
  refine jr_aload_n jf_189_0 rfl hl0 ?_
  replace h := obd_of h; obtain ⟨x1, hx1, h⟩ := h
  refine jr_getI jf_189_1 hx1 ?_
  refine jr_istore jf_189_4 jml_189 (by decide) ?_
  refine jr_aload_n jf_189_6 rfl (jg1_ne rfl hl0) ?_
  replace h := obd_of h; obtain ⟨x2, hx2, h⟩ := h
  refine jr_getA jf_189_7 hx2 ?_
  refine jr_iload jf_189_10 jg1_same ?_
  refine jr_iload_n jf_189_12 rfl (jg1_ne rfl hl1) ?_
  replace h := obd_of h; obtain ⟨a3, rfl, h⟩ := h
  replace h := obd_of h; obtain ⟨μ4, hμ4, h⟩ := h
  refine jr_iastore jf_189_13 hμ4 ?_
  refine jr_aload_n jf_189_14 rfl (jg1_ne rfl hl0) ?_
  replace h := obd_of h; obtain ⟨x5, hx5, h⟩ := h
  refine jr_getA jf_189_15 hx5 ?_
  refine jr_iload jf_189_18 jg1_same ?_
  refine jr_iload_n jf_189_20 rfl (jg1_ne rfl hl2) ?_
  replace h := obd_of h; obtain ⟨a6, rfl, h⟩ := h
  replace h := obd_of h; obtain ⟨μ7, hμ7, h⟩ := h
  refine jr_iastore jf_189_21 hμ7 ?_
  refine jr_aload_n jf_189_22 rfl (jg1_ne rfl hl0) ?_
  replace h := obd_of h; obtain ⟨x8, hx8, h⟩ := h
  refine jr_getA jf_189_23 hx8 ?_
  refine jr_iload jf_189_26 jg1_same ?_
  refine jr_iload_n jf_189_28 rfl (jg1_pre rfl hl3) ?_
  replace h := obd_of h; obtain ⟨a9, rfl, h⟩ := h
  replace h := obd_of h; obtain ⟨μ10, hμ10, h⟩ := h
  refine jr_iastore jf_189_29 hμ10 ?_
  refine jr_aload_n jf_189_30 rfl (jg1_ne rfl hl0) ?_
  replace h := obd_of h; obtain ⟨x11, hx11, h⟩ := h
  refine jr_getA jf_189_31 hx11 ?_
  refine jr_iload jf_189_34 jg1_same ?_
  refine jr_iconst jf_189_36 jc_i_0 ?_
  replace h := obd_of h; obtain ⟨a12, rfl, h⟩ := h
  replace h := obd_of h; obtain ⟨μ13, hμ13, h⟩ := h
  refine jr_iastore jf_189_37 hμ13 ?_
  refine jr_aload_n jf_189_38 rfl (jg1_ne rfl hl0) ?_
  replace h := obd_of h; obtain ⟨x14, hx14, h⟩ := h
  refine jr_getA jf_189_39 hx14 ?_
  refine jr_iload jf_189_42 jg1_same ?_
  refine jr_iconst jf_189_44 jc_i_0 ?_
  replace h := obd_of h; obtain ⟨a15, rfl, h⟩ := h
  replace h := obd_of h; obtain ⟨μ16, hμ16, h⟩ := h
  refine jr_iastore jf_189_45 hμ16 ?_
  refine jr_iconst jf_189_46 jc_i_0 ?_
  refine jr_istore jf_189_47 jml_189 (by decide) ?_
  exact r_R_newSection_49 hd _ _ _ _ _ _ _ _ (jg1_ne rfl (jg1_ne rfl hl0)) (jg1_pre rfl jg1_same) jg1_same h
set_option maxRecDepth 10000 in
set_option maxHeartbeats 4000000 in
theorem r_R_newSection {N B : Nat} {SA : Nat → Nat} {d : Nat} (hd : 1 ≤ d) : ∀ (v0 : Nat) (v1 : Int32) (v2 : Int32) (v3 : Int32) (μ : JMem) (r : Int32) (μ9 : JMem), g_R_newSection N B v0 v1 v2 v3 μ = some (r, μ9) → jR B SA d m_R_newSection 0 (lv_args 0 [.ref v0, .int v1, .int v2, .int v3]) [] μ (some (.int r)) μ9 := by
  intro v0 v1 v2 v3 μ r μ9 h
  exact r_R_newSection_e hd (lv_args 0 _) _ _ _ _ _ _ _ (by simp [lv_args, jget, rv_cat, cat_int, cat_long, cat_double, cat_float, cat_ref]) (by simp [lv_args, jget, rv_cat, cat_int, cat_long, cat_double, cat_float, cat_ref]) (by simp [lv_args, jget, rv_cat, cat_int, cat_long, cat_double, cat_float, cat_ref]) (by simp [lv_args, jget, rv_cat, cat_int, cat_long, cat_double, cat_float, cat_ref]) h
/-! FilterBenchModel.section(III)I -/
set_option maxRecDepth 10000 in
set_option maxHeartbeats 4000000 in
theorem r_R_section_e {N B : Nat} {SA : Nat → Nat} {d : Nat} (hd : 2 ≤ d) : ∀ (L : JLoc) (v0 : Nat) (v1 : Int32) (v2 : Int32) (v3 : Int32) (μ : JMem) (r : Int32) (μ9 : JMem), jget L 0 = .ref v0 → jget L 1 = .int v1 → jget L 2 = .int v2 → jget L 3 = .int v3 → g_R_section N B v0 v1 v2 v3 μ = some (r, μ9) → jR B SA d m_R_section 0 L [] μ (some (.int r)) μ9 := by
  intro L v0 v1 v2 v3 μ r μ9 hl0 hl1 hl2 hl3 h
  unfold g_R_section at h
  refine jr_aload_n jf_186_0 rfl hl0 ?_
  replace h := obd_of h; obtain ⟨x1, hx1, h⟩ := h
  refine jr_getI jf_186_1 hx1 ?_
  refine jr_bipush jf_186_4 jc_b_60 ?_
  replace h := ite_or h; rcases h with ⟨hc, h⟩ | ⟨hc, h⟩
  · refine jr_if2_eq_t jf_186_6 hc ?_
    refine jr_iconst jf_186_36 jc_i_m1 ?_
    obtain ⟨rfl, rfl⟩ := Prod.mk.inj (Option.some.inj h)
    exact jr_retI jf_186_37 jmt_186
  · refine jr_if2_eq_f jf_186_6 hc ?_
    refine jr_iload_n jf_186_9 rfl hl1 ?_
    refine jr_iconst jf_186_10 jc_i_0 ?_
    refine jr_bipush jf_186_11 jc_b_15 ?_
    refine jr_S3_3 jf_186_13 (by omega) (r_R_in (by omega) _ _ _ _ _ rfl) (Nat.le_of_ble_eq_true rfl) jml_187 (Nat.le_of_ble_eq_true rfl) ?_
    replace h := ite_or h; rcases h with ⟨hc, h⟩ | ⟨hc, h⟩
    · refine jr_ifz_eq_f jf_186_16 hc ?_
      refine jr_iload_n jf_186_19 rfl hl2 ?_
      refine jr_iconst jf_186_20 jc_i_0 ?_
      refine jr_iconst jf_186_21 jc_i_2 ?_
      refine jr_S3_3 jf_186_22 (by omega) (r_R_in (by omega) _ _ _ _ _ rfl) (Nat.le_of_ble_eq_true rfl) jml_187 (Nat.le_of_ble_eq_true rfl) ?_
      replace h := ite_or h; rcases h with ⟨hc, h⟩ | ⟨hc, h⟩
      · refine jr_ifz_eq_f jf_186_25 hc ?_
        refine jr_iload_n jf_186_28 rfl hl1 ?_
        refine jr_iload_n jf_186_29 rfl hl3 ?_
        refine jr_S3_2 jf_186_30 (by omega) (r_R_isLength (by omega) _ _ _ _ rfl) (Nat.le_of_ble_eq_true rfl) jml_188 (Nat.le_of_ble_eq_true rfl) ?_
        replace h := ite_or h; rcases h with ⟨hc, h⟩ | ⟨hc, h⟩
        · refine jr_ifz_ne_t jf_186_33 hc ?_
          refine jr_aload_n jf_186_38 rfl hl0 ?_
          refine jr_iload_n jf_186_39 rfl hl1 ?_
          refine jr_iload_n jf_186_40 rfl hl2 ?_
          refine jr_iload_n jf_186_41 rfl hl3 ?_
          replace h := jgd_of h; obtain ⟨hb2, h⟩ := h
          replace h := jbd2_of h; obtain ⟨x3, μ4, hx3, h⟩ := h
          refine jr_V6_3 jf_186_42 hb2 (by omega) (r_R_newSection (by omega) _ _ _ _ _ _ _ hx3) (Nat.le_of_ble_eq_true rfl) jml_189 (Nat.le_of_ble_eq_true rfl) ?_
          obtain ⟨rfl, rfl⟩ := Prod.mk.inj (Option.some.inj h)
          exact jr_retI jf_186_45 jmt_186
        · refine jr_ifz_ne_f jf_186_33 hc ?_
          refine jr_iconst jf_186_36 jc_i_m1 ?_
          obtain ⟨rfl, rfl⟩ := Prod.mk.inj (Option.some.inj h)
          exact jr_retI jf_186_37 jmt_186
      · refine jr_ifz_eq_t jf_186_25 hc ?_
        refine jr_iconst jf_186_36 jc_i_m1 ?_
        obtain ⟨rfl, rfl⟩ := Prod.mk.inj (Option.some.inj h)
        exact jr_retI jf_186_37 jmt_186
    · refine jr_ifz_eq_t jf_186_16 hc ?_
      refine jr_iconst jf_186_36 jc_i_m1 ?_
      obtain ⟨rfl, rfl⟩ := Prod.mk.inj (Option.some.inj h)
      exact jr_retI jf_186_37 jmt_186
set_option maxRecDepth 10000 in
set_option maxHeartbeats 4000000 in
theorem r_R_section {N B : Nat} {SA : Nat → Nat} {d : Nat} (hd : 2 ≤ d) : ∀ (v0 : Nat) (v1 : Int32) (v2 : Int32) (v3 : Int32) (μ : JMem) (r : Int32) (μ9 : JMem), g_R_section N B v0 v1 v2 v3 μ = some (r, μ9) → jR B SA d m_R_section 0 (lv_args 0 [.ref v0, .int v1, .int v2, .int v3]) [] μ (some (.int r)) μ9 := by
  intro v0 v1 v2 v3 μ r μ9 h
  exact r_R_section_e hd (lv_args 0 _) _ _ _ _ _ _ _ (by simp [lv_args, jget, rv_cat, cat_int, cat_long, cat_double, cat_float, cat_ref]) (by simp [lv_args, jget, rv_cat, cat_int, cat_long, cat_double, cat_float, cat_ref]) (by simp [lv_args, jget, rv_cat, cat_int, cat_long, cat_double, cat_float, cat_ref]) (by simp [lv_args, jget, rv_cat, cat_int, cat_long, cat_double, cat_float, cat_ref]) h
/-! FilterBenchModel.coefficientsOf(I)I -/
set_option maxRecDepth 10000 in
set_option maxHeartbeats 4000000 in
theorem r_R_coefficientsOf_e {B : Nat} {SA : Nat → Nat} {d : Nat} (hd : 0 ≤ d) : ∀ (L : JLoc) (v0 : Int32) (μ : JMem) (r : Int32), jget L 0 = .int v0 → g_R_coefficientsOf v0 = r → jR B SA d m_R_coefficientsOf 0 L [] μ (some (.int r)) μ := by
  intro L v0 μ r hl0 h
  unfold g_R_coefficientsOf at h
  refine jr_iload_n jf_194_0 rfl hl0 ?_
  refine jr_switch jf_194_1 ?_
  replace h := ite_or h; rcases h with ⟨hc, h⟩ | ⟨hc, h⟩
  · refine jsw_hit (by decide) hc ?_
    refine jr_iconst jf_194_76 jc_i_2 ?_
    subst h
    exact jr_retI jf_194_77 jmt_194
  · refine jsw_miss (by decide) hc (by decide : (1 : Int) + 1 = 2) ?_
    replace h := ite_or h; rcases h with ⟨hc, h⟩ | ⟨hc, h⟩
    · refine jsw_hit (by decide) hc ?_
      refine jr_iconst jf_194_78 jc_i_5 ?_
      subst h
      exact jr_retI jf_194_79 jmt_194
    · refine jsw_miss (by decide) hc (by decide : (2 : Int) + 1 = 3) ?_
      replace h := ite_or h; rcases h with ⟨hc, h⟩ | ⟨hc, h⟩
      · refine jsw_hit (by decide) hc ?_
        refine jr_iconst jf_194_78 jc_i_5 ?_
        subst h
        exact jr_retI jf_194_79 jmt_194
      · refine jsw_miss (by decide) hc (by decide : (3 : Int) + 1 = 4) ?_
        replace h := ite_or h; rcases h with ⟨hc, h⟩ | ⟨hc, h⟩
        · refine jsw_hit (by decide) hc ?_
          refine jr_iconst jf_194_78 jc_i_5 ?_
          subst h
          exact jr_retI jf_194_79 jmt_194
        · refine jsw_miss (by decide) hc (by decide : (4 : Int) + 1 = 5) ?_
          replace h := ite_or h; rcases h with ⟨hc, h⟩ | ⟨hc, h⟩
          · refine jsw_hit (by decide) hc ?_
            refine jr_iconst jf_194_82 jc_i_1 ?_
            subst h
            exact jr_retI jf_194_83 jmt_194
          · refine jsw_miss (by decide) hc (by decide : (5 : Int) + 1 = 6) ?_
            replace h := ite_or h; rcases h with ⟨hc, h⟩ | ⟨hc, h⟩
            · refine jsw_hit (by decide) hc ?_
              refine jr_iconst jf_194_80 jc_i_0 ?_
              subst h
              exact jr_retI jf_194_81 jmt_194
            · refine jsw_miss (by decide) hc (by decide : (6 : Int) + 1 = 7) ?_
              replace h := ite_or h; rcases h with ⟨hc, h⟩ | ⟨hc, h⟩
              · refine jsw_hit (by decide) hc ?_
                refine jr_iconst jf_194_82 jc_i_1 ?_
                subst h
                exact jr_retI jf_194_83 jmt_194
              · refine jsw_miss (by decide) hc (by decide : (7 : Int) + 1 = 8) ?_
                replace h := ite_or h; rcases h with ⟨hc, h⟩ | ⟨hc, h⟩
                · refine jsw_hit (by decide) hc ?_
                  refine jr_iconst jf_194_82 jc_i_1 ?_
                  subst h
                  exact jr_retI jf_194_83 jmt_194
                · refine jsw_miss (by decide) hc (by decide : (8 : Int) + 1 = 9) ?_
                  replace h := ite_or h; rcases h with ⟨hc, h⟩ | ⟨hc, h⟩
                  · refine jsw_hit (by decide) hc ?_
                    refine jr_iconst jf_194_82 jc_i_1 ?_
                    subst h
                    exact jr_retI jf_194_83 jmt_194
                  · refine jsw_miss (by decide) hc (by decide : (9 : Int) + 1 = 10) ?_
                    replace h := ite_or h; rcases h with ⟨hc, h⟩ | ⟨hc, h⟩
                    · refine jsw_hit (by decide) hc ?_
                      refine jr_iconst jf_194_82 jc_i_1 ?_
                      subst h
                      exact jr_retI jf_194_83 jmt_194
                    · refine jsw_miss (by decide) hc (by decide : (10 : Int) + 1 = 11) ?_
                      replace h := ite_or h; rcases h with ⟨hc, h⟩ | ⟨hc, h⟩
                      · refine jsw_hit (by decide) hc ?_
                        refine jr_iconst jf_194_82 jc_i_1 ?_
                        subst h
                        exact jr_retI jf_194_83 jmt_194
                      · refine jsw_miss (by decide) hc (by decide : (11 : Int) + 1 = 12) ?_
                        replace h := ite_or h; rcases h with ⟨hc, h⟩ | ⟨hc, h⟩
                        · refine jsw_hit (by decide) hc ?_
                          refine jr_iconst jf_194_80 jc_i_0 ?_
                          subst h
                          exact jr_retI jf_194_81 jmt_194
                        · refine jsw_miss (by decide) hc (by decide : (12 : Int) + 1 = 13) ?_
                          replace h := ite_or h; rcases h with ⟨hc, h⟩ | ⟨hc, h⟩
                          · refine jsw_hit (by decide) hc ?_
                            refine jr_iconst jf_194_80 jc_i_0 ?_
                            subst h
                            exact jr_retI jf_194_81 jmt_194
                          · refine jsw_miss (by decide) hc (by decide : (13 : Int) + 1 = 14) ?_
                            replace h := ite_or h; rcases h with ⟨hc, h⟩ | ⟨hc, h⟩
                            · refine jsw_hit (by decide) hc ?_
                              refine jr_iconst jf_194_80 jc_i_0 ?_
                              subst h
                              exact jr_retI jf_194_81 jmt_194
                            · refine jsw_miss (by decide) hc (by decide : (14 : Int) + 1 = 15) ?_
                              replace h := ite_or h; rcases h with ⟨hc, h⟩ | ⟨hc, h⟩
                              · refine jsw_hit (by decide) hc ?_
                                refine jr_iconst jf_194_76 jc_i_2 ?_
                                subst h
                                exact jr_retI jf_194_77 jmt_194
                              · refine jsw_miss (by decide) hc (by decide : (15 : Int) + 1 = 16) ?_
                                refine jsw_end ?_
                                refine jr_iconst jf_194_82 jc_i_1 ?_
                                subst h
                                exact jr_retI jf_194_83 jmt_194
set_option maxRecDepth 10000 in
set_option maxHeartbeats 4000000 in
theorem r_R_coefficientsOf {B : Nat} {SA : Nat → Nat} {d : Nat} (hd : 0 ≤ d) : ∀ (v0 : Int32) (μ : JMem) (r : Int32), g_R_coefficientsOf v0 = r → jR B SA d m_R_coefficientsOf 0 (lv_args 0 [.int v0]) [] μ (some (.int r)) μ := by
  intro v0 μ r h
  exact r_R_coefficientsOf_e hd (lv_args 0 _) _ _ _ (by simp [lv_args, jget, rv_cat, cat_int, cat_long, cat_double, cat_float, cat_ref]) h
/-! FilterBenchModel.isSection(I)Z -/
set_option maxRecDepth 10000 in
set_option maxHeartbeats 4000000 in
theorem r_R_isSection_e {B : Nat} {SA : Nat → Nat} {d : Nat} (hd : 1 ≤ d) : ∀ (L : JLoc) (v0 : Nat) (v1 : Int32) (μ : JMem) (r : Bool), jget L 0 = .ref v0 → jget L 1 = .int v1 → g_R_isSection v0 v1 μ.1 = some r → jR B SA d m_R_isSection 0 L [] μ (some (.int (jb r))) μ := by
  intro L v0 v1 μ r hl0 hl1 h
  unfold g_R_isSection at h
  refine jr_iload_n jf_193_0 rfl hl1 ?_
  refine jr_iconst jf_193_1 jc_i_0 ?_
  refine jr_aload_n jf_193_2 rfl hl0 ?_
  replace h := obd_of h; obtain ⟨x1, hx1, h⟩ := h
  refine jr_getI jf_193_3 hx1 ?_
  refine jr_iconst jf_193_6 jc_i_1 ?_
  refine jr_isub jf_193_7 ?_
  refine jr_S3_3 jf_193_8 (by omega) (r_R_in (by omega) _ _ _ _ _ rfl) (Nat.le_of_ble_eq_true rfl) jml_187 (Nat.le_of_ble_eq_true rfl) ?_
  obtain rfl := Option.some.inj h
  exact jr_retZ jf_193_11 jmt_193
set_option maxRecDepth 10000 in
set_option maxHeartbeats 4000000 in
theorem r_R_isSection {B : Nat} {SA : Nat → Nat} {d : Nat} (hd : 1 ≤ d) : ∀ (v0 : Nat) (v1 : Int32) (μ : JMem) (r : Bool), g_R_isSection v0 v1 μ.1 = some r → jR B SA d m_R_isSection 0 (lv_args 0 [.ref v0, .int v1]) [] μ (some (.int (jb r))) μ := by
  intro v0 v1 μ r h
  exact r_R_isSection_e hd (lv_args 0 _) _ _ _ _ (by simp [lv_args, jget, rv_cat, cat_int, cat_long, cat_double, cat_float, cat_ref]) (by simp [lv_args, jget, rv_cat, cat_int, cat_long, cat_double, cat_float, cat_ref]) h
/-! FilterBenchModel.isCoefficient(II)Z -/
set_option maxRecDepth 10000 in
set_option maxHeartbeats 4000000 in
theorem r_R_isCoefficient_e {B : Nat} {SA : Nat → Nat} {d : Nat} (hd : 2 ≤ d) : ∀ (L : JLoc) (v0 : Nat) (v1 : Int32) (v2 : Int32) (μ : JMem) (r : Bool), jget L 0 = .ref v0 → jget L 1 = .int v1 → jget L 2 = .int v2 → g_R_isCoefficient v0 v1 v2 μ.1 = some r → jR B SA d m_R_isCoefficient 0 L [] μ (some (.int (jb r))) μ := by
  intro L v0 v1 v2 μ r hl0 hl1 hl2 h
  unfold g_R_isCoefficient at h
  refine jr_aload_n jf_192_0 rfl hl0 ?_
  refine jr_iload_n jf_192_1 rfl hl1 ?_
  replace h := jgd_of h; obtain ⟨hb1, h⟩ := h
  replace h := obd_of h; obtain ⟨x2, hx2, h⟩ := h
  refine jr_V6_1 jf_192_2 hb1 (by omega) (r_R_isSection (by omega) _ _ _ _ hx2) (Nat.le_of_ble_eq_true rfl) jml_193 (Nat.le_of_ble_eq_true rfl) ?_
  replace h := ite_or h; rcases h with ⟨hc, h⟩ | ⟨hc, h⟩
  · refine jr_ifz_eq_f jf_192_5 hc ?_
    refine jr_iload_n jf_192_8 rfl hl2 ?_
    refine jr_iconst jf_192_9 jc_i_0 ?_
    refine jr_aload_n jf_192_10 rfl hl0 ?_
    replace h := obd_of h; obtain ⟨x3, hx3, h⟩ := h
    refine jr_getA jf_192_11 hx3 ?_
    refine jr_iload_n jf_192_14 rfl hl1 ?_
    replace h := obd_of h; obtain ⟨a4, rfl, h⟩ := h
    replace h := obd_of h; obtain ⟨x5, hx5, h⟩ := h
    refine jr_iaload jf_192_15 hx5 ?_
    refine jr_S3_1 jf_192_16 (by omega) (r_R_coefficientsOf (by omega) _ _ _ rfl) (Nat.le_of_ble_eq_true rfl) jml_194 (Nat.le_of_ble_eq_true rfl) ?_
    refine jr_iconst jf_192_19 jc_i_1 ?_
    refine jr_isub jf_192_20 ?_
    refine jr_S3_3 jf_192_21 (by omega) (r_R_in (by omega) _ _ _ _ _ rfl) (Nat.le_of_ble_eq_true rfl) jml_187 (Nat.le_of_ble_eq_true rfl) ?_
    replace h := ite_or h; rcases h with ⟨hc, h⟩ | ⟨hc, h⟩
    · refine jr_ifz_eq_f jf_192_24 hc ?_
      refine jr_iconst jf_192_27 jc_i_1 ?_
      refine jr_goto jf_192_28 ?_
      obtain rfl := Option.some.inj h
      exact jr_retZ (x := true) jf_192_32 jmt_192
    · refine jr_ifz_eq_t jf_192_24 hc ?_
      refine jr_iconst jf_192_31 jc_i_0 ?_
      obtain rfl := Option.some.inj h
      exact jr_retZ (x := false) jf_192_32 jmt_192
  · refine jr_ifz_eq_t jf_192_5 hc ?_
    refine jr_iconst jf_192_31 jc_i_0 ?_
    obtain rfl := Option.some.inj h
    exact jr_retZ (x := false) jf_192_32 jmt_192
set_option maxRecDepth 10000 in
set_option maxHeartbeats 4000000 in
theorem r_R_isCoefficient {B : Nat} {SA : Nat → Nat} {d : Nat} (hd : 2 ≤ d) : ∀ (v0 : Nat) (v1 : Int32) (v2 : Int32) (μ : JMem) (r : Bool), g_R_isCoefficient v0 v1 v2 μ.1 = some r → jR B SA d m_R_isCoefficient 0 (lv_args 0 [.ref v0, .int v1, .int v2]) [] μ (some (.int (jb r))) μ := by
  intro v0 v1 v2 μ r h
  exact r_R_isCoefficient_e hd (lv_args 0 _) _ _ _ _ _ (by simp [lv_args, jget, rv_cat, cat_int, cat_long, cat_double, cat_float, cat_ref]) (by simp [lv_args, jget, rv_cat, cat_int, cat_long, cat_double, cat_float, cat_ref]) (by simp [lv_args, jget, rv_cat, cat_int, cat_long, cat_double, cat_float, cat_ref]) h
/-! FilterBenchModel.isValue(IJ)Z -/
set_option maxRecDepth 10000 in
set_option maxHeartbeats 4000000 in
theorem r_R_isValue_47 {B : Nat} {SA : Nat → Nat} {d : Nat} (hd : 0 ≤ d) : ∀ (L : JLoc) (μ : JMem) (r : Bool), g_R_isValue_47 = r → jR B SA d m_R_isValue 47 L [] μ (some (.int (jb r))) μ := by
  intro L μ r h
  unfold g_R_isValue_47 at h
  refine jr_iconst jf_195_47 jc_i_1 ?_
  refine jr_goto jf_195_48 ?_
  subst h
  exact jr_retZ (x := true) jf_195_52 jmt_195
set_option maxRecDepth 10000 in
set_option maxHeartbeats 4000000 in
theorem r_R_isValue_e {B : Nat} {SA : Nat → Nat} {d : Nat} (hd : 0 ≤ d) : ∀ (L : JLoc) (v0 : Int32) (v1 : Int64) (μ : JMem) (r : Bool), jget L 0 = .int v0 → jget L 1 = .long v1 → g_R_isValue v0 v1 = r → jR B SA d m_R_isValue 0 L [] μ (some (.int (jb r))) μ := by
  intro L v0 v1 μ r hl0 hl1 h
  unfold g_R_isValue at h
  refine jr_iload_n jf_195_0 rfl hl0 ?_
  refine jr_iconst jf_195_1 jc_i_2 ?_
  replace h := ite_or h; rcases h with ⟨hc, h⟩ | ⟨hc, h⟩
  · refine jr_if2_ne_f jf_195_2 hc ?_
    refine jr_lload_n jf_195_5 rfl hl1 ?_
    refine jr_ldc2l jf_195_6 ?_
    refine jr_lcmp jf_195_9 ?_
    replace h := ite_or h; rcases h with ⟨hc, h⟩ | ⟨hc, h⟩
    · refine jr_ifl_lt_t jf_195_10 hc ?_
      refine jr_iconst jf_195_25 jc_i_0 ?_
      subst h
      exact jr_retZ (x := false) jf_195_26 jmt_195
    · refine jr_ifl_lt_f jf_195_10 hc ?_
      refine jr_lload_n jf_195_13 rfl hl1 ?_
      refine jr_ldc2l jf_195_14 ?_
      refine jr_lcmp jf_195_17 ?_
      replace h := ite_or h; rcases h with ⟨hc, h⟩ | ⟨hc, h⟩
      · refine jr_ifl_gt_t jf_195_18 hc ?_
        refine jr_iconst jf_195_25 jc_i_0 ?_
        subst h
        exact jr_retZ (x := false) jf_195_26 jmt_195
      · refine jr_ifl_gt_f jf_195_18 hc ?_
        refine jr_iconst jf_195_21 jc_i_1 ?_
        refine jr_goto jf_195_22 ?_
        subst h
        exact jr_retZ (x := true) jf_195_26 jmt_195
  · refine jr_if2_ne_t jf_195_2 hc ?_
    refine jr_iload_n jf_195_27 rfl hl0 ?_
    replace h := ite_or h; rcases h with ⟨hc, h⟩ | ⟨hc, h⟩
    · refine jr_if_eq_t jf_195_28 hc ?_
      exact r_R_isValue_47 hd _  _ _ h
    · refine jr_if_eq_f jf_195_28 hc ?_
      refine jr_lload_n jf_195_31 rfl hl1 ?_
      refine jr_ldc2l jf_195_32 ?_
      refine jr_lcmp jf_195_35 ?_
      replace h := ite_or h; rcases h with ⟨hc, h⟩ | ⟨hc, h⟩
      · refine jr_ifl_lt_t jf_195_36 hc ?_
        refine jr_iconst jf_195_51 jc_i_0 ?_
        subst h
        exact jr_retZ (x := false) jf_195_52 jmt_195
      · refine jr_ifl_lt_f jf_195_36 hc ?_
        refine jr_lload_n jf_195_39 rfl hl1 ?_
        refine jr_ldc2l jf_195_40 ?_
        refine jr_lcmp jf_195_43 ?_
        replace h := ite_or h; rcases h with ⟨hc, h⟩ | ⟨hc, h⟩
        · refine jr_ifl_gt_t jf_195_44 hc ?_
          refine jr_iconst jf_195_51 jc_i_0 ?_
          subst h
          exact jr_retZ (x := false) jf_195_52 jmt_195
        · refine jr_ifl_gt_f jf_195_44 hc ?_
          exact r_R_isValue_47 hd _  _ _ h
set_option maxRecDepth 10000 in
set_option maxHeartbeats 4000000 in
theorem r_R_isValue {B : Nat} {SA : Nat → Nat} {d : Nat} (hd : 0 ≤ d) : ∀ (v0 : Int32) (v1 : Int64) (μ : JMem) (r : Bool), g_R_isValue v0 v1 = r → jR B SA d m_R_isValue 0 (lv_args 0 [.int v0, .long v1]) [] μ (some (.int (jb r))) μ := by
  intro v0 v1 μ r h
  exact r_R_isValue_e hd (lv_args 0 _) _ _ _ _ (by simp [lv_args, jget, rv_cat, cat_int, cat_long, cat_double, cat_float, cat_ref]) (by simp [lv_args, jget, rv_cat, cat_int, cat_long, cat_double, cat_float, cat_ref]) h
/-! FilterBenchModel.valueOf(IJ)D -/
set_option maxRecDepth 10000 in
set_option maxHeartbeats 4000000 in
theorem r_R_valueOf_e {B : Nat} {SA : Nat → Nat} {d : Nat} (hd : 1 ≤ d) : ∀ (L : JLoc) (v0 : Int32) (v1 : Int64) (μ : JMem) (r : UInt64), jget L 0 = .int v0 → jget L 1 = .long v1 → g_R_valueOf v0 v1 = some r → jR B SA d m_R_valueOf 0 L [] μ (some (.double r)) μ := by
  intro L v0 v1 μ r hl0 hl1 h
  unfold g_R_valueOf at h
  refine jr_iload_n jf_196_0 rfl hl0 ?_
  replace h := ite_or h; rcases h with ⟨hc, h⟩ | ⟨hc, h⟩
  · refine jr_if_ne_f jf_196_1 hc ?_
    refine jr_lload_n jf_196_4 rfl hl1 ?_
    refine jr_ldc2l jf_196_5 ?_
    refine jr_land jf_196_8 ?_
    refine jr_ldc2l jf_196_9 ?_
    refine jr_lcmp jf_196_12 ?_
    replace h := ite_or h; rcases h with ⟨hc, h⟩ | ⟨hc, h⟩
    · refine jr_ifl_le_t jf_196_13 hc ?_
      refine jr_lload_n jf_196_22 rfl hl1 ?_
      replace h := obd_of h; obtain ⟨x1, hx1, h⟩ := h
      refine jr_l2dn jf_196_23 hx1 (by omega) (Nat.le_of_ble_eq_true rfl) ?_
      obtain rfl := Option.some.inj h
      exact jr_retD jf_196_26 jmt_196
    · refine jr_ifl_le_f jf_196_13 hc ?_
      refine jr_ldc2d jf_196_16 ?_
      refine jr_goto jf_196_19 ?_
      obtain rfl := Option.some.inj h
      exact jr_retD jf_196_26 jmt_196
  · refine jr_if_ne_t jf_196_1 hc ?_
    refine jr_iload_n jf_196_27 rfl hl0 ?_
    refine jr_iconst jf_196_28 jc_i_1 ?_
    replace h := ite_or h; rcases h with ⟨hc, h⟩ | ⟨hc, h⟩
    · refine jr_if2_eq_t jf_196_29 hc ?_
      refine jr_lload_n jf_196_35 rfl hl1 ?_
      refine jr_l2i jf_196_36 ?_
      refine jr_ldc jf_196_37 ?_
      refine jr_iand jf_196_39 ?_
      refine jr_ldc jf_196_40 ?_
      replace h := ite_or h; rcases h with ⟨hc, h⟩ | ⟨hc, h⟩
      · refine jr_if2_le_t jf_196_42 hc ?_
        refine jr_lload_n jf_196_49 rfl hl1 ?_
        refine jr_l2i jf_196_50 ?_
        replace h := obd_of h; obtain ⟨x2, hx2, h⟩ := h
        refine jr_i2fn jf_196_51 hx2 (by omega) (Nat.le_of_ble_eq_true rfl) ?_
        replace h := obd_of h; obtain ⟨x3, hx3, h⟩ := h
        refine jr_f2d jf_196_54 hx3 ?_
        obtain rfl := Option.some.inj h
        exact jr_retD jf_196_55 jmt_196
      · refine jr_if2_le_f jf_196_42 hc ?_
        refine jr_ldc2d jf_196_45 ?_
        obtain rfl := Option.some.inj h
        exact jr_retD jf_196_48 jmt_196
    · refine jr_if2_eq_f jf_196_29 hc ?_
      refine jr_lload_n jf_196_32 rfl hl1 ?_
      refine jr_l2d jf_196_33 ?_
      obtain rfl := Option.some.inj h
      exact jr_retD jf_196_34 jmt_196
set_option maxRecDepth 10000 in
set_option maxHeartbeats 4000000 in
theorem r_R_valueOf {B : Nat} {SA : Nat → Nat} {d : Nat} (hd : 1 ≤ d) : ∀ (v0 : Int32) (v1 : Int64) (μ : JMem) (r : UInt64), g_R_valueOf v0 v1 = some r → jR B SA d m_R_valueOf 0 (lv_args 0 [.int v0, .long v1]) [] μ (some (.double r)) μ := by
  intro v0 v1 μ r h
  exact r_R_valueOf_e hd (lv_args 0 _) _ _ _ _ (by simp [lv_args, jget, rv_cat, cat_int, cat_long, cat_double, cat_float, cat_ref]) (by simp [lv_args, jget, rv_cat, cat_int, cat_long, cat_double, cat_float, cat_ref]) h
/-! FilterBenchModel.coefficient(IIJ)Z -/
set_option maxRecDepth 10000 in
set_option maxHeartbeats 4000000 in
theorem r_R_coefficient_e {B : Nat} {SA : Nat → Nat} {d : Nat} (hd : 3 ≤ d) : ∀ (L : JLoc) (v0 : Nat) (v1 : Int32) (v2 : Int32) (v3 : Int64) (μ : JMem) (r : Bool) (μ9 : JMem), jget L 0 = .ref v0 → jget L 1 = .int v1 → jget L 2 = .int v2 → jget L 3 = .long v3 → g_R_coefficient B v0 v1 v2 v3 μ = some (r, μ9) → jR B SA d m_R_coefficient 0 L [] μ (some (.int (jb r))) μ9 := by
  intro L v0 v1 v2 v3 μ r μ9 hl0 hl1 hl2 hl3 h
  unfold g_R_coefficient at h
  refine jr_aload_n jf_191_0 rfl hl0 ?_
  refine jr_iload_n jf_191_1 rfl hl1 ?_
  refine jr_iload_n jf_191_2 rfl hl2 ?_
  replace h := jgd_of h; obtain ⟨hb1, h⟩ := h
  replace h := obd_of h; obtain ⟨x2, hx2, h⟩ := h
  refine jr_V6_2 jf_191_3 hb1 (by omega) (r_R_isCoefficient (by omega) _ _ _ _ _ hx2) (Nat.le_of_ble_eq_true rfl) jml_192 (Nat.le_of_ble_eq_true rfl) ?_
  replace h := ite_or h; rcases h with ⟨hc, h⟩ | ⟨hc, h⟩
  · refine jr_ifz_eq_f jf_191_6 hc ?_
    refine jr_aload_n jf_191_9 rfl hl0 ?_
    replace h := obd_of h; obtain ⟨x3, hx3, h⟩ := h
    refine jr_getA jf_191_10 hx3 ?_
    refine jr_iload_n jf_191_13 rfl hl1 ?_
    replace h := obd_of h; obtain ⟨a4, rfl, h⟩ := h
    replace h := obd_of h; obtain ⟨x5, hx5, h⟩ := h
    refine jr_iaload jf_191_14 hx5 ?_
    refine jr_lload_n jf_191_15 rfl hl3 ?_
    refine jr_S3_2 jf_191_16 (by omega) (r_R_isValue (by omega) _ _ _ _ rfl) (Nat.le_of_ble_eq_true rfl) jml_195 (Nat.le_of_ble_eq_true rfl) ?_
    replace h := ite_or h; rcases h with ⟨hc, h⟩ | ⟨hc, h⟩
    · refine jr_ifz_ne_t jf_191_19 hc ?_
      refine jr_aload_n jf_191_24 rfl hl0 ?_
      replace h := obd_of h; obtain ⟨x6, hx6, h⟩ := h
      refine jr_getA jf_191_25 hx6 ?_
      refine jr_iconst jf_191_28 jc_i_5 ?_
      refine jr_iload_n jf_191_29 rfl hl1 ?_
      refine jr_imul jf_191_30 ?_
      refine jr_iload_n jf_191_31 rfl hl2 ?_
      refine jr_iadd jf_191_32 ?_
      refine jr_aload_n jf_191_33 rfl hl0 ?_
      replace h := obd_of h; obtain ⟨x7, hx7, h⟩ := h
      refine jr_getA jf_191_34 hx7 ?_
      refine jr_iload_n jf_191_37 rfl hl1 ?_
      replace h := obd_of h; obtain ⟨a8, rfl, h⟩ := h
      replace h := obd_of h; obtain ⟨x9, hx9, h⟩ := h
      refine jr_iaload jf_191_38 hx9 ?_
      refine jr_lload_n jf_191_39 rfl hl3 ?_
      replace h := obd_of h; obtain ⟨x10, hx10, h⟩ := h
      refine jr_S3_2 jf_191_40 (by omega) (r_R_valueOf (by omega) _ _ _ _ hx10) (by simp only [jcats_cons, jcats_nil, cat_int, cat_long, cat_double, cat_float, cat_ref, rv_cat]; decide) jml_196 (Nat.le_of_ble_eq_true rfl) ?_
      replace h := obd_of h; obtain ⟨a11, rfl, h⟩ := h
      replace h := obd_of h; obtain ⟨μ12, hμ12, h⟩ := h
      refine jr_dastore jf_191_43 hμ12 ?_
      refine jr_iconst jf_191_44 jc_i_1 ?_
      obtain ⟨rfl, rfl⟩ := Prod.mk.inj (Option.some.inj h)
      exact jr_retZ (x := true) jf_191_45 jmt_191
    · refine jr_ifz_ne_f jf_191_19 hc ?_
      refine jr_iconst jf_191_22 jc_i_0 ?_
      obtain ⟨rfl, rfl⟩ := Prod.mk.inj (Option.some.inj h)
      exact jr_retZ (x := false) jf_191_23 jmt_191
  · refine jr_ifz_eq_t jf_191_6 hc ?_
    refine jr_iconst jf_191_22 jc_i_0 ?_
    obtain ⟨rfl, rfl⟩ := Prod.mk.inj (Option.some.inj h)
    exact jr_retZ (x := false) jf_191_23 jmt_191
set_option maxRecDepth 10000 in
set_option maxHeartbeats 4000000 in
theorem r_R_coefficient {B : Nat} {SA : Nat → Nat} {d : Nat} (hd : 3 ≤ d) : ∀ (v0 : Nat) (v1 : Int32) (v2 : Int32) (v3 : Int64) (μ : JMem) (r : Bool) (μ9 : JMem), g_R_coefficient B v0 v1 v2 v3 μ = some (r, μ9) → jR B SA d m_R_coefficient 0 (lv_args 0 [.ref v0, .int v1, .int v2, .long v3]) [] μ (some (.int (jb r))) μ9 := by
  intro v0 v1 v2 v3 μ r μ9 h
  exact r_R_coefficient_e hd (lv_args 0 _) _ _ _ _ _ _ _ (by simp [lv_args, jget, rv_cat, cat_int, cat_long, cat_double, cat_float, cat_ref]) (by simp [lv_args, jget, rv_cat, cat_int, cat_long, cat_double, cat_float, cat_ref]) (by simp [lv_args, jget, rv_cat, cat_int, cat_long, cat_double, cat_float, cat_ref]) (by simp [lv_args, jget, rv_cat, cat_int, cat_long, cat_double, cat_float, cat_ref]) h
/-! FilterBenchModel.floor(JJ)J -/
set_option maxRecDepth 10000 in
set_option maxHeartbeats 4000000 in
theorem r_R_floor_e {B : Nat} {SA : Nat → Nat} {d : Nat} (hd : 0 ≤ d) : ∀ (L : JLoc) (v0 : Int64) (v2 : Int64) (μ : JMem) (r : Int64), jget L 0 = .long v0 → jget L 2 = .long v2 → g_R_floor v0 v2 = some r → jR B SA d m_R_floor 0 L [] μ (some (.long r)) μ := by
  intro L v0 v2 μ r hl0 hl2 h
  unfold g_R_floor at h
  refine jr_lload_n jf_199_0 rfl hl0 ?_
  refine jr_lload_n jf_199_1 rfl hl2 ?_
  replace h := obd_of h; obtain ⟨x1, hx1, h⟩ := h
  refine jr_ldiv jf_199_2 hx1 ?_
  refine jr_lstore jf_199_3 jml_199 (by decide) ?_
  refine jr_lload_n jf_199_5 rfl (jg2_ne rfl hl0) ?_
  refine jr_lload_n jf_199_6 rfl (jg2_ne rfl hl2) ?_
  replace h := obd_of h; obtain ⟨x2, hx2, h⟩ := h
  refine jr_lrem jf_199_7 hx2 ?_
  refine jr_lconst0 jf_199_8 ?_
  refine jr_lcmp jf_199_9 ?_
  replace h := ite_or h; rcases h with ⟨hc, h⟩ | ⟨hc, h⟩
  · refine jr_ifl_ge_t jf_199_10 hc ?_
    refine jr_lload jf_199_20 jg2_same ?_
    obtain rfl := Option.some.inj h
    exact jr_retJ jf_199_22 jmt_199
  · refine jr_ifl_ge_f jf_199_10 hc ?_
    refine jr_lload jf_199_13 jg2_same ?_
    refine jr_lconst1 jf_199_15 ?_
    refine jr_lsub jf_199_16 ?_
    refine jr_goto jf_199_17 ?_
    obtain rfl := Option.some.inj h
    exact jr_retJ jf_199_22 jmt_199
set_option maxRecDepth 10000 in
set_option maxHeartbeats 4000000 in
theorem r_R_floor {B : Nat} {SA : Nat → Nat} {d : Nat} (hd : 0 ≤ d) : ∀ (v0 : Int64) (v2 : Int64) (μ : JMem) (r : Int64), g_R_floor v0 v2 = some r → jR B SA d m_R_floor 0 (lv_args 0 [.long v0, .long v2]) [] μ (some (.long r)) μ := by
  intro v0 v2 μ r h
  exact r_R_floor_e hd (lv_args 0 _) _ _ _ _ (by simp [lv_args, jget, rv_cat, cat_int, cat_long, cat_double, cat_float, cat_ref]) (by simp [lv_args, jget, rv_cat, cat_int, cat_long, cat_double, cat_float, cat_ref]) h
/-! FilterBenchModel.isPlain(I)Z -/
set_option maxRecDepth 10000 in
set_option maxHeartbeats 4000000 in
theorem r_R_isPlain_12 {B : Nat} {SA : Nat → Nat} {d : Nat} (hd : 0 ≤ d) : ∀ (L : JLoc) (μ : JMem) (r : Bool), g_R_isPlain_12 = r → jR B SA d m_R_isPlain 12 L [] μ (some (.int (jb r))) μ := by
  intro L μ r h
  unfold g_R_isPlain_12 at h
  refine jr_iconst jf_198_12 jc_i_1 ?_
  refine jr_goto jf_198_13 ?_
  subst h
  exact jr_retZ (x := true) jf_198_17 jmt_198
set_option maxRecDepth 10000 in
set_option maxHeartbeats 4000000 in
theorem r_R_isPlain_e {B : Nat} {SA : Nat → Nat} {d : Nat} (hd : 0 ≤ d) : ∀ (L : JLoc) (v0 : Int32) (μ : JMem) (r : Bool), jget L 0 = .int v0 → g_R_isPlain v0 = r → jR B SA d m_R_isPlain 0 L [] μ (some (.int (jb r))) μ := by
  intro L v0 μ r hl0 h
  unfold g_R_isPlain at h
  refine jr_iload_n jf_198_0 rfl hl0 ?_
  refine jr_bipush jf_198_1 jc_b_9 ?_
  replace h := ite_or h; rcases h with ⟨hc, h⟩ | ⟨hc, h⟩
  · refine jr_if2_eq_t jf_198_3 hc ?_
    exact r_R_isPlain_12 hd _  _ _ h
  · refine jr_if2_eq_f jf_198_3 hc ?_
    refine jr_iload_n jf_198_6 rfl hl0 ?_
    refine jr_bipush jf_198_7 jc_b_10 ?_
    replace h := ite_or h; rcases h with ⟨hc, h⟩ | ⟨hc, h⟩
    · refine jr_if2_ne_f jf_198_9 hc ?_
      exact r_R_isPlain_12 hd _  _ _ h
    · refine jr_if2_ne_t jf_198_9 hc ?_
      refine jr_iconst jf_198_16 jc_i_0 ?_
      subst h
      exact jr_retZ (x := false) jf_198_17 jmt_198
set_option maxRecDepth 10000 in
set_option maxHeartbeats 4000000 in
theorem r_R_isPlain {B : Nat} {SA : Nat → Nat} {d : Nat} (hd : 0 ≤ d) : ∀ (v0 : Int32) (μ : JMem) (r : Bool), g_R_isPlain v0 = r → jR B SA d m_R_isPlain 0 (lv_args 0 [.int v0]) [] μ (some (.int (jb r))) μ := by
  intro v0 μ r h
  exact r_R_isPlain_e hd (lv_args 0 _) _ _ _ (by simp [lv_args, jget, rv_cat, cat_int, cat_long, cat_double, cat_float, cat_ref]) h
/-! FilterBenchModel.ratio(IIII)Z -/
set_option maxRecDepth 10000 in
set_option maxHeartbeats 4000000 in
theorem r_R_ratio_167 {B : Nat} {SA : Nat → Nat} {d : Nat} (hd : 3 ≤ d) : ∀ (L : JLoc) (v0 : Nat) (v1 : Int32) (v2 : Int32) (v5 : UInt64) (μ : JMem) (r : Bool) (μ9 : JMem), jget L 0 = .ref v0 → jget L 1 = .int v1 → jget L 2 = .int v2 → jget L 5 = .double v5 → g_R_ratio_167 B v0 v1 v2 v5 μ = some (r, μ9) → jR B SA d m_R_ratio 167 L [] μ (some (.int (jb r))) μ9 := by
  intro L v0 v1 v2 v5 μ r μ9 hl0 hl1 hl2 hl5 h
  unfold g_R_ratio_167 at h
  refine jr_aload_n jf_197_167 rfl hl0 ?_
  replace h := obd_of h; obtain ⟨x1, hx1, h⟩ := h
  refine jr_getA jf_197_168 hx1 ?_
  refine jr_iconst jf_197_171 jc_i_5 ?_
  refine jr_iload_n jf_197_172 rfl hl1 ?_
  refine jr_imul jf_197_173 ?_
  refine jr_iload_n jf_197_174 rfl hl2 ?_
  refine jr_iadd jf_197_175 ?_
  refine jr_dload jf_197_176 hl5 ?_
  replace h := obd_of h; obtain ⟨a2, rfl, h⟩ := h
  replace h := obd_of h; obtain ⟨μ3, hμ3, h⟩ := h
  refine jr_dastore jf_197_178 hμ3 ?_
  refine jr_iconst jf_197_179 jc_i_1 ?_
  obtain ⟨rfl, rfl⟩ := Prod.mk.inj (Option.some.inj h)
  exact jr_retZ (x := true) jf_197_180 jmt_197
set_option maxRecDepth 10000 in
set_option maxHeartbeats 4000000 in
theorem r_R_ratio_151 {B : Nat} {SA : Nat → Nat} {d : Nat} (hd : 3 ≤ d) : ∀ (L : JLoc) (v0 : Nat) (v1 : Int32) (v2 : Int32) (v11 : Int64) (μ : JMem) (r : Bool) (μ9 : JMem), jget L 0 = .ref v0 → jget L 1 = .int v1 → jget L 2 = .int v2 → jget L 11 = .long v11 → g_R_ratio_151 B v0 v1 v2 v11 μ = some (r, μ9) → jR B SA d m_R_ratio 151 L [] μ (some (.int (jb r))) μ9 := by
  intro L v0 v1 v2 v11 μ r μ9 hl0 hl1 hl2 hl11 h
  unfold g_R_ratio_151 at h
  refine jr_iconst jf_197_151 jc_i_2 ?_
  refine jr_lload jf_197_152 hl11 ?_
  refine jr_S3_2 jf_197_154 (by omega) (r_R_isValue (by omega) _ _ _ _ rfl) (Nat.le_of_ble_eq_true rfl) jml_195 (Nat.le_of_ble_eq_true rfl) ?_
  replace h := ite_or h; rcases h with ⟨hc, h⟩ | ⟨hc, h⟩
  · refine jr_ifz_ne_t jf_197_157 hc ?_
    refine jr_lload jf_197_162 hl11 ?_
    refine jr_l2d jf_197_164 ?_
    refine jr_dstore jf_197_165 jml_197 (by decide) ?_
    exact r_R_ratio_167 hd _ _ _ _ _ _ _ _ (jg2_ne rfl hl0) (jg2_ne rfl hl1) (jg2_ne rfl hl2) jg2_same h
  · refine jr_ifz_ne_f jf_197_157 hc ?_
    refine jr_iconst jf_197_160 jc_i_0 ?_
    obtain ⟨rfl, rfl⟩ := Prod.mk.inj (Option.some.inj h)
    exact jr_retZ (x := false) jf_197_161 jmt_197
set_option maxRecDepth 10000 in
set_option maxHeartbeats 4000000 in
theorem r_R_ratio_145 {B : Nat} {SA : Nat → Nat} {d : Nat} (hd : 3 ≤ d) : ∀ (L : JLoc) (v0 : Nat) (v1 : Int32) (v2 : Int32) (v11 : Int64) (μ : JMem) (r : Bool) (μ9 : JMem), jget L 0 = .ref v0 → jget L 1 = .int v1 → jget L 2 = .int v2 → jget L 11 = .long v11 → g_R_ratio_145 B v0 v1 v2 v11 μ = some (r, μ9) → jR B SA d m_R_ratio 145 L [] μ (some (.int (jb r))) μ9 := by
  intro L v0 v1 v2 v11 μ r μ9 hl0 hl1 hl2 hl11 h
  unfold g_R_ratio_145 at h
  refine jr_lload jf_197_145 hl11 ?_
  refine jr_lconst1 jf_197_147 ?_
  refine jr_ladd jf_197_148 ?_
  refine jr_lstore jf_197_149 jml_197 (by decide) ?_
  exact r_R_ratio_151 hd _ _ _ _ _ _ _ _ (jg2_ne rfl hl0) (jg2_ne rfl hl1) (jg2_ne rfl hl2) jg2_same h
set_option maxRecDepth 10000 in
set_option maxHeartbeats 4000000 in
theorem r_R_ratio_97 {B : Nat} {SA : Nat → Nat} {d : Nat} (hd : 3 ≤ d) : ∀ (L : JLoc) (v0 : Nat) (v1 : Int32) (v2 : Int32) (v7 : Int64) (v9 : Int64) (μ : JMem) (r : Bool) (μ9 : JMem), jget L 0 = .ref v0 → jget L 1 = .int v1 → jget L 2 = .int v2 → jget L 7 = .long v7 → jget L 9 = .long v9 → g_R_ratio_97 B v0 v1 v2 v7 v9 μ = some (r, μ9) → jR B SA d m_R_ratio 97 L [] μ (some (.int (jb r))) μ9 := by
  intro L v0 v1 v2 v7 v9 μ r μ9 hl0 hl1 hl2 hl7 hl9 h
  unfold g_R_ratio_97 at h
  refine jr_lload jf_197_97 hl7 ?_
  refine jr_lload jf_197_99 hl9 ?_
  replace h := obd_of h; obtain ⟨x1, hx1, h⟩ := h
  refine jr_S3_2 jf_197_101 (by omega) (r_R_floor (by omega) _ _ _ _ hx1) (Nat.le_of_ble_eq_true rfl) jml_199 (Nat.le_of_ble_eq_true rfl) ?_
  refine jr_lstore jf_197_104 jml_197 (by decide) ?_
  refine jr_ldc2l jf_197_106 ?_
  refine jr_lload jf_197_109 (jg2_ne rfl hl7) ?_
  refine jr_lload jf_197_111 jg2_same ?_
  refine jr_lload jf_197_113 (jg2_ne rfl hl9) ?_
  refine jr_lmul jf_197_115 ?_
  refine jr_lsub jf_197_116 ?_
  refine jr_lmul jf_197_117 ?_
  refine jr_lstore jf_197_118 jml_197 (by decide) ?_
  replace h := jlet_of h
  refine jr_lload jf_197_120 jg2_same ?_
  refine jr_lload jf_197_122 (jg2_ne rfl (jg2_ne rfl hl9)) ?_
  refine jr_lcmp jf_197_124 ?_
  replace h := ite_or h; rcases h with ⟨hc, h⟩ | ⟨hc, h⟩
  · refine jr_ifl_gt_t jf_197_125 hc ?_
    exact r_R_ratio_145 hd _ _ _ _ _ _ _ _ (jg2_ne rfl (jg2_ne rfl hl0)) (jg2_ne rfl (jg2_ne rfl hl1)) (jg2_ne rfl (jg2_ne rfl hl2)) (jg2_ne rfl jg2_same) h
  · refine jr_ifl_gt_f jf_197_125 hc ?_
    refine jr_lload jf_197_128 jg2_same ?_
    refine jr_lload jf_197_130 (jg2_ne rfl (jg2_ne rfl hl9)) ?_
    refine jr_lcmp jf_197_132 ?_
    replace h := ite_or h; rcases h with ⟨hc, h⟩ | ⟨hc, h⟩
    · refine jr_ifl_ne_f jf_197_133 hc ?_
      refine jr_lload jf_197_136 (jg2_ne rfl jg2_same) ?_
      refine jr_lconst1 jf_197_138 ?_
      refine jr_land jf_197_139 ?_
      refine jr_lconst1 jf_197_140 ?_
      refine jr_lcmp jf_197_141 ?_
      replace h := ite_or h; rcases h with ⟨hc, h⟩ | ⟨hc, h⟩
      · refine jr_ifl_ne_f jf_197_142 hc ?_
        exact r_R_ratio_145 hd _ _ _ _ _ _ _ _ (jg2_ne rfl (jg2_ne rfl hl0)) (jg2_ne rfl (jg2_ne rfl hl1)) (jg2_ne rfl (jg2_ne rfl hl2)) (jg2_ne rfl jg2_same) h
      · refine jr_ifl_ne_t jf_197_142 hc ?_
        exact r_R_ratio_151 hd _ _ _ _ _ _ _ _ (jg2_ne rfl (jg2_ne rfl hl0)) (jg2_ne rfl (jg2_ne rfl hl1)) (jg2_ne rfl (jg2_ne rfl hl2)) (jg2_ne rfl jg2_same) h
    · refine jr_ifl_ne_t jf_197_133 hc ?_
      exact r_R_ratio_151 hd _ _ _ _ _ _ _ _ (jg2_ne rfl (jg2_ne rfl hl0)) (jg2_ne rfl (jg2_ne rfl hl1)) (jg2_ne rfl (jg2_ne rfl hl2)) (jg2_ne rfl jg2_same) h
set_option maxRecDepth 10000 in
set_option maxHeartbeats 4000000 in
theorem r_R_ratio_73 {B : Nat} {SA : Nat → Nat} {d : Nat} (hd : 3 ≤ d) : ∀ (L : JLoc) (v0 : Nat) (v1 : Int32) (v2 : Int32) (v4 : Int32) (s0 : Int64) (μ : JMem) (r : Bool) (μ9 : JMem), jget L 0 = .ref v0 → jget L 1 = .int v1 → jget L 2 = .int v2 → jget L 4 = .int v4 → g_R_ratio_73 B v0 v1 v2 v4 s0 μ = some (r, μ9) → jR B SA d m_R_ratio 73 L [.long s0] μ (some (.int (jb r))) μ9 := by
  intro L v0 v1 v2 v4 s0 μ r μ9 hl0 hl1 hl2 hl4 h
  unfold g_R_ratio_73 at h
  refine jr_lstore jf_197_73 jml_197 (by decide) ?_
  refine jr_iload jf_197_75 (jg2_ne rfl hl4) ?_
  refine jr_i2l jf_197_77 ?_
  refine jr_lstore jf_197_78 jml_197 (by decide) ?_
  refine jr_lload jf_197_80 jg2_same ?_
  refine jr_lconst0 jf_197_82 ?_
  refine jr_lcmp jf_197_83 ?_
  replace h := ite_or h; rcases h with ⟨hc, h⟩ | ⟨hc, h⟩
  · refine jr_ifl_ge_t jf_197_84 hc ?_
    exact r_R_ratio_97 hd _ _ _ _ _ _ _ _ _ (jg2_ne rfl (jg2_ne rfl hl0)) (jg2_ne rfl (jg2_ne rfl hl1)) (jg2_ne rfl (jg2_ne rfl hl2)) (jg2_ne rfl jg2_same) jg2_same h
  · refine jr_ifl_ge_f jf_197_84 hc ?_
    refine jr_lload jf_197_87 (jg2_ne rfl jg2_same) ?_
    refine jr_lneg jf_197_89 ?_
    refine jr_lstore jf_197_90 jml_197 (by decide) ?_
    refine jr_lload jf_197_92 (jg2_ne rfl jg2_same) ?_
    refine jr_lneg jf_197_94 ?_
    refine jr_lstore jf_197_95 jml_197 (by decide) ?_
    exact r_R_ratio_97 hd _ _ _ _ _ _ _ _ _ (jg2_ne rfl (jg2_ne rfl (jg2_ne rfl (jg2_ne rfl hl0)))) (jg2_ne rfl (jg2_ne rfl (jg2_ne rfl (jg2_ne rfl hl1)))) (jg2_ne rfl (jg2_ne rfl (jg2_ne rfl (jg2_ne rfl hl2)))) (jg2_ne rfl jg2_same) jg2_same h
set_option maxRecDepth 10000 in
set_option maxHeartbeats 4000000 in
theorem r_R_ratio_40 {B : Nat} {SA : Nat → Nat} {d : Nat} (hd : 3 ≤ d) : ∀ (L : JLoc) (v0 : Nat) (v1 : Int32) (v2 : Int32) (v3 : Int32) (v4 : Int32) (v5 : UInt64) (μ : JMem) (r : Bool) (μ9 : JMem), jget L 0 = .ref v0 → jget L 1 = .int v1 → jget L 2 = .int v2 → jget L 3 = .int v3 → jget L 4 = .int v4 → jget L 5 = .double v5 → g_R_ratio_40 B v0 v1 v2 v3 v4 v5 μ = some (r, μ9) → jR B SA d m_R_ratio 40 L [] μ (some (.int (jb r))) μ9 := by
  intro L v0 v1 v2 v3 v4 v5 μ r μ9 hl0 hl1 hl2 hl3 hl4 hl5 h
  unfold g_R_ratio_40 at h
  refine jr_aload_n jf_197_40 rfl hl0 ?_
  replace h := obd_of h; obtain ⟨x1, hx1, h⟩ := h
  refine jr_getA jf_197_41 hx1 ?_
  refine jr_iload_n jf_197_44 rfl hl1 ?_
  replace h := obd_of h; obtain ⟨a2, rfl, h⟩ := h
  replace h := obd_of h; obtain ⟨x3, hx3, h⟩ := h
  refine jr_iaload jf_197_45 hx3 ?_
  refine jr_iconst jf_197_46 jc_i_2 ?_
  replace h := ite_or h; rcases h with ⟨hc, h⟩ | ⟨hc, h⟩
  · refine jr_if2_ne_f jf_197_47 hc ?_
    refine jr_aload_n jf_197_50 rfl hl0 ?_
    replace h := obd_of h; obtain ⟨x4, hx4, h⟩ := h
    refine jr_getA jf_197_51 hx4 ?_
    refine jr_iload_n jf_197_54 rfl hl1 ?_
    replace h := obd_of h; obtain ⟨a5, rfl, h⟩ := h
    replace h := obd_of h; obtain ⟨x6, hx6, h⟩ := h
    refine jr_iaload jf_197_55 hx6 ?_
    refine jr_S3_1 jf_197_56 (by omega) (r_R_isPlain (by omega) _ _ _ rfl) (Nat.le_of_ble_eq_true rfl) jml_198 (Nat.le_of_ble_eq_true rfl) ?_
    replace h := ite_or h; rcases h with ⟨hc, h⟩ | ⟨hc, h⟩
    · refine jr_ifz_eq_f jf_197_59 hc ?_
      refine jr_iload_n jf_197_62 rfl hl3 ?_
      refine jr_i2l jf_197_63 ?_
      refine jr_goto jf_197_64 ?_
      exact r_R_ratio_73 hd _ _ _ _ _ _ _ _ _ hl0 hl1 hl2 hl4 h
    · refine jr_ifz_eq_t jf_197_59 hc ?_
      refine jr_ldc2l jf_197_67 ?_
      refine jr_iload_n jf_197_70 rfl hl3 ?_
      refine jr_i2l jf_197_71 ?_
      refine jr_lmul jf_197_72 ?_
      exact r_R_ratio_73 hd _ _ _ _ _ _ _ _ _ hl0 hl1 hl2 hl4 h
  · refine jr_if2_ne_t jf_197_47 hc ?_
    exact r_R_ratio_167 hd _ _ _ _ _ _ _ _ hl0 hl1 hl2 hl5 h
set_option maxRecDepth 10000 in
set_option maxHeartbeats 4000000 in
theorem r_R_ratio_e {B : Nat} {SA : Nat → Nat} {d : Nat} (hd : 3 ≤ d) : ∀ (L : JLoc) (v0 : Nat) (v1 : Int32) (v2 : Int32) (v3 : Int32) (v4 : Int32) (μ : JMem) (r : Bool) (μ9 : JMem), jget L 0 = .ref v0 → jget L 1 = .int v1 → jget L 2 = .int v2 → jget L 3 = .int v3 → jget L 4 = .int v4 → g_R_ratio B v0 v1 v2 v3 v4 μ = some (r, μ9) → jR B SA d m_R_ratio 0 L [] μ (some (.int (jb r))) μ9 := by
  intro L v0 v1 v2 v3 v4 μ r μ9 hl0 hl1 hl2 hl3 hl4 h
  unfold g_R_ratio at h
  refine jr_aload_n jf_197_0 rfl hl0 ?_
  refine jr_iload_n jf_197_1 rfl hl1 ?_
  refine jr_iload_n jf_197_2 rfl hl2 ?_
  replace h := jgd_of h; obtain ⟨hb1, h⟩ := h
  replace h := obd_of h; obtain ⟨x2, hx2, h⟩ := h
  refine jr_V6_2 jf_197_3 hb1 (by omega) (r_R_isCoefficient (by omega) _ _ _ _ _ hx2) (Nat.le_of_ble_eq_true rfl) jml_192 (Nat.le_of_ble_eq_true rfl) ?_
  replace h := ite_or h; rcases h with ⟨hc, h⟩ | ⟨hc, h⟩
  · refine jr_ifz_eq_f jf_197_6 hc ?_
    refine jr_iload jf_197_9 hl4 ?_
    replace h := ite_or h; rcases h with ⟨hc, h⟩ | ⟨hc, h⟩
    · refine jr_if_ne_f jf_197_11 hc ?_
      refine jr_iconst jf_197_14 jc_i_0 ?_
      obtain ⟨rfl, rfl⟩ := Prod.mk.inj (Option.some.inj h)
      exact jr_retZ (x := false) jf_197_15 jmt_197
    · refine jr_if_ne_t jf_197_11 hc ?_
      refine jr_iload_n jf_197_16 rfl hl3 ?_
      refine jr_i2d jf_197_17 ?_
      refine jr_iload jf_197_18 hl4 ?_
      refine jr_i2d jf_197_20 ?_
      replace h := obd_of h; obtain ⟨x3, hx3, h⟩ := h
      refine jr_ddiv jf_197_21 hx3 ?_
      refine jr_dstore jf_197_22 jml_197 (by decide) ?_
      refine jr_aload_n jf_197_24 rfl (jg2_ne rfl hl0) ?_
      replace h := obd_of h; obtain ⟨x4, hx4, h⟩ := h
      refine jr_getA jf_197_25 hx4 ?_
      refine jr_iload_n jf_197_28 rfl (jg2_ne rfl hl1) ?_
      replace h := obd_of h; obtain ⟨a5, rfl, h⟩ := h
      replace h := obd_of h; obtain ⟨x6, hx6, h⟩ := h
      refine jr_iaload jf_197_29 hx6 ?_
      refine jr_iconst jf_197_30 jc_i_1 ?_
      replace h := ite_or h; rcases h with ⟨hc, h⟩ | ⟨hc, h⟩
      · refine jr_if2_ne_f jf_197_31 hc ?_
        refine jr_dload jf_197_34 jg2_same ?_
        replace h := obd_of h; obtain ⟨x7, hx7, h⟩ := h
        refine jr_d2f jf_197_36 hx7 ?_
        replace h := obd_of h; obtain ⟨x8, hx8, h⟩ := h
        refine jr_f2d jf_197_37 hx8 ?_
        refine jr_dstore jf_197_38 jml_197 (by decide) ?_
        exact r_R_ratio_40 hd _ _ _ _ _ _ _ _ _ _ (jg2_ne rfl (jg2_ne rfl hl0)) (jg2_ne rfl (jg2_ne rfl hl1)) (jg2_ne rfl (jg2_ne rfl hl2)) (jg2_ne rfl (jg2_ne rfl hl3)) (jg2_pre rfl (jg2_pre rfl hl4)) jg2_same h
      · refine jr_if2_ne_t jf_197_31 hc ?_
        exact r_R_ratio_40 hd _ _ _ _ _ _ _ _ _ _ (jg2_ne rfl hl0) (jg2_ne rfl hl1) (jg2_ne rfl hl2) (jg2_ne rfl hl3) (jg2_pre rfl hl4) jg2_same h
  · refine jr_ifz_eq_t jf_197_6 hc ?_
    refine jr_iconst jf_197_14 jc_i_0 ?_
    obtain ⟨rfl, rfl⟩ := Prod.mk.inj (Option.some.inj h)
    exact jr_retZ (x := false) jf_197_15 jmt_197
set_option maxRecDepth 10000 in
set_option maxHeartbeats 4000000 in
theorem r_R_ratio {B : Nat} {SA : Nat → Nat} {d : Nat} (hd : 3 ≤ d) : ∀ (v0 : Nat) (v1 : Int32) (v2 : Int32) (v3 : Int32) (v4 : Int32) (μ : JMem) (r : Bool) (μ9 : JMem), g_R_ratio B v0 v1 v2 v3 v4 μ = some (r, μ9) → jR B SA d m_R_ratio 0 (lv_args 0 [.ref v0, .int v1, .int v2, .int v3, .int v4]) [] μ (some (.int (jb r))) μ9 := by
  intro v0 v1 v2 v3 v4 μ r μ9 h
  exact r_R_ratio_e hd (lv_args 0 _) _ _ _ _ _ _ _ _ (by simp [lv_args, jget, rv_cat, cat_int, cat_long, cat_double, cat_float, cat_ref]) (by simp [lv_args, jget, rv_cat, cat_int, cat_long, cat_double, cat_float, cat_ref]) (by simp [lv_args, jget, rv_cat, cat_int, cat_long, cat_double, cat_float, cat_ref]) (by simp [lv_args, jget, rv_cat, cat_int, cat_long, cat_double, cat_float, cat_ref]) (by simp [lv_args, jget, rv_cat, cat_int, cat_long, cat_double, cat_float, cat_ref]) h
